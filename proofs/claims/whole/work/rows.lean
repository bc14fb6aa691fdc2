section
-- ===== PART A: goes FIRST, ahead of the names: the tables' words, and 'selects' of the private methods out of them =====
/-- a private method of a class that the tables say can be made, by its rows of tables_1 -/
def lw_okq (q : MethodName × Nat) : Prop := (q.1.cls ≠ "java/lang/invoke/MethodHandle" ∧ q.1.cls ≠ "java/lang/invoke/VarHandle") ∧ Cond.instantiable q.1.cls q.2 ∈ tables_1 ∧ Cond.privateMethod q.1 ∈ tables_1 ∧ Cond.instanceMethod q.1 ∈ tables_1
theorem lw_p0 : lw_okq (⟨"HalfGames", "found", "(I)J"⟩, 12) := ⟨⟨by decide +kernel, by decide +kernel⟩, List.mem_of_getElem? (i := 19) (by decide +kernel), List.mem_of_getElem? (i := 322) (by decide +kernel), List.mem_of_getElem? (i := 323) (by decide +kernel)⟩
theorem lw_p1 : lw_okq (⟨"HalfGames", "fine", "(J)J"⟩, 12) := ⟨⟨by decide +kernel, by decide +kernel⟩, List.mem_of_getElem? (i := 19) (by decide +kernel), List.mem_of_getElem? (i := 331) (by decide +kernel), List.mem_of_getElem? (i := 332) (by decide +kernel)⟩
theorem lw_p2 : lw_okq (⟨"HalfGames$Tape", "stepOverName", "()V"⟩, 6) := ⟨⟨by decide +kernel, by decide +kernel⟩, List.mem_of_getElem? (i := 49) (by decide +kernel), List.mem_of_getElem? (i := 402) (by decide +kernel), List.mem_of_getElem? (i := 403) (by decide +kernel)⟩
theorem lw_p3 : lw_okq (⟨"HalfGames$Tape", "isName", "(Ljava/lang/String;)Z"⟩, 6) := ⟨⟨by decide +kernel, by decide +kernel⟩, List.mem_of_getElem? (i := 49) (by decide +kernel), List.mem_of_getElem? (i := 407) (by decide +kernel), List.mem_of_getElem? (i := 408) (by decide +kernel)⟩
theorem lw_p4 : lw_okq (⟨"HalfGames$Tape", "stepOverNumber", "()V"⟩, 6) := ⟨⟨by decide +kernel, by decide +kernel⟩, List.mem_of_getElem? (i := 49) (by decide +kernel), List.mem_of_getElem? (i := 465) (by decide +kernel), List.mem_of_getElem? (i := 466) (by decide +kernel)⟩
theorem lw_p5 : lw_okq (⟨"HalfGames$Reader", "readPlace", "(LHalfGames$Tape;LHalfGames$Game;III)Z"⟩, 2) := ⟨⟨by decide +kernel, by decide +kernel⟩, List.mem_of_getElem? (i := 79) (by decide +kernel), List.mem_of_getElem? (i := 470) (by decide +kernel), List.mem_of_getElem? (i := 471) (by decide +kernel)⟩
theorem lw_p6 : lw_okq (⟨"HalfGames$Reader", "fail", "(LHalfGames$Tape;I)Z"⟩, 2) := ⟨⟨by decide +kernel, by decide +kernel⟩, List.mem_of_getElem? (i := 79) (by decide +kernel), List.mem_of_getElem? (i := 474) (by decide +kernel), List.mem_of_getElem? (i := 475) (by decide +kernel)⟩
theorem lw_p7 : lw_okq (⟨"HalfGames$Reader", "readPay", "(LHalfGames$Tape;LHalfGames$Game;I)Z"⟩, 2) := ⟨⟨by decide +kernel, by decide +kernel⟩, List.mem_of_getElem? (i := 79) (by decide +kernel), List.mem_of_getElem? (i := 483) (by decide +kernel), List.mem_of_getElem? (i := 484) (by decide +kernel)⟩
theorem lw_p8 : lw_okq (⟨"HalfGames$Reader", "readDeal", "(LHalfGames$Tape;LHalfGames$Game;I)Z"⟩, 2) := ⟨⟨by decide +kernel, by decide +kernel⟩, List.mem_of_getElem? (i := 79) (by decide +kernel), List.mem_of_getElem? (i := 487) (by decide +kernel), List.mem_of_getElem? (i := 488) (by decide +kernel)⟩
theorem lw_p9 : lw_okq (⟨"HalfGames$Reader", "readHeld", "(LHalfGames$Tape;LHalfGames$Game;I)Z"⟩, 2) := ⟨⟨by decide +kernel, by decide +kernel⟩, List.mem_of_getElem? (i := 79) (by decide +kernel), List.mem_of_getElem? (i := 491) (by decide +kernel), List.mem_of_getElem? (i := 492) (by decide +kernel)⟩
theorem lw_p10 : lw_okq (⟨"HalfGames$Game", "tellPast", "(I)V"⟩, 18) := ⟨⟨by decide +kernel, by decide +kernel⟩, List.mem_of_getElem? (i := 177) (by decide +kernel), List.mem_of_getElem? (i := 511) (by decide +kernel), List.mem_of_getElem? (i := 512) (by decide +kernel)⟩
theorem lw_p11 : lw_okq (⟨"HalfGames", "isPlace", "(I)Z"⟩, 12) := ⟨⟨by decide +kernel, by decide +kernel⟩, List.mem_of_getElem? (i := 19) (by decide +kernel), List.mem_of_getElem? (i := 548) (by decide +kernel), List.mem_of_getElem? (i := 549) (by decide +kernel)⟩
theorem lw_p12 : lw_okq (⟨"HalfGames", "isSet", "(I)Z"⟩, 12) := ⟨⟨by decide +kernel, by decide +kernel⟩, List.mem_of_getElem? (i := 19) (by decide +kernel), List.mem_of_getElem? (i := 567) (by decide +kernel), List.mem_of_getElem? (i := 568) (by decide +kernel)⟩
theorem lw_p13 : lw_okq (⟨"HalfGames", "isAct", "(II)Z"⟩, 12) := ⟨⟨by decide +kernel, by decide +kernel⟩, List.mem_of_getElem? (i := 19) (by decide +kernel), List.mem_of_getElem? (i := 585) (by decide +kernel), List.mem_of_getElem? (i := 586) (by decide +kernel)⟩
theorem lw_p14 : lw_okq (⟨"HalfGames", "hasGame", "()Z"⟩, 12) := ⟨⟨by decide +kernel, by decide +kernel⟩, List.mem_of_getElem? (i := 19) (by decide +kernel), List.mem_of_getElem? (i := 597) (by decide +kernel), List.mem_of_getElem? (i := 598) (by decide +kernel)⟩
theorem lw_p15 : lw_okq (⟨"HalfGames", "valueOfPlan", "()J"⟩, 12) := ⟨⟨by decide +kernel, by decide +kernel⟩, List.mem_of_getElem? (i := 19) (by decide +kernel), List.mem_of_getElem? (i := 601) (by decide +kernel), List.mem_of_getElem? (i := 602) (by decide +kernel)⟩
def lw_privs_1 : List (MethodName × Nat) := [(⟨"HalfGames", "found", "(I)J"⟩, 12), (⟨"HalfGames", "fine", "(J)J"⟩, 12), (⟨"HalfGames$Tape", "stepOverName", "()V"⟩, 6), (⟨"HalfGames$Tape", "isName", "(Ljava/lang/String;)Z"⟩, 6), (⟨"HalfGames$Tape", "stepOverNumber", "()V"⟩, 6), (⟨"HalfGames$Reader", "readPlace", "(LHalfGames$Tape;LHalfGames$Game;III)Z"⟩, 2), (⟨"HalfGames$Reader", "fail", "(LHalfGames$Tape;I)Z"⟩, 2), (⟨"HalfGames$Reader", "readPay", "(LHalfGames$Tape;LHalfGames$Game;I)Z"⟩, 2), (⟨"HalfGames$Reader", "readDeal", "(LHalfGames$Tape;LHalfGames$Game;I)Z"⟩, 2), (⟨"HalfGames$Reader", "readHeld", "(LHalfGames$Tape;LHalfGames$Game;I)Z"⟩, 2), (⟨"HalfGames$Game", "tellPast", "(I)V"⟩, 18), (⟨"HalfGames", "isPlace", "(I)Z"⟩, 12), (⟨"HalfGames", "isSet", "(I)Z"⟩, 12), (⟨"HalfGames", "isAct", "(II)Z"⟩, 12), (⟨"HalfGames", "hasGame", "()Z"⟩, 12), (⟨"HalfGames", "valueOfPlan", "()J"⟩, 12)]
theorem lw_r1 : ∀ q ∈ lw_privs_1, lw_okq q := List.forall_mem_cons.mpr ⟨lw_p0, List.forall_mem_cons.mpr ⟨lw_p1, List.forall_mem_cons.mpr ⟨lw_p2, List.forall_mem_cons.mpr ⟨lw_p3, List.forall_mem_cons.mpr ⟨lw_p4, List.forall_mem_cons.mpr ⟨lw_p5, List.forall_mem_cons.mpr ⟨lw_p6, List.forall_mem_cons.mpr ⟨lw_p7, List.forall_mem_cons.mpr ⟨lw_p8, List.forall_mem_cons.mpr ⟨lw_p9, List.forall_mem_cons.mpr ⟨lw_p10, List.forall_mem_cons.mpr ⟨lw_p11, List.forall_mem_cons.mpr ⟨lw_p12, List.forall_mem_cons.mpr ⟨lw_p13, List.forall_mem_cons.mpr ⟨lw_p14, List.forall_mem_cons.mpr ⟨lw_p15, fun _ h => absurd h List.not_mem_nil⟩⟩⟩⟩⟩⟩⟩⟩⟩⟩⟩⟩⟩⟩⟩⟩
theorem lw_p16 : lw_okq (⟨"HalfGames", "valueOfAnswer", "(I)J"⟩, 12) := ⟨⟨by decide +kernel, by decide +kernel⟩, List.mem_of_getElem? (i := 19) (by decide +kernel), List.mem_of_getElem? (i := 622) (by decide +kernel), List.mem_of_getElem? (i := 623) (by decide +kernel)⟩
theorem lw_p17 : lw_okq (⟨"HalfGames$Solver", "tellGroups", "(LHalfGames$Game;I)V"⟩, 7) := ⟨⟨by decide +kernel, by decide +kernel⟩, List.mem_of_getElem? (i := 104) (by decide +kernel), List.mem_of_getElem? (i := 630) (by decide +kernel), List.mem_of_getElem? (i := 631) (by decide +kernel)⟩
theorem lw_p18 : lw_okq (⟨"HalfGames$Solver", "leastAlike", "(LHalfGames$Game;I)I"⟩, 7) := ⟨⟨by decide +kernel, by decide +kernel⟩, List.mem_of_getElem? (i := 104) (by decide +kernel), List.mem_of_getElem? (i := 635) (by decide +kernel), List.mem_of_getElem? (i := 636) (by decide +kernel)⟩
theorem lw_p19 : lw_okq (⟨"HalfGames$Solver", "addUp", "(LHalfGames$Game;II)V"⟩, 7) := ⟨⟨by decide +kernel, by decide +kernel⟩, List.mem_of_getElem? (i := 104) (by decide +kernel), List.mem_of_getElem? (i := 650) (by decide +kernel), List.mem_of_getElem? (i := 651) (by decide +kernel)⟩
theorem lw_p20 : lw_okq (⟨"HalfGames$Solver", "chooseActs", "(LHalfGames$Game;II)V"⟩, 7) := ⟨⟨by decide +kernel, by decide +kernel⟩, List.mem_of_getElem? (i := 104) (by decide +kernel), List.mem_of_getElem? (i := 662) (by decide +kernel), List.mem_of_getElem? (i := 663) (by decide +kernel)⟩
theorem lw_p21 : lw_okq (⟨"HalfGames$Solver", "chooseAct", "(LHalfGames$Game;II)I"⟩, 7) := ⟨⟨by decide +kernel, by decide +kernel⟩, List.mem_of_getElem? (i := 104) (by decide +kernel), List.mem_of_getElem? (i := 666) (by decide +kernel), List.mem_of_getElem? (i := 667) (by decide +kernel)⟩
theorem lw_p22 : lw_okq (⟨"HalfGames$Solver", "isBarred", "(LHalfGames$Game;II)Z"⟩, 7) := ⟨⟨by decide +kernel, by decide +kernel⟩, List.mem_of_getElem? (i := 104) (by decide +kernel), List.mem_of_getElem? (i := 670) (by decide +kernel), List.mem_of_getElem? (i := 671) (by decide +kernel)⟩
theorem lw_p23 : lw_okq (⟨"HalfGames$Solver", "weigh", "(LHalfGames$Game;II[J)V"⟩, 7) := ⟨⟨by decide +kernel, by decide +kernel⟩, List.mem_of_getElem? (i := 104) (by decide +kernel), List.mem_of_getElem? (i := 677) (by decide +kernel), List.mem_of_getElem? (i := 678) (by decide +kernel)⟩
theorem lw_p24 : lw_okq (⟨"HalfGames$Solver", "worthOf", "(LHalfGames$Game;IIJ)J"⟩, 7) := ⟨⟨by decide +kernel, by decide +kernel⟩, List.mem_of_getElem? (i := 104) (by decide +kernel), List.mem_of_getElem? (i := 681) (by decide +kernel), List.mem_of_getElem? (i := 682) (by decide +kernel)⟩
theorem lw_p25 : lw_okq (⟨"HalfGames$History", "noteAnswer", "(LHalfGames$Game;LHalfGames$Solver;I)V"⟩, 6) := ⟨⟨by decide +kernel, by decide +kernel⟩, List.mem_of_getElem? (i := 134) (by decide +kernel), List.mem_of_getElem? (i := 723) (by decide +kernel), List.mem_of_getElem? (i := 724) (by decide +kernel)⟩
theorem lw_p26 : lw_okq (⟨"HalfGames$History", "addReach", "(LHalfGames$Game;I)V"⟩, 6) := ⟨⟨by decide +kernel, by decide +kernel⟩, List.mem_of_getElem? (i := 134) (by decide +kernel), List.mem_of_getElem? (i := 739) (by decide +kernel), List.mem_of_getElem? (i := 740) (by decide +kernel)⟩
theorem lw_p27 : lw_okq (⟨"HalfGames$Asker", "runBody", "(LHalfGames$Game;III)J"⟩, 2) := ⟨⟨by decide +kernel, by decide +kernel⟩, List.mem_of_getElem? (i := 162) (by decide +kernel), List.mem_of_getElem? (i := 791) (by decide +kernel), List.mem_of_getElem? (i := 792) (by decide +kernel)⟩
theorem lw_p28 : lw_okq (⟨"HalfGames$Asker", "leave", "(I)V"⟩, 2) := ⟨⟨by decide +kernel, by decide +kernel⟩, List.mem_of_getElem? (i := 162) (by decide +kernel), List.mem_of_getElem? (i := 795) (by decide +kernel), List.mem_of_getElem? (i := 796) (by decide +kernel)⟩
theorem lw_p29 : lw_okq (⟨"HalfGamesModel", "found", "(I)J"⟩, 40) := ⟨⟨by decide +kernel, by decide +kernel⟩, List.mem_of_getElem? (i := 833) (by decide +kernel), List.mem_of_getElem? (i := 973) (by decide +kernel), List.mem_of_getElem? (i := 974) (by decide +kernel)⟩
theorem lw_p30 : lw_okq (⟨"HalfGamesModel", "taken", "(J)J"⟩, 40) := ⟨⟨by decide +kernel, by decide +kernel⟩, List.mem_of_getElem? (i := 833) (by decide +kernel), List.mem_of_getElem? (i := 978) (by decide +kernel), List.mem_of_getElem? (i := 979) (by decide +kernel)⟩
theorem lw_p31 : lw_okq (⟨"HalfGamesModel", "readsAll", "()I"⟩, 40) := ⟨⟨by decide +kernel, by decide +kernel⟩, List.mem_of_getElem? (i := 833) (by decide +kernel), List.mem_of_getElem? (i := 1005) (by decide +kernel), List.mem_of_getElem? (i := 1006) (by decide +kernel)⟩
def lw_privs_2 : List (MethodName × Nat) := [(⟨"HalfGames", "valueOfAnswer", "(I)J"⟩, 12), (⟨"HalfGames$Solver", "tellGroups", "(LHalfGames$Game;I)V"⟩, 7), (⟨"HalfGames$Solver", "leastAlike", "(LHalfGames$Game;I)I"⟩, 7), (⟨"HalfGames$Solver", "addUp", "(LHalfGames$Game;II)V"⟩, 7), (⟨"HalfGames$Solver", "chooseActs", "(LHalfGames$Game;II)V"⟩, 7), (⟨"HalfGames$Solver", "chooseAct", "(LHalfGames$Game;II)I"⟩, 7), (⟨"HalfGames$Solver", "isBarred", "(LHalfGames$Game;II)Z"⟩, 7), (⟨"HalfGames$Solver", "weigh", "(LHalfGames$Game;II[J)V"⟩, 7), (⟨"HalfGames$Solver", "worthOf", "(LHalfGames$Game;IIJ)J"⟩, 7), (⟨"HalfGames$History", "noteAnswer", "(LHalfGames$Game;LHalfGames$Solver;I)V"⟩, 6), (⟨"HalfGames$History", "addReach", "(LHalfGames$Game;I)V"⟩, 6), (⟨"HalfGames$Asker", "runBody", "(LHalfGames$Game;III)J"⟩, 2), (⟨"HalfGames$Asker", "leave", "(I)V"⟩, 2), (⟨"HalfGamesModel", "found", "(I)J"⟩, 40), (⟨"HalfGamesModel", "taken", "(J)J"⟩, 40), (⟨"HalfGamesModel", "readsAll", "()I"⟩, 40)]
theorem lw_r2 : ∀ q ∈ lw_privs_2, lw_okq q := List.forall_mem_cons.mpr ⟨lw_p16, List.forall_mem_cons.mpr ⟨lw_p17, List.forall_mem_cons.mpr ⟨lw_p18, List.forall_mem_cons.mpr ⟨lw_p19, List.forall_mem_cons.mpr ⟨lw_p20, List.forall_mem_cons.mpr ⟨lw_p21, List.forall_mem_cons.mpr ⟨lw_p22, List.forall_mem_cons.mpr ⟨lw_p23, List.forall_mem_cons.mpr ⟨lw_p24, List.forall_mem_cons.mpr ⟨lw_p25, List.forall_mem_cons.mpr ⟨lw_p26, List.forall_mem_cons.mpr ⟨lw_p27, List.forall_mem_cons.mpr ⟨lw_p28, List.forall_mem_cons.mpr ⟨lw_p29, List.forall_mem_cons.mpr ⟨lw_p30, List.forall_mem_cons.mpr ⟨lw_p31, fun _ h => absurd h List.not_mem_nil⟩⟩⟩⟩⟩⟩⟩⟩⟩⟩⟩⟩⟩⟩⟩⟩
theorem lw_p32 : lw_okq (⟨"HalfGamesModel", "readsShare", "()I"⟩, 40) := ⟨⟨by decide +kernel, by decide +kernel⟩, List.mem_of_getElem? (i := 833) (by decide +kernel), List.mem_of_getElem? (i := 1009) (by decide +kernel), List.mem_of_getElem? (i := 1010) (by decide +kernel)⟩
theorem lw_p33 : lw_okq (⟨"HalfGamesModel", "token", "()V"⟩, 40) := ⟨⟨by decide +kernel, by decide +kernel⟩, List.mem_of_getElem? (i := 833) (by decide +kernel), List.mem_of_getElem? (i := 1013) (by decide +kernel), List.mem_of_getElem? (i := 1014) (by decide +kernel)⟩
theorem lw_p34 : lw_okq (⟨"HalfGamesModel", "readsPlace", "()I"⟩, 40) := ⟨⟨by decide +kernel, by decide +kernel⟩, List.mem_of_getElem? (i := 833) (by decide +kernel), List.mem_of_getElem? (i := 1022) (by decide +kernel), List.mem_of_getElem? (i := 1023) (by decide +kernel)⟩
theorem lw_p35 : lw_okq (⟨"HalfGamesModel", "wordNow", "()I"⟩, 40) := ⟨⟨by decide +kernel, by decide +kernel⟩, List.mem_of_getElem? (i := 833) (by decide +kernel), List.mem_of_getElem? (i := 1026) (by decide +kernel), List.mem_of_getElem? (i := 1027) (by decide +kernel)⟩
theorem lw_p36 : lw_okq (⟨"HalfGamesModel", "isWord", "(IIII)Z"⟩, 40) := ⟨⟨by decide +kernel, by decide +kernel⟩, List.mem_of_getElem? (i := 833) (by decide +kernel), List.mem_of_getElem? (i := 1030) (by decide +kernel), List.mem_of_getElem? (i := 1031) (by decide +kernel)⟩
theorem lw_p37 : lw_okq (⟨"HalfGamesModel", "readsDeal", "(I)I"⟩, 40) := ⟨⟨by decide +kernel, by decide +kernel⟩, List.mem_of_getElem? (i := 833) (by decide +kernel), List.mem_of_getElem? (i := 1035) (by decide +kernel), List.mem_of_getElem? (i := 1036) (by decide +kernel)⟩
theorem lw_p38 : lw_okq (⟨"HalfGamesModel", "readsHeld", "(II)I"⟩, 40) := ⟨⟨by decide +kernel, by decide +kernel⟩, List.mem_of_getElem? (i := 833) (by decide +kernel), List.mem_of_getElem? (i := 1040) (by decide +kernel), List.mem_of_getElem? (i := 1041) (by decide +kernel)⟩
theorem lw_p39 : lw_okq (⟨"HalfGamesModel", "isPlace", "(I)Z"⟩, 40) := ⟨⟨by decide +kernel, by decide +kernel⟩, List.mem_of_getElem? (i := 833) (by decide +kernel), List.mem_of_getElem? (i := 1054) (by decide +kernel), List.mem_of_getElem? (i := 1055) (by decide +kernel)⟩
theorem lw_p40 : lw_okq (⟨"HalfGamesModel", "placesIn", "(I)I"⟩, 40) := ⟨⟨by decide +kernel, by decide +kernel⟩, List.mem_of_getElem? (i := 833) (by decide +kernel), List.mem_of_getElem? (i := 1064) (by decide +kernel), List.mem_of_getElem? (i := 1065) (by decide +kernel)⟩
theorem lw_p41 : lw_okq (⟨"HalfGamesModel", "isForgetful", "(I)Z"⟩, 40) := ⟨⟨by decide +kernel, by decide +kernel⟩, List.mem_of_getElem? (i := 833) (by decide +kernel), List.mem_of_getElem? (i := 1072) (by decide +kernel), List.mem_of_getElem? (i := 1073) (by decide +kernel)⟩
theorem lw_p42 : lw_okq (⟨"HalfGamesModel", "isOf", "(II)Z"⟩, 40) := ⟨⟨by decide +kernel, by decide +kernel⟩, List.mem_of_getElem? (i := 833) (by decide +kernel), List.mem_of_getElem? (i := 1076) (by decide +kernel), List.mem_of_getElem? (i := 1077) (by decide +kernel)⟩
theorem lw_p43 : lw_okq (⟨"HalfGamesModel", "areAlike", "(III)Z"⟩, 40) := ⟨⟨by decide +kernel, by decide +kernel⟩, List.mem_of_getElem? (i := 833) (by decide +kernel), List.mem_of_getElem? (i := 1080) (by decide +kernel), List.mem_of_getElem? (i := 1081) (by decide +kernel)⟩
theorem lw_p44 : lw_okq (⟨"HalfGamesModel", "ownAbove", "(II)I"⟩, 40) := ⟨⟨by decide +kernel, by decide +kernel⟩, List.mem_of_getElem? (i := 833) (by decide +kernel), List.mem_of_getElem? (i := 1084) (by decide +kernel), List.mem_of_getElem? (i := 1085) (by decide +kernel)⟩
theorem lw_p45 : lw_okq (⟨"HalfGamesModel", "wayTo", "(II)I"⟩, 40) := ⟨⟨by decide +kernel, by decide +kernel⟩, List.mem_of_getElem? (i := 833) (by decide +kernel), List.mem_of_getElem? (i := 1088) (by decide +kernel), List.mem_of_getElem? (i := 1089) (by decide +kernel)⟩
theorem lw_p46 : lw_okq (⟨"HalfGamesModel", "isSet", "(I)Z"⟩, 40) := ⟨⟨by decide +kernel, by decide +kernel⟩, List.mem_of_getElem? (i := 833) (by decide +kernel), List.mem_of_getElem? (i := 1096) (by decide +kernel), List.mem_of_getElem? (i := 1097) (by decide +kernel)⟩
theorem lw_p47 : lw_okq (⟨"HalfGamesModel", "valueNow", "()J"⟩, 40) := ⟨⟨by decide +kernel, by decide +kernel⟩, List.mem_of_getElem? (i := 833) (by decide +kernel), List.mem_of_getElem? (i := 1110) (by decide +kernel), List.mem_of_getElem? (i := 1111) (by decide +kernel)⟩
def lw_privs_3 : List (MethodName × Nat) := [(⟨"HalfGamesModel", "readsShare", "()I"⟩, 40), (⟨"HalfGamesModel", "token", "()V"⟩, 40), (⟨"HalfGamesModel", "readsPlace", "()I"⟩, 40), (⟨"HalfGamesModel", "wordNow", "()I"⟩, 40), (⟨"HalfGamesModel", "isWord", "(IIII)Z"⟩, 40), (⟨"HalfGamesModel", "readsDeal", "(I)I"⟩, 40), (⟨"HalfGamesModel", "readsHeld", "(II)I"⟩, 40), (⟨"HalfGamesModel", "isPlace", "(I)Z"⟩, 40), (⟨"HalfGamesModel", "placesIn", "(I)I"⟩, 40), (⟨"HalfGamesModel", "isForgetful", "(I)Z"⟩, 40), (⟨"HalfGamesModel", "isOf", "(II)Z"⟩, 40), (⟨"HalfGamesModel", "areAlike", "(III)Z"⟩, 40), (⟨"HalfGamesModel", "ownAbove", "(II)I"⟩, 40), (⟨"HalfGamesModel", "wayTo", "(II)I"⟩, 40), (⟨"HalfGamesModel", "isSet", "(I)Z"⟩, 40), (⟨"HalfGamesModel", "valueNow", "()J"⟩, 40)]
theorem lw_r3 : ∀ q ∈ lw_privs_3, lw_okq q := List.forall_mem_cons.mpr ⟨lw_p32, List.forall_mem_cons.mpr ⟨lw_p33, List.forall_mem_cons.mpr ⟨lw_p34, List.forall_mem_cons.mpr ⟨lw_p35, List.forall_mem_cons.mpr ⟨lw_p36, List.forall_mem_cons.mpr ⟨lw_p37, List.forall_mem_cons.mpr ⟨lw_p38, List.forall_mem_cons.mpr ⟨lw_p39, List.forall_mem_cons.mpr ⟨lw_p40, List.forall_mem_cons.mpr ⟨lw_p41, List.forall_mem_cons.mpr ⟨lw_p42, List.forall_mem_cons.mpr ⟨lw_p43, List.forall_mem_cons.mpr ⟨lw_p44, List.forall_mem_cons.mpr ⟨lw_p45, List.forall_mem_cons.mpr ⟨lw_p46, List.forall_mem_cons.mpr ⟨lw_p47, fun _ h => absurd h List.not_mem_nil⟩⟩⟩⟩⟩⟩⟩⟩⟩⟩⟩⟩⟩⟩⟩⟩
theorem lw_p48 : lw_okq (⟨"HalfGamesModel", "layReach", "(II)V"⟩, 40) := ⟨⟨by decide +kernel, by decide +kernel⟩, List.mem_of_getElem? (i := 833) (by decide +kernel), List.mem_of_getElem? (i := 1114) (by decide +kernel), List.mem_of_getElem? (i := 1115) (by decide +kernel)⟩
theorem lw_p49 : lw_okq (⟨"HalfGamesModel", "shareTo", "(III)I"⟩, 40) := ⟨⟨by decide +kernel, by decide +kernel⟩, List.mem_of_getElem? (i := 833) (by decide +kernel), List.mem_of_getElem? (i := 1119) (by decide +kernel), List.mem_of_getElem? (i := 1120) (by decide +kernel)⟩
theorem lw_p50 : lw_okq (⟨"HalfGamesModel", "answerOf", "(I)J"⟩, 40) := ⟨⟨by decide +kernel, by decide +kernel⟩, List.mem_of_getElem? (i := 833) (by decide +kernel), List.mem_of_getElem? (i := 1131) (by decide +kernel), List.mem_of_getElem? (i := 1132) (by decide +kernel)⟩
theorem lw_p51 : lw_okq (⟨"HalfGamesModel", "layGroups", "()V"⟩, 40) := ⟨⟨by decide +kernel, by decide +kernel⟩, List.mem_of_getElem? (i := 833) (by decide +kernel), List.mem_of_getElem? (i := 1135) (by decide +kernel), List.mem_of_getElem? (i := 1136) (by decide +kernel)⟩
theorem lw_p52 : lw_okq (⟨"HalfGamesModel", "layCounts", "(I)V"⟩, 40) := ⟨⟨by decide +kernel, by decide +kernel⟩, List.mem_of_getElem? (i := 833) (by decide +kernel), List.mem_of_getElem? (i := 1139) (by decide +kernel), List.mem_of_getElem? (i := 1140) (by decide +kernel)⟩
theorem lw_p53 : lw_okq (⟨"HalfGamesModel", "answerBy", "(I)J"⟩, 40) := ⟨⟨by decide +kernel, by decide +kernel⟩, List.mem_of_getElem? (i := 833) (by decide +kernel), List.mem_of_getElem? (i := 1143) (by decide +kernel), List.mem_of_getElem? (i := 1144) (by decide +kernel)⟩
theorem lw_p54 : lw_okq (⟨"HalfGamesModel", "layWorth", "(I)V"⟩, 40) := ⟨⟨by decide +kernel, by decide +kernel⟩, List.mem_of_getElem? (i := 833) (by decide +kernel), List.mem_of_getElem? (i := 1147) (by decide +kernel), List.mem_of_getElem? (i := 1148) (by decide +kernel)⟩
theorem lw_p55 : lw_okq (⟨"HalfGamesModel", "ownDeep", "(II)I"⟩, 40) := ⟨⟨by decide +kernel, by decide +kernel⟩, List.mem_of_getElem? (i := 833) (by decide +kernel), List.mem_of_getElem? (i := 1151) (by decide +kernel), List.mem_of_getElem? (i := 1152) (by decide +kernel)⟩
theorem lw_p56 : lw_okq (⟨"HalfGamesModel", "bestAct", "(III)I"⟩, 40) := ⟨⟨by decide +kernel, by decide +kernel⟩, List.mem_of_getElem? (i := 833) (by decide +kernel), List.mem_of_getElem? (i := 1155) (by decide +kernel), List.mem_of_getElem? (i := 1156) (by decide +kernel)⟩
theorem lw_p57 : lw_okq (⟨"HalfGamesModel", "worthOf", "(III)J"⟩, 40) := ⟨⟨by decide +kernel, by decide +kernel⟩, List.mem_of_getElem? (i := 833) (by decide +kernel), List.mem_of_getElem? (i := 1159) (by decide +kernel), List.mem_of_getElem? (i := 1160) (by decide +kernel)⟩
theorem lw_p58 : lw_okq (⟨"HalfGamesModel", "gainOf", "(I)J"⟩, 40) := ⟨⟨by decide +kernel, by decide +kernel⟩, List.mem_of_getElem? (i := 833) (by decide +kernel), List.mem_of_getElem? (i := 1163) (by decide +kernel), List.mem_of_getElem? (i := 1164) (by decide +kernel)⟩
theorem lw_p59 : lw_okq (⟨"HalfGamesModel", "through", "(II)I"⟩, 40) := ⟨⟨by decide +kernel, by decide +kernel⟩, List.mem_of_getElem? (i := 833) (by decide +kernel), List.mem_of_getElem? (i := 1179) (by decide +kernel), List.mem_of_getElem? (i := 1180) (by decide +kernel)⟩
theorem lw_p60 : lw_okq (⟨"HalfGamesModel", "againstRounds", "(I)J"⟩, 40) := ⟨⟨by decide +kernel, by decide +kernel⟩, List.mem_of_getElem? (i := 833) (by decide +kernel), List.mem_of_getElem? (i := 1192) (by decide +kernel), List.mem_of_getElem? (i := 1193) (by decide +kernel)⟩
theorem lw_p61 : lw_okq (⟨"HalfGamesModel", "kindOf", "(I)I"⟩, 40) := ⟨⟨by decide +kernel, by decide +kernel⟩, List.mem_of_getElem? (i := 833) (by decide +kernel), List.mem_of_getElem? (i := 1212) (by decide +kernel), List.mem_of_getElem? (i := 1213) (by decide +kernel)⟩
theorem lw_p62 : lw_okq (⟨"HalfGamesModel", "size11", "(I)J"⟩, 40) := ⟨⟨by decide +kernel, by decide +kernel⟩, List.mem_of_getElem? (i := 833) (by decide +kernel), List.mem_of_getElem? (i := 1225) (by decide +kernel), List.mem_of_getElem? (i := 1226) (by decide +kernel)⟩
theorem lw_p63 : lw_okq (⟨"HalfGamesModel", "note", "(I)V"⟩, 40) := ⟨⟨by decide +kernel, by decide +kernel⟩, List.mem_of_getElem? (i := 833) (by decide +kernel), List.mem_of_getElem? (i := 1229) (by decide +kernel), List.mem_of_getElem? (i := 1230) (by decide +kernel)⟩
def lw_privs_4 : List (MethodName × Nat) := [(⟨"HalfGamesModel", "layReach", "(II)V"⟩, 40), (⟨"HalfGamesModel", "shareTo", "(III)I"⟩, 40), (⟨"HalfGamesModel", "answerOf", "(I)J"⟩, 40), (⟨"HalfGamesModel", "layGroups", "()V"⟩, 40), (⟨"HalfGamesModel", "layCounts", "(I)V"⟩, 40), (⟨"HalfGamesModel", "answerBy", "(I)J"⟩, 40), (⟨"HalfGamesModel", "layWorth", "(I)V"⟩, 40), (⟨"HalfGamesModel", "ownDeep", "(II)I"⟩, 40), (⟨"HalfGamesModel", "bestAct", "(III)I"⟩, 40), (⟨"HalfGamesModel", "worthOf", "(III)J"⟩, 40), (⟨"HalfGamesModel", "gainOf", "(I)J"⟩, 40), (⟨"HalfGamesModel", "through", "(II)I"⟩, 40), (⟨"HalfGamesModel", "againstRounds", "(I)J"⟩, 40), (⟨"HalfGamesModel", "kindOf", "(I)I"⟩, 40), (⟨"HalfGamesModel", "size11", "(I)J"⟩, 40), (⟨"HalfGamesModel", "note", "(I)V"⟩, 40)]
theorem lw_r4 : ∀ q ∈ lw_privs_4, lw_okq q := List.forall_mem_cons.mpr ⟨lw_p48, List.forall_mem_cons.mpr ⟨lw_p49, List.forall_mem_cons.mpr ⟨lw_p50, List.forall_mem_cons.mpr ⟨lw_p51, List.forall_mem_cons.mpr ⟨lw_p52, List.forall_mem_cons.mpr ⟨lw_p53, List.forall_mem_cons.mpr ⟨lw_p54, List.forall_mem_cons.mpr ⟨lw_p55, List.forall_mem_cons.mpr ⟨lw_p56, List.forall_mem_cons.mpr ⟨lw_p57, List.forall_mem_cons.mpr ⟨lw_p58, List.forall_mem_cons.mpr ⟨lw_p59, List.forall_mem_cons.mpr ⟨lw_p60, List.forall_mem_cons.mpr ⟨lw_p61, List.forall_mem_cons.mpr ⟨lw_p62, List.forall_mem_cons.mpr ⟨lw_p63, fun _ h => absurd h List.not_mem_nil⟩⟩⟩⟩⟩⟩⟩⟩⟩⟩⟩⟩⟩⟩⟩⟩
theorem lw_p64 : lw_okq (⟨"HalfGamesModel", "size10", "(I)J"⟩, 40) := ⟨⟨by decide +kernel, by decide +kernel⟩, List.mem_of_getElem? (i := 833) (by decide +kernel), List.mem_of_getElem? (i := 1233) (by decide +kernel), List.mem_of_getElem? (i := 1234) (by decide +kernel)⟩
theorem lw_p65 : lw_okq (⟨"HalfGamesModel", "size12", "(I)J"⟩, 40) := ⟨⟨by decide +kernel, by decide +kernel⟩, List.mem_of_getElem? (i := 833) (by decide +kernel), List.mem_of_getElem? (i := 1237) (by decide +kernel), List.mem_of_getElem? (i := 1238) (by decide +kernel)⟩
theorem lw_p66 : lw_okq (⟨"HalfGamesModel", "mark21", "(I)J"⟩, 40) := ⟨⟨by decide +kernel, by decide +kernel⟩, List.mem_of_getElem? (i := 833) (by decide +kernel), List.mem_of_getElem? (i := 1241) (by decide +kernel), List.mem_of_getElem? (i := 1242) (by decide +kernel)⟩
theorem lw_p67 : lw_okq (⟨"HalfGamesModel", "mark20", "(I)J"⟩, 40) := ⟨⟨by decide +kernel, by decide +kernel⟩, List.mem_of_getElem? (i := 833) (by decide +kernel), List.mem_of_getElem? (i := 1245) (by decide +kernel), List.mem_of_getElem? (i := 1246) (by decide +kernel)⟩
theorem lw_p68 : lw_okq (⟨"HalfGamesModel", "size13", "(I)J"⟩, 40) := ⟨⟨by decide +kernel, by decide +kernel⟩, List.mem_of_getElem? (i := 833) (by decide +kernel), List.mem_of_getElem? (i := 1250) (by decide +kernel), List.mem_of_getElem? (i := 1251) (by decide +kernel)⟩
theorem lw_p69 : lw_okq (⟨"HalfGamesModel", "size14", "(I)J"⟩, 40) := ⟨⟨by decide +kernel, by decide +kernel⟩, List.mem_of_getElem? (i := 833) (by decide +kernel), List.mem_of_getElem? (i := 1254) (by decide +kernel), List.mem_of_getElem? (i := 1255) (by decide +kernel)⟩
theorem lw_p70 : lw_okq (⟨"HalfGamesModel", "size15", "(I)J"⟩, 40) := ⟨⟨by decide +kernel, by decide +kernel⟩, List.mem_of_getElem? (i := 833) (by decide +kernel), List.mem_of_getElem? (i := 1258) (by decide +kernel), List.mem_of_getElem? (i := 1259) (by decide +kernel)⟩
theorem lw_p71 : lw_okq (⟨"HalfGamesModel", "mark22", "(I)J"⟩, 40) := ⟨⟨by decide +kernel, by decide +kernel⟩, List.mem_of_getElem? (i := 833) (by decide +kernel), List.mem_of_getElem? (i := 1262) (by decide +kernel), List.mem_of_getElem? (i := 1263) (by decide +kernel)⟩
def lw_privs_5 : List (MethodName × Nat) := [(⟨"HalfGamesModel", "size10", "(I)J"⟩, 40), (⟨"HalfGamesModel", "size12", "(I)J"⟩, 40), (⟨"HalfGamesModel", "mark21", "(I)J"⟩, 40), (⟨"HalfGamesModel", "mark20", "(I)J"⟩, 40), (⟨"HalfGamesModel", "size13", "(I)J"⟩, 40), (⟨"HalfGamesModel", "size14", "(I)J"⟩, 40), (⟨"HalfGamesModel", "size15", "(I)J"⟩, 40), (⟨"HalfGamesModel", "mark22", "(I)J"⟩, 40)]
theorem lw_r5 : ∀ q ∈ lw_privs_5, lw_okq q := List.forall_mem_cons.mpr ⟨lw_p64, List.forall_mem_cons.mpr ⟨lw_p65, List.forall_mem_cons.mpr ⟨lw_p66, List.forall_mem_cons.mpr ⟨lw_p67, List.forall_mem_cons.mpr ⟨lw_p68, List.forall_mem_cons.mpr ⟨lw_p69, List.forall_mem_cons.mpr ⟨lw_p70, List.forall_mem_cons.mpr ⟨lw_p71, fun _ h => absurd h List.not_mem_nil⟩⟩⟩⟩⟩⟩⟩⟩
def lw_privs : List (MethodName × Nat) := lw_privs_1 ++ (lw_privs_2 ++ (lw_privs_3 ++ (lw_privs_4 ++ (lw_privs_5))))
def lw_tbl : List Cond := k2_sels lw_privs ++ tables_1
theorem lw_privs_ok : ∀ q ∈ lw_privs, lw_okq q := by
  show ∀ q ∈ lw_privs_1 ++ (lw_privs_2 ++ (lw_privs_3 ++ (lw_privs_4 ++ (lw_privs_5)))), lw_okq q
  exact List.forall_mem_append.mpr ⟨lw_r1, List.forall_mem_append.mpr ⟨lw_r2, List.forall_mem_append.mpr ⟨lw_r3, List.forall_mem_append.mpr ⟨lw_r4, lw_r5⟩⟩⟩⟩
/-- the words that a call carries over -/
def gT : List Cond := lw_tbl.filter goodWord
theorem gT_sub : ∀ w ∈ gT, w ∈ lw_tbl := fun w h => (List.mem_filter.mp h).1
theorem gT_good : ∀ w ∈ gT, goodWord w = true := fun w h => (List.mem_filter.mp h).2
theorem gT_mem {w : Cond} (h : w ∈ lw_tbl) (hg : goodWord w = true) : w ∈ gT := List.mem_filter.mpr ⟨h, hg⟩
theorem tb_in {w : Cond} (i : Nat) (h : tables_1[i]? = some w) : w ∈ lw_tbl := List.mem_append_right _ (List.mem_of_getElem? h)
theorem sl_in {q : MethodName × Nat} (i : Nat) (h : lw_privs[i]? = some q) : Cond.selects q.1.cls q.1 q.1 ∈ lw_tbl := List.mem_append_left _ (List.mem_map.mpr ⟨q, List.mem_of_getElem? h, rfl⟩)
end
section
def RX0 : String := "HalfGames$Asker"
def TX0 : u_T := fun k => match k with
  | 0 => ("HalfGames$Asker", "numbers", "[I", true)
  | _ => ("HalfGames$Asker", "traced", "I", false)
def tyX0 : Nat → FieldType := fun k => match k with
  | 0 => .array .int
  | _ => .int
theorem nmX0 : ∀ a, a < 2 → ∀ b, b < 2 → a ≠ b → (TX0 a).2.1 ≠ (TX0 b).2.1 := by decide +kernel
theorem tyX0_ok : ∀ k, k < 2 → parseFieldDescriptor (TX0 k).2.2.1 = some (tyX0 k) := by decide +kernel
abbrev cX0_init : ByteArray := prog_2_method_1_code
def yX0_init : MethodName := ⟨RX0, "<init>", "()V"⟩
abbrev cX0_askSize : ByteArray := prog_2_method_2_code
def yX0_askSize : MethodName := ⟨RX0, "askSize", "(LHalfGames$Game;I)J"⟩
abbrev cX0_askMark : ByteArray := prog_2_method_3_code
def yX0_askMark : MethodName := ⟨RX0, "askMark", "(LHalfGames$Game;I)J"⟩
abbrev cX0_sizeBody : ByteArray := prog_2_method_4_code
def yX0_sizeBody : MethodName := ⟨RX0, "sizeBody", "(LHalfGames$Game;I)I"⟩
abbrev cX0_markBody : ByteArray := prog_2_method_5_code
def yX0_markBody : MethodName := ⟨RX0, "markBody", "(LHalfGames$Game;I)I"⟩
abbrev cX0_runBody : ByteArray := prog_2_method_6_code
def yX0_runBody : MethodName := ⟨RX0, "runBody", "(LHalfGames$Game;III)J"⟩
abbrev cX0_leave : ByteArray := prog_2_method_7_code
def yX0_leave : MethodName := ⟨RX0, "leave", "(I)V"⟩
def RX1 : String := "HalfGames$Game"
def TX1 : u_T := fun k => match k with
  | 0 => ("HalfGames$Game", "count", "I", false)
  | 1 => ("HalfGames$Game", "what", "[I", true)
  | 2 => ("HalfGames$Game", "pay", "[I", true)
  | 3 => ("HalfGames$Game", "set", "[I", true)
  | 4 => ("HalfGames$Game", "ways", "[I", true)
  | 5 => ("HalfGames$Game", "above", "[I", true)
  | 6 => ("HalfGames$Game", "depth", "[I", true)
  | 7 => ("HalfGames$Game", "turn", "[I", true)
  | 8 => ("HalfGames$Game", "share", "[I", true)
  | 9 => ("HalfGames$Game", "below", "[I", true)
  | 10 => ("HalfGames$Game", "size", "[I", true)
  | 11 => ("HalfGames$Game", "ownActs", "[I", true)
  | 12 => ("HalfGames$Game", "ownPast", "[J", true)
  | 13 => ("HalfGames$Game", "player", "[I", true)
  | 14 => ("HalfGames$Game", "acts", "[I", true)
  | 15 => ("HalfGames$Game", "places", "[I", true)
  | 16 => ("HalfGames$Game", "first", "[I", true)
  | _ => ("HalfGames$Game", "forgetful", "[Z", true)
def tyX1 : Nat → FieldType := fun k => match k with
  | 0 => .int
  | 1 => .array .int
  | 2 => .array .int
  | 3 => .array .int
  | 4 => .array .int
  | 5 => .array .int
  | 6 => .array .int
  | 7 => .array .int
  | 8 => .array .int
  | 9 => .array .int
  | 10 => .array .int
  | 11 => .array .int
  | 12 => .array .long
  | 13 => .array .int
  | 14 => .array .int
  | 15 => .array .int
  | 16 => .array .int
  | _ => .array .boolean
theorem nmX1 : ∀ a, a < 18 → ∀ b, b < 18 → a ≠ b → (TX1 a).2.1 ≠ (TX1 b).2.1 := by decide +kernel
theorem tyX1_ok : ∀ k, k < 18 → parseFieldDescriptor (TX1 k).2.2.1 = some (tyX1 k) := by decide +kernel
abbrev cX1_init : ByteArray := prog_3_method_1_code
def yX1_init : MethodName := ⟨RX1, "<init>", "()V"⟩
abbrev cX1_empty : ByteArray := prog_3_method_2_code
def yX1_empty : MethodName := ⟨RX1, "empty", "()V"⟩
abbrev cX1_add : ByteArray := prog_3_method_3_code
def yX1_add : MethodName := ⟨RX1, "add", "(IIIII)I"⟩
abbrev cX1_maySetBeOf : ByteArray := prog_3_method_4_code
def yX1_maySetBeOf : MethodName := ⟨RX1, "maySetBeOf", "(II)Z"⟩
abbrev cX1_maySetHave : ByteArray := prog_3_method_5_code
def yX1_maySetHave : MethodName := ⟨RX1, "maySetHave", "(II)Z"⟩
abbrev cX1_putIntoSet : ByteArray := prog_3_method_6_code
def yX1_putIntoSet : MethodName := ⟨RX1, "putIntoSet", "(III)V"⟩
abbrev cX1_finish : ByteArray := prog_3_method_7_code
def yX1_finish : MethodName := ⟨RX1, "finish", "()V"⟩
abbrev cX1_tellPast : ByteArray := prog_3_method_8_code
def yX1_tellPast : MethodName := ⟨RX1, "tellPast", "(I)V"⟩
abbrev cX1_ownActsTo : ByteArray := prog_3_method_9_code
def yX1_ownActsTo : MethodName := ⟨RX1, "ownActsTo", "(II)I"⟩
abbrev cX1_mostOwnActs : ByteArray := prog_3_method_10_code
def yX1_mostOwnActs : MethodName := ⟨RX1, "mostOwnActs", "(I)I"⟩
abbrev cX1_isHeld : ByteArray := prog_3_method_11_code
def yX1_isHeld : MethodName := ⟨RX1, "isHeld", "(I)Z"⟩
abbrev cX1_wayTo : ByteArray := prog_3_method_12_code
def yX1_wayTo : MethodName := ⟨RX1, "wayTo", "(II)I"⟩
abbrev cX1_kindOf : ByteArray := prog_3_method_13_code
def yX1_kindOf : MethodName := ⟨RX1, "kindOf", "(I)I"⟩
abbrev cX1_isOfKind : ByteArray := prog_3_method_14_code
def yX1_isOfKind : MethodName := ⟨RX1, "isOfKind", "(II)Z"⟩
abbrev cX1_countOf : ByteArray := prog_3_method_15_code
def yX1_countOf : MethodName := ⟨RX1, "countOf", "(I)I"⟩
abbrev cX1_countSets : ByteArray := prog_3_method_16_code
def yX1_countSets : MethodName := ⟨RX1, "countSets", "()I"⟩
def RX2 : String := "HalfGames$History"
def TX2 : u_T := fun k => match k with
  | 0 => ("HalfGames$History", "count", "I", false)
  | 1 => ("HalfGames$History", "done", "[I", true)
  | 2 => ("HalfGames$History", "reachOfOne", "[J", true)
  | 3 => ("HalfGames$History", "reachOfTwo", "[J", true)
  | 4 => ("HalfGames$History", "latest", "LHalfGames$Plan;", true)
  | _ => ("HalfGames$History", "latestReach", "[J", true)
def tyX2 : Nat → FieldType := fun k => match k with
  | 0 => .int
  | 1 => .array .int
  | 2 => .array .long
  | 3 => .array .long
  | 4 => .object "HalfGames$Plan"
  | _ => .array .long
theorem nmX2 : ∀ a, a < 6 → ∀ b, b < 6 → a ≠ b → (TX2 a).2.1 ≠ (TX2 b).2.1 := by decide +kernel
theorem tyX2_ok : ∀ k, k < 6 → parseFieldDescriptor (TX2 k).2.2.1 = some (tyX2 k) := by decide +kernel
abbrev cX2_init : ByteArray := prog_4_method_1_code
def yX2_init : MethodName := ⟨RX2, "<init>", "()V"⟩
abbrev cX2_begin : ByteArray := prog_4_method_2_code
def yX2_begin : MethodName := ⟨RX2, "begin", "()V"⟩
abbrev cX2_playOn : ByteArray := prog_4_method_3_code
def yX2_playOn : MethodName := ⟨RX2, "playOn", "(LHalfGames$Game;LHalfGames$Solver;)V"⟩
abbrev cX2_noteAnswer : ByteArray := prog_4_method_4_code
def yX2_noteAnswer : MethodName := ⟨RX2, "noteAnswer", "(LHalfGames$Game;LHalfGames$Solver;I)V"⟩
abbrev cX2_addReach : ByteArray := prog_4_method_5_code
def yX2_addReach : MethodName := ⟨RX2, "addReach", "(LHalfGames$Game;I)V"⟩
abbrev cX2_reachOf : ByteArray := prog_4_method_6_code
def yX2_reachOf : MethodName := ⟨RX2, "reachOf", "(I)[J"⟩
abbrev cX2_timesDone : ByteArray := prog_4_method_7_code
def yX2_timesDone : MethodName := ⟨RX2, "timesDone", "(II)I"⟩
abbrev cX2_putInto : ByteArray := prog_4_method_8_code
def yX2_putInto : MethodName := ⟨RX2, "putInto", "(LHalfGames$Plan;I)V"⟩
def RX3 : String := "HalfGames$Plan"
def TX3 : u_T := fun k => match k with
  | _ => ("HalfGames$Plan", "shares", "[I", true)
def tyX3 : Nat → FieldType := fun k => match k with
  | _ => .array .int
theorem nmX3 : ∀ a, a < 1 → ∀ b, b < 1 → a ≠ b → (TX3 a).2.1 ≠ (TX3 b).2.1 := by decide +kernel
theorem tyX3_ok : ∀ k, k < 1 → parseFieldDescriptor (TX3 k).2.2.1 = some (tyX3 k) := by decide +kernel
abbrev cX3_init : ByteArray := prog_5_method_1_code
def yX3_init : MethodName := ⟨RX3, "<init>", "()V"⟩
abbrev cX3_begin : ByteArray := prog_5_method_2_code
def yX3_begin : MethodName := ⟨RX3, "begin", "()V"⟩
abbrev cX3_give : ByteArray := prog_5_method_3_code
def yX3_give : MethodName := ⟨RX3, "give", "(III)V"⟩
abbrev cX3_giveAllTo : ByteArray := prog_5_method_4_code
def yX3_giveAllTo : MethodName := ⟨RX3, "giveAllTo", "(II)V"⟩
abbrev cX3_shareOf : ByteArray := prog_5_method_5_code
def yX3_shareOf : MethodName := ⟨RX3, "shareOf", "(II)I"⟩
abbrev cX3_workOut : ByteArray := prog_5_method_6_code
def yX3_workOut : MethodName := ⟨RX3, "workOut", "(LHalfGames$Game;I[J)V"⟩
def RX4 : String := "HalfGames$Reader"
def TX4 : u_T := fun k => match k with
  | 0 => ("HalfGames$Reader", "fault", "I", false)
  | _ => ("HalfGames$Reader", "faultAt", "I", false)
def tyX4 : Nat → FieldType := fun k => match k with
  | 0 => .int
  | _ => .int
theorem nmX4 : ∀ a, a < 2 → ∀ b, b < 2 → a ≠ b → (TX4 a).2.1 ≠ (TX4 b).2.1 := by decide +kernel
theorem tyX4_ok : ∀ k, k < 2 → parseFieldDescriptor (TX4 k).2.2.1 = some (tyX4 k) := by decide +kernel
abbrev cX4_init : ByteArray := prog_6_method_1_code
def yX4_init : MethodName := ⟨RX4, "<init>", "()V"⟩
abbrev cX4_readText : ByteArray := prog_6_method_2_code
def yX4_readText : MethodName := ⟨RX4, "readText", "(LHalfGames$Tape;LHalfGames$Game;)Z"⟩
abbrev cX4_fail : ByteArray := prog_6_method_3_code
def yX4_fail : MethodName := ⟨RX4, "fail", "(LHalfGames$Tape;I)Z"⟩
abbrev cX4_readPlace : ByteArray := prog_6_method_4_code
def yX4_readPlace : MethodName := ⟨RX4, "readPlace", "(LHalfGames$Tape;LHalfGames$Game;III)Z"⟩
abbrev cX4_readPay : ByteArray := prog_6_method_5_code
def yX4_readPay : MethodName := ⟨RX4, "readPay", "(LHalfGames$Tape;LHalfGames$Game;I)Z"⟩
abbrev cX4_readDeal : ByteArray := prog_6_method_6_code
def yX4_readDeal : MethodName := ⟨RX4, "readDeal", "(LHalfGames$Tape;LHalfGames$Game;I)Z"⟩
abbrev cX4_readHeld : ByteArray := prog_6_method_7_code
def yX4_readHeld : MethodName := ⟨RX4, "readHeld", "(LHalfGames$Tape;LHalfGames$Game;I)Z"⟩
def RX5 : String := "HalfGames$Shelf"
def TX5 : u_T := fun k => match k with
  | 0 => ("HalfGames$Shelf", "lane", "[I", true)
  | 1 => ("HalfGames$Shelf", "length", "[I", true)
  | _ => ("HalfGames$Shelf", "items", "[I", true)
def tyX5 : Nat → FieldType := fun k => match k with
  | 0 => .array .int
  | 1 => .array .int
  | _ => .array .int
theorem nmX5 : ∀ a, a < 3 → ∀ b, b < 3 → a ≠ b → (TX5 a).2.1 ≠ (TX5 b).2.1 := by decide +kernel
theorem tyX5_ok : ∀ k, k < 3 → parseFieldDescriptor (TX5 k).2.2.1 = some (tyX5 k) := by decide +kernel
abbrev cX5_init : ByteArray := prog_7_method_1_code
def yX5_init : MethodName := ⟨RX5, "<init>", "()V"⟩
abbrev cX5_isMissing : ByteArray := prog_7_method_2_code
def yX5_isMissing : MethodName := ⟨RX5, "isMissing", "(I)Z"⟩
abbrev cX5_hasItems : ByteArray := prog_7_method_3_code
def yX5_hasItems : MethodName := ⟨RX5, "hasItems", "(III)Z"⟩
abbrev cX5_lay : ByteArray := prog_7_method_4_code
def yX5_lay : MethodName := ⟨RX5, "lay", "(III)V"⟩
abbrev cX5_put : ByteArray := prog_7_method_5_code
def yX5_put : MethodName := ⟨RX5, "put", "(III)I"⟩
abbrev cX5_itemAt : ByteArray := prog_7_method_6_code
def yX5_itemAt : MethodName := ⟨RX5, "itemAt", "(II)I"⟩
abbrev cX5_bring : ByteArray := prog_7_method_7_code
def yX5_bring : MethodName := ⟨RX5, "bring", "(IIIII)V"⟩
abbrev cX5_remove : ByteArray := prog_7_method_8_code
def yX5_remove : MethodName := ⟨RX5, "remove", "(I)I"⟩
abbrev cX5_countRows : ByteArray := prog_7_method_9_code
def yX5_countRows : MethodName := ⟨RX5, "countRows", "()I"⟩
abbrev cX5_hasShares : ByteArray := prog_7_method_10_code
def yX5_hasShares : MethodName := ⟨RX5, "hasShares", "(III)Z"⟩
def RX6 : String := "HalfGames$Solver"
def TX6 : u_T := fun k => match k with
  | 0 => ("HalfGames$Solver", "worth", "[J", true)
  | 1 => ("HalfGames$Solver", "group", "[I", true)
  | 2 => ("HalfGames$Solver", "bestAct", "[I", true)
  | 3 => ("HalfGames$Solver", "sums", "[J", true)
  | 4 => ("HalfGames$Solver", "through", "[I", true)
  | 5 => ("HalfGames$Solver", "barredSet", "I", false)
  | _ => ("HalfGames$Solver", "barredAct", "I", false)
def tyX6 : Nat → FieldType := fun k => match k with
  | 0 => .array .long
  | 1 => .array .int
  | 2 => .array .int
  | 3 => .array .long
  | 4 => .array .int
  | 5 => .int
  | _ => .int
theorem nmX6 : ∀ a, a < 7 → ∀ b, b < 7 → a ≠ b → (TX6 a).2.1 ≠ (TX6 b).2.1 := by decide +kernel
theorem tyX6_ok : ∀ k, k < 7 → parseFieldDescriptor (TX6 k).2.2.1 = some (tyX6 k) := by decide +kernel
abbrev cX6_init : ByteArray := prog_8_method_1_code
def yX6_init : MethodName := ⟨RX6, "<init>", "()V"⟩
abbrev cX6_solve : ByteArray := prog_8_method_2_code
def yX6_solve : MethodName := ⟨RX6, "solve", "(LHalfGames$Game;I[JI)J"⟩
abbrev cX6_solveBarred : ByteArray := prog_8_method_3_code
def yX6_solveBarred : MethodName := ⟨RX6, "solveBarred", "(LHalfGames$Game;I[JII)J"⟩
abbrev cX6_actOf : ByteArray := prog_8_method_4_code
def yX6_actOf : MethodName := ⟨RX6, "actOf", "(LHalfGames$Game;I)I"⟩
abbrev cX6_tellGroups : ByteArray := prog_8_method_5_code
def yX6_tellGroups : MethodName := ⟨RX6, "tellGroups", "(LHalfGames$Game;I)V"⟩
abbrev cX6_leastAlike : ByteArray := prog_8_method_6_code
def yX6_leastAlike : MethodName := ⟨RX6, "leastAlike", "(LHalfGames$Game;I)I"⟩
abbrev cX6_addUp : ByteArray := prog_8_method_7_code
def yX6_addUp : MethodName := ⟨RX6, "addUp", "(LHalfGames$Game;II)V"⟩
abbrev cX6_chooseActs : ByteArray := prog_8_method_8_code
def yX6_chooseActs : MethodName := ⟨RX6, "chooseActs", "(LHalfGames$Game;II)V"⟩
abbrev cX6_chooseAct : ByteArray := prog_8_method_9_code
def yX6_chooseAct : MethodName := ⟨RX6, "chooseAct", "(LHalfGames$Game;II)I"⟩
abbrev cX6_isBarred : ByteArray := prog_8_method_10_code
def yX6_isBarred : MethodName := ⟨RX6, "isBarred", "(LHalfGames$Game;II)Z"⟩
abbrev cX6_weigh : ByteArray := prog_8_method_11_code
def yX6_weigh : MethodName := ⟨RX6, "weigh", "(LHalfGames$Game;II[J)V"⟩
abbrev cX6_worthOf : ByteArray := prog_8_method_12_code
def yX6_worthOf : MethodName := ⟨RX6, "worthOf", "(LHalfGames$Game;IIJ)J"⟩
abbrev cX6_isOwn : ByteArray := prog_8_method_13_code
def yX6_isOwn : MethodName := ⟨RX6, "isOwn", "(LHalfGames$Game;III)Z"⟩
def RX7 : String := "HalfGames$Tape"
def TX7 : u_T := fun k => match k with
  | 0 => ("HalfGames$Tape", "bytes", "[B", true)
  | 1 => ("HalfGames$Tape", "length", "I", false)
  | 2 => ("HalfGames$Tape", "token", "I", false)
  | 3 => ("HalfGames$Tape", "start", "I", false)
  | 4 => ("HalfGames$Tape", "number", "I", false)
  | _ => ("HalfGames$Tape", "next", "I", false)
def tyX7 : Nat → FieldType := fun k => match k with
  | 0 => .array .byte
  | 1 => .int
  | 2 => .int
  | 3 => .int
  | 4 => .int
  | _ => .int
theorem nmX7 : ∀ a, a < 6 → ∀ b, b < 6 → a ≠ b → (TX7 a).2.1 ≠ (TX7 b).2.1 := by decide +kernel
theorem tyX7_ok : ∀ k, k < 6 → parseFieldDescriptor (TX7 k).2.2.1 = some (tyX7 k) := by decide +kernel
abbrev cX7_init : ByteArray := prog_9_method_1_code
def yX7_init : MethodName := ⟨RX7, "<init>", "()V"⟩
abbrev cX7_push : ByteArray := prog_9_method_2_code
def yX7_push : MethodName := ⟨RX7, "push", "(JI)V"⟩
abbrev cX7_rewind : ByteArray := prog_9_method_3_code
def yX7_rewind : MethodName := ⟨RX7, "rewind", "()V"⟩
abbrev cX7_step : ByteArray := prog_9_method_4_code
def yX7_step : MethodName := ⟨RX7, "step", "()V"⟩
abbrev cX7_stepOverName : ByteArray := prog_9_method_5_code
def yX7_stepOverName : MethodName := ⟨RX7, "stepOverName", "()V"⟩
abbrev cX7_stepOverNumber : ByteArray := prog_9_method_6_code
def yX7_stepOverNumber : MethodName := ⟨RX7, "stepOverNumber", "()V"⟩
abbrev cX7_isName : ByteArray := prog_9_method_7_code
def yX7_isName : MethodName := ⟨RX7, "isName", "(Ljava/lang/String;)Z"⟩
abbrev cX7_isLetter : ByteArray := prog_9_method_8_code
def yX7_isLetter : MethodName := ⟨RX7, "isLetter", "(I)Z"⟩
abbrev cX7_isFigure : ByteArray := prog_9_method_9_code
def yX7_isFigure : MethodName := ⟨RX7, "isFigure", "(I)Z"⟩
def RX8 : String := "HalfGames"
def TX8 : u_T := fun k => match k with
  | 0 => ("HalfGames", "shelf", "LHalfGames$Shelf;", true)
  | 1 => ("HalfGames", "tape", "LHalfGames$Tape;", true)
  | 2 => ("HalfGames", "reader", "LHalfGames$Reader;", true)
  | 3 => ("HalfGames", "plan", "LHalfGames$Plan;", true)
  | 4 => ("HalfGames", "solver", "LHalfGames$Solver;", true)
  | 5 => ("HalfGames", "history", "LHalfGames$History;", true)
  | 6 => ("HalfGames", "asker", "LHalfGames$Asker;", true)
  | 7 => ("HalfGames", "reached", "[J", true)
  | 8 => ("HalfGames", "standing", "LHalfGames$Game;", false)
  | 9 => ("HalfGames", "spare", "LHalfGames$Game;", false)
  | 10 => ("HalfGames", "latestFault", "I", false)
  | _ => ("HalfGames", "latestFinding", "I", false)
def tyX8 : Nat → FieldType := fun k => match k with
  | 0 => .object "HalfGames$Shelf"
  | 1 => .object "HalfGames$Tape"
  | 2 => .object "HalfGames$Reader"
  | 3 => .object "HalfGames$Plan"
  | 4 => .object "HalfGames$Solver"
  | 5 => .object "HalfGames$History"
  | 6 => .object "HalfGames$Asker"
  | 7 => .array .long
  | 8 => .object "HalfGames$Game"
  | 9 => .object "HalfGames$Game"
  | 10 => .int
  | _ => .int
theorem nmX8 : ∀ a, a < 12 → ∀ b, b < 12 → a ≠ b → (TX8 a).2.1 ≠ (TX8 b).2.1 := by decide +kernel
theorem tyX8_ok : ∀ k, k < 12 → parseFieldDescriptor (TX8 k).2.2.1 = some (tyX8 k) := by decide +kernel
abbrev cX8_init : ByteArray := prog_1_method_1_code
def yX8_init : MethodName := ⟨RX8, "<init>", "()V"⟩
abbrev cX8_row : ByteArray := prog_1_method_2_code
def yX8_row : MethodName := ⟨RX8, "row", "(III)J"⟩
abbrev cX8_set : ByteArray := prog_1_method_3_code
def yX8_set : MethodName := ⟨RX8, "set", "(III)J"⟩
abbrev cX8_copy : ByteArray := prog_1_method_4_code
def yX8_copy : MethodName := ⟨RX8, "copy", "(IIIII)J"⟩
abbrev cX8_drop : ByteArray := prog_1_method_5_code
def yX8_drop : MethodName := ⟨RX8, "drop", "(I)J"⟩
abbrev cX8_feed : ByteArray := prog_1_method_6_code
def yX8_feed : MethodName := ⟨RX8, "feed", "(JI)J"⟩
abbrev cX8_game : ByteArray := prog_1_method_7_code
def yX8_game : MethodName := ⟨RX8, "game", "()J"⟩
abbrev cX8_fault : ByteArray := prog_1_method_8_code
def yX8_fault : MethodName := ⟨RX8, "fault", "()I"⟩
abbrev cX8_place : ByteArray := prog_1_method_9_code
def yX8_place : MethodName := ⟨RX8, "place", "(II)J"⟩
abbrev cX8_seen : ByteArray := prog_1_method_10_code
def yX8_seen : MethodName := ⟨RX8, "seen", "(II)J"⟩
abbrev cX8_forgets : ByteArray := prog_1_method_11_code
def yX8_forgets : MethodName := ⟨RX8, "forgets", "(I)J"⟩
abbrev cX8_mix : ByteArray := prog_1_method_12_code
def yX8_mix : MethodName := ⟨RX8, "mix", "(III)J"⟩
abbrev cX8_share : ByteArray := prog_1_method_13_code
def yX8_share : MethodName := ⟨RX8, "share", "(II)J"⟩
abbrev cX8_value : ByteArray := prog_1_method_14_code
def yX8_value : MethodName := ⟨RX8, "value", "()J"⟩
abbrev cX8_reach : ByteArray := prog_1_method_15_code
def yX8_reach : MethodName := ⟨RX8, "reach", "(II)J"⟩
abbrev cX8_best : ByteArray := prog_1_method_16_code
def yX8_best : MethodName := ⟨RX8, "best", "(II)J"⟩
abbrev cX8_answer : ByteArray := prog_1_method_17_code
def yX8_answer : MethodName := ⟨RX8, "answer", "(I)J"⟩
abbrev cX8_belief : ByteArray := prog_1_method_18_code
def yX8_belief : MethodName := ⟨RX8, "belief", "(II)J"⟩
abbrev cX8_seeing : ByteArray := prog_1_method_19_code
def yX8_seeing : MethodName := ⟨RX8, "seeing", "(I)J"⟩
abbrev cX8_fewer : ByteArray := prog_1_method_20_code
def yX8_fewer : MethodName := ⟨RX8, "fewer", "(II)J"⟩
abbrev cX8_rounds : ByteArray := prog_1_method_21_code
def yX8_rounds : MethodName := ⟨RX8, "rounds", "(I)J"⟩
abbrev cX8_bound : ByteArray := prog_1_method_22_code
def yX8_bound : MethodName := ⟨RX8, "bound", "(I)J"⟩
abbrev cX8_mean : ByteArray := prog_1_method_23_code
def yX8_mean : MethodName := ⟨RX8, "mean", "(II)J"⟩
abbrev cX8_take : ByteArray := prog_1_method_24_code
def yX8_take : MethodName := ⟨RX8, "take", "(I)J"⟩
abbrev cX8_kind : ByteArray := prog_1_method_25_code
def yX8_kind : MethodName := ⟨RX8, "kind", "(I)J"⟩
abbrev cX8_as : ByteArray := prog_1_method_26_code
def yX8_as : MethodName := ⟨RX8, "as", "(II)J"⟩
abbrev cX8_ask : ByteArray := prog_1_method_27_code
def yX8_ask : MethodName := ⟨RX8, "ask", "(II)J"⟩
abbrev cX8_trace : ByteArray := prog_1_method_28_code
def yX8_trace : MethodName := ⟨RX8, "trace", "(I)I"⟩
abbrev cX8_count : ByteArray := prog_1_method_29_code
def yX8_count : MethodName := ⟨RX8, "count", "(I)J"⟩
abbrev cX8_status : ByteArray := prog_1_method_30_code
def yX8_status : MethodName := ⟨RX8, "status", "()I"⟩
abbrev cX8_found : ByteArray := prog_1_method_31_code
def yX8_found : MethodName := ⟨RX8, "found", "(I)J"⟩
abbrev cX8_fine : ByteArray := prog_1_method_32_code
def yX8_fine : MethodName := ⟨RX8, "fine", "(J)J"⟩
abbrev cX8_hasGame : ByteArray := prog_1_method_33_code
def yX8_hasGame : MethodName := ⟨RX8, "hasGame", "()Z"⟩
abbrev cX8_isPlace : ByteArray := prog_1_method_34_code
def yX8_isPlace : MethodName := ⟨RX8, "isPlace", "(I)Z"⟩
abbrev cX8_isSet : ByteArray := prog_1_method_35_code
def yX8_isSet : MethodName := ⟨RX8, "isSet", "(I)Z"⟩
abbrev cX8_isAct : ByteArray := prog_1_method_36_code
def yX8_isAct : MethodName := ⟨RX8, "isAct", "(II)Z"⟩
abbrev cX8_isRow : ByteArray := prog_1_method_37_code
def yX8_isRow : MethodName := ⟨RX8, "isRow", "(I)Z"⟩
abbrev cX8_isPlayer : ByteArray := prog_1_method_38_code
def yX8_isPlayer : MethodName := ⟨RX8, "isPlayer", "(I)Z"⟩
abbrev cX8_valueOfPlan : ByteArray := prog_1_method_39_code
def yX8_valueOfPlan : MethodName := ⟨RX8, "valueOfPlan", "()J"⟩
abbrev cX8_valueOfAnswer : ByteArray := prog_1_method_40_code
def yX8_valueOfAnswer : MethodName := ⟨RX8, "valueOfAnswer", "(I)J"⟩
abbrev cX8_gainOf : ByteArray := prog_1_method_41_code
def yX8_gainOf : MethodName := ⟨RX8, "gainOf", "(IJJ)J"⟩
def RX9 : String := "HalfGamesModel"
def TX9 : u_T := fun k => match k with
  | 0 => ("HalfGamesModel", "lane", "[I", true)
  | 1 => ("HalfGamesModel", "itemMany", "[I", true)
  | 2 => ("HalfGamesModel", "items", "[I", true)
  | 3 => ("HalfGamesModel", "finding", "I", false)
  | 4 => ("HalfGamesModel", "tape", "[I", true)
  | 5 => ("HalfGamesModel", "length", "I", false)
  | 6 => ("HalfGamesModel", "faultNumber", "I", false)
  | 7 => ("HalfGamesModel", "what", "[I", true)
  | 8 => ("HalfGamesModel", "pay", "[I", true)
  | 9 => ("HalfGamesModel", "setOf", "[I", true)
  | 10 => ("HalfGamesModel", "many", "[I", true)
  | 11 => ("HalfGamesModel", "above", "[I", true)
  | 12 => ("HalfGamesModel", "which", "[I", true)
  | 13 => ("HalfGamesModel", "chance", "[I", true)
  | 14 => ("HalfGamesModel", "deep", "[I", true)
  | 15 => ("HalfGamesModel", "child", "[I", true)
  | 16 => ("HalfGamesModel", "places", "I", false)
  | 17 => ("HalfGamesModel", "player", "[I", true)
  | 18 => ("HalfGamesModel", "acts", "[I", true)
  | 19 => ("HalfGamesModel", "shares", "[I", true)
  | 20 => ("HalfGamesModel", "roundActs", "[I", true)
  | 21 => ("HalfGamesModel", "rounds", "I", false)
  | 22 => ("HalfGamesModel", "trace", "[I", true)
  | 23 => ("HalfGamesModel", "traceMany", "I", false)
  | 24 => ("HalfGamesModel", "at", "I", false)
  | 25 => ("HalfGamesModel", "begin", "I", false)
  | 26 => ("HalfGamesModel", "sort", "I", false)
  | 27 => ("HalfGamesModel", "figure", "I", false)
  | 28 => ("HalfGamesModel", "open", "[I", true)
  | 29 => ("HalfGamesModel", "left", "[I", true)
  | 30 => ("HalfGamesModel", "sum", "[I", true)
  | 31 => ("HalfGamesModel", "opens", "I", false)
  | 32 => ("HalfGamesModel", "read", "I", false)
  | 33 => ("HalfGamesModel", "reach", "[J", true)
  | 34 => ("HalfGamesModel", "counts", "[J", true)
  | 35 => ("HalfGamesModel", "group", "[I", true)
  | 36 => ("HalfGamesModel", "worth", "[J", true)
  | 37 => ("HalfGamesModel", "best", "[I", true)
  | 38 => ("HalfGamesModel", "barredSet", "I", false)
  | _ => ("HalfGamesModel", "barredAct", "I", false)
def tyX9 : Nat → FieldType := fun k => match k with
  | 0 => .array .int
  | 1 => .array .int
  | 2 => .array .int
  | 3 => .int
  | 4 => .array .int
  | 5 => .int
  | 6 => .int
  | 7 => .array .int
  | 8 => .array .int
  | 9 => .array .int
  | 10 => .array .int
  | 11 => .array .int
  | 12 => .array .int
  | 13 => .array .int
  | 14 => .array .int
  | 15 => .array .int
  | 16 => .int
  | 17 => .array .int
  | 18 => .array .int
  | 19 => .array .int
  | 20 => .array .int
  | 21 => .int
  | 22 => .array .int
  | 23 => .int
  | 24 => .int
  | 25 => .int
  | 26 => .int
  | 27 => .int
  | 28 => .array .int
  | 29 => .array .int
  | 30 => .array .int
  | 31 => .int
  | 32 => .int
  | 33 => .array .long
  | 34 => .array .long
  | 35 => .array .int
  | 36 => .array .long
  | 37 => .array .int
  | 38 => .int
  | _ => .int
theorem nmX9 : ∀ a, a < 40 → ∀ b, b < 40 → a ≠ b → (TX9 a).2.1 ≠ (TX9 b).2.1 := by decide +kernel
theorem tyX9_ok : ∀ k, k < 40 → parseFieldDescriptor (TX9 k).2.2.1 = some (tyX9 k) := by decide +kernel
abbrev cX9_init : ByteArray := prog_11_method_1_code
def yX9_init : MethodName := ⟨RX9, "<init>", "()V"⟩
abbrev cX9_in : ByteArray := prog_11_method_2_code
def yX9_in : MethodName := ⟨RX9, "in", "(JJJ)Z"⟩
abbrev cX9_isRow : ByteArray := prog_11_method_3_code
def yX9_isRow : MethodName := ⟨RX9, "isRow", "(I)Z"⟩
abbrev cX9_found : ByteArray := prog_11_method_4_code
def yX9_found : MethodName := ⟨RX9, "found", "(I)J"⟩
abbrev cX9_taken : ByteArray := prog_11_method_5_code
def yX9_taken : MethodName := ⟨RX9, "taken", "(J)J"⟩
abbrev cX9_row : ByteArray := prog_11_method_6_code
def yX9_row : MethodName := ⟨RX9, "row", "(III)J"⟩
abbrev cX9_set : ByteArray := prog_11_method_7_code
def yX9_set : MethodName := ⟨RX9, "set", "(III)J"⟩
abbrev cX9_copy : ByteArray := prog_11_method_8_code
def yX9_copy : MethodName := ⟨RX9, "copy", "(IIIII)J"⟩
abbrev cX9_drop : ByteArray := prog_11_method_9_code
def yX9_drop : MethodName := ⟨RX9, "drop", "(I)J"⟩
abbrev cX9_feed : ByteArray := prog_11_method_10_code
def yX9_feed : MethodName := ⟨RX9, "feed", "(JI)J"⟩
abbrev cX9_token : ByteArray := prog_11_method_11_code
def yX9_token : MethodName := ⟨RX9, "token", "()V"⟩
abbrev cX9_isWord : ByteArray := prog_11_method_12_code
def yX9_isWord : MethodName := ⟨RX9, "isWord", "(IIII)Z"⟩
abbrev cX9_wordNow : ByteArray := prog_11_method_13_code
def yX9_wordNow : MethodName := ⟨RX9, "wordNow", "()I"⟩
abbrev cX9_readsPlace : ByteArray := prog_11_method_14_code
def yX9_readsPlace : MethodName := ⟨RX9, "readsPlace", "()I"⟩
abbrev cX9_readsDeal : ByteArray := prog_11_method_15_code
def yX9_readsDeal : MethodName := ⟨RX9, "readsDeal", "(I)I"⟩
abbrev cX9_readsHeld : ByteArray := prog_11_method_16_code
def yX9_readsHeld : MethodName := ⟨RX9, "readsHeld", "(II)I"⟩
abbrev cX9_readsShare : ByteArray := prog_11_method_17_code
def yX9_readsShare : MethodName := ⟨RX9, "readsShare", "()I"⟩
abbrev cX9_readsAll : ByteArray := prog_11_method_18_code
def yX9_readsAll : MethodName := ⟨RX9, "readsAll", "()I"⟩
abbrev cX9_game : ByteArray := prog_11_method_19_code
def yX9_game : MethodName := ⟨RX9, "game", "()J"⟩
abbrev cX9_fault : ByteArray := prog_11_method_20_code
def yX9_fault : MethodName := ⟨RX9, "fault", "()I"⟩
abbrev cX9_isPlace : ByteArray := prog_11_method_21_code
def yX9_isPlace : MethodName := ⟨RX9, "isPlace", "(I)Z"⟩
abbrev cX9_isSet : ByteArray := prog_11_method_22_code
def yX9_isSet : MethodName := ⟨RX9, "isSet", "(I)Z"⟩
abbrev cX9_place : ByteArray := prog_11_method_23_code
def yX9_place : MethodName := ⟨RX9, "place", "(II)J"⟩
abbrev cX9_placesIn : ByteArray := prog_11_method_24_code
def yX9_placesIn : MethodName := ⟨RX9, "placesIn", "(I)I"⟩
abbrev cX9_seen : ByteArray := prog_11_method_25_code
def yX9_seen : MethodName := ⟨RX9, "seen", "(II)J"⟩
abbrev cX9_isOf : ByteArray := prog_11_method_26_code
def yX9_isOf : MethodName := ⟨RX9, "isOf", "(II)Z"⟩
abbrev cX9_ownAbove : ByteArray := prog_11_method_27_code
def yX9_ownAbove : MethodName := ⟨RX9, "ownAbove", "(II)I"⟩
abbrev cX9_wayTo : ByteArray := prog_11_method_28_code
def yX9_wayTo : MethodName := ⟨RX9, "wayTo", "(II)I"⟩
abbrev cX9_areAlike : ByteArray := prog_11_method_29_code
def yX9_areAlike : MethodName := ⟨RX9, "areAlike", "(III)Z"⟩
abbrev cX9_isForgetful : ByteArray := prog_11_method_30_code
def yX9_isForgetful : MethodName := ⟨RX9, "isForgetful", "(I)Z"⟩
abbrev cX9_forgets : ByteArray := prog_11_method_31_code
def yX9_forgets : MethodName := ⟨RX9, "forgets", "(I)J"⟩
abbrev cX9_mix : ByteArray := prog_11_method_32_code
def yX9_mix : MethodName := ⟨RX9, "mix", "(III)J"⟩
abbrev cX9_share : ByteArray := prog_11_method_33_code
def yX9_share : MethodName := ⟨RX9, "share", "(II)J"⟩
abbrev cX9_shareTo : ByteArray := prog_11_method_34_code
def yX9_shareTo : MethodName := ⟨RX9, "shareTo", "(III)I"⟩
abbrev cX9_layReach : ByteArray := prog_11_method_35_code
def yX9_layReach : MethodName := ⟨RX9, "layReach", "(II)V"⟩
abbrev cX9_valueNow : ByteArray := prog_11_method_36_code
def yX9_valueNow : MethodName := ⟨RX9, "valueNow", "()J"⟩
abbrev cX9_value : ByteArray := prog_11_method_37_code
def yX9_value : MethodName := ⟨RX9, "value", "()J"⟩
abbrev cX9_reach : ByteArray := prog_11_method_38_code
def yX9_reach : MethodName := ⟨RX9, "reach", "(II)J"⟩
abbrev cX9_ownDeep : ByteArray := prog_11_method_39_code
def yX9_ownDeep : MethodName := ⟨RX9, "ownDeep", "(II)I"⟩
abbrev cX9_layWorth : ByteArray := prog_11_method_40_code
def yX9_layWorth : MethodName := ⟨RX9, "layWorth", "(I)V"⟩
abbrev cX9_worthOf : ByteArray := prog_11_method_41_code
def yX9_worthOf : MethodName := ⟨RX9, "worthOf", "(III)J"⟩
abbrev cX9_bestAct : ByteArray := prog_11_method_42_code
def yX9_bestAct : MethodName := ⟨RX9, "bestAct", "(III)I"⟩
abbrev cX9_answerBy : ByteArray := prog_11_method_43_code
def yX9_answerBy : MethodName := ⟨RX9, "answerBy", "(I)J"⟩
abbrev cX9_layGroups : ByteArray := prog_11_method_44_code
def yX9_layGroups : MethodName := ⟨RX9, "layGroups", "()V"⟩
abbrev cX9_layCounts : ByteArray := prog_11_method_45_code
def yX9_layCounts : MethodName := ⟨RX9, "layCounts", "(I)V"⟩
abbrev cX9_answerOf : ByteArray := prog_11_method_46_code
def yX9_answerOf : MethodName := ⟨RX9, "answerOf", "(I)J"⟩
abbrev cX9_gainOf : ByteArray := prog_11_method_47_code
def yX9_gainOf : MethodName := ⟨RX9, "gainOf", "(I)J"⟩
abbrev cX9_best : ByteArray := prog_11_method_48_code
def yX9_best : MethodName := ⟨RX9, "best", "(II)J"⟩
abbrev cX9_answer : ByteArray := prog_11_method_49_code
def yX9_answer : MethodName := ⟨RX9, "answer", "(I)J"⟩
abbrev cX9_belief : ByteArray := prog_11_method_50_code
def yX9_belief : MethodName := ⟨RX9, "belief", "(II)J"⟩
abbrev cX9_through : ByteArray := prog_11_method_51_code
def yX9_through : MethodName := ⟨RX9, "through", "(II)I"⟩
abbrev cX9_seeing : ByteArray := prog_11_method_52_code
def yX9_seeing : MethodName := ⟨RX9, "seeing", "(I)J"⟩
abbrev cX9_fewer : ByteArray := prog_11_method_53_code
def yX9_fewer : MethodName := ⟨RX9, "fewer", "(II)J"⟩
abbrev cX9_againstRounds : ByteArray := prog_11_method_54_code
def yX9_againstRounds : MethodName := ⟨RX9, "againstRounds", "(I)J"⟩
abbrev cX9_rounds : ByteArray := prog_11_method_55_code
def yX9_rounds : MethodName := ⟨RX9, "rounds", "(I)J"⟩
abbrev cX9_bound : ByteArray := prog_11_method_56_code
def yX9_bound : MethodName := ⟨RX9, "bound", "(I)J"⟩
abbrev cX9_mean : ByteArray := prog_11_method_57_code
def yX9_mean : MethodName := ⟨RX9, "mean", "(II)J"⟩
abbrev cX9_take : ByteArray := prog_11_method_58_code
def yX9_take : MethodName := ⟨RX9, "take", "(I)J"⟩
abbrev cX9_kindOf : ByteArray := prog_11_method_59_code
def yX9_kindOf : MethodName := ⟨RX9, "kindOf", "(I)I"⟩
abbrev cX9_kind : ByteArray := prog_11_method_60_code
def yX9_kind : MethodName := ⟨RX9, "kind", "(I)J"⟩
abbrev cX9_as : ByteArray := prog_11_method_61_code
def yX9_as : MethodName := ⟨RX9, "as", "(II)J"⟩
abbrev cX9_note : ByteArray := prog_11_method_62_code
def yX9_note : MethodName := ⟨RX9, "note", "(I)V"⟩
abbrev cX9_size10 : ByteArray := prog_11_method_63_code
def yX9_size10 : MethodName := ⟨RX9, "size10", "(I)J"⟩
abbrev cX9_size14 : ByteArray := prog_11_method_64_code
def yX9_size14 : MethodName := ⟨RX9, "size14", "(I)J"⟩
abbrev cX9_size15 : ByteArray := prog_11_method_65_code
def yX9_size15 : MethodName := ⟨RX9, "size15", "(I)J"⟩
abbrev cX9_mark20 : ByteArray := prog_11_method_66_code
def yX9_mark20 : MethodName := ⟨RX9, "mark20", "(I)J"⟩
abbrev cX9_mark21 : ByteArray := prog_11_method_67_code
def yX9_mark21 : MethodName := ⟨RX9, "mark21", "(I)J"⟩
abbrev cX9_mark22 : ByteArray := prog_11_method_68_code
def yX9_mark22 : MethodName := ⟨RX9, "mark22", "(I)J"⟩
abbrev cX9_size12 : ByteArray := prog_11_method_69_code
def yX9_size12 : MethodName := ⟨RX9, "size12", "(I)J"⟩
abbrev cX9_size11 : ByteArray := prog_11_method_70_code
def yX9_size11 : MethodName := ⟨RX9, "size11", "(I)J"⟩
abbrev cX9_size13 : ByteArray := prog_11_method_71_code
def yX9_size13 : MethodName := ⟨RX9, "size13", "(I)J"⟩
abbrev cX9_ask : ByteArray := prog_11_method_72_code
def yX9_ask : MethodName := ⟨RX9, "ask", "(II)J"⟩
abbrev cX9_trace : ByteArray := prog_11_method_73_code
def yX9_trace : MethodName := ⟨RX9, "trace", "(I)I"⟩
abbrev cX9_count : ByteArray := prog_11_method_74_code
def yX9_count : MethodName := ⟨RX9, "count", "(I)J"⟩
abbrev cX9_status : ByteArray := prog_11_method_75_code
def yX9_status : MethodName := ⟨RX9, "status", "()I"⟩
def RJ9 : String := "java/lang/Math"
def TJ9 : u_T := fun k => match k with
  | _ => ("", "", "", false)
def tyJ9 : Nat → FieldType := fun k => match k with
  | _ => .int
abbrev cJ9_max_7cf53 : ByteArray := prog_12_method_65_code
def yJ9_max_7cf53 : MethodName := ⟨RJ9, "max", "(II)I"⟩
abbrev cJ9_min_7cf53 : ByteArray := prog_12_method_69_code
def yJ9_min_7cf53 : MethodName := ⟨RJ9, "min", "(II)I"⟩
def RJ0 : String := "java/lang/String"
def TJ0 : u_T := fun k => match k with
  | _ => ("", "", "", false)
def tyJ0 : Nat → FieldType := fun k => match k with
  | _ => .int
abbrev cJ0_length_8abf5 : ByteArray := prog_13_method_54_code
def yJ0_length_8abf5 : MethodName := ⟨RJ0, "length", "()I"⟩
abbrev cJ0_charAt_5068e : ByteArray := prog_13_method_56_code
def yJ0_charAt_5068e : MethodName := ⟨RJ0, "charAt", "(I)C"⟩
abbrev cJ0_coder_7d493 : ByteArray := prog_13_method_152_code
def yJ0_coder_7d493 : MethodName := ⟨RJ0, "coder", "()B"⟩
abbrev cJ0_isLatin1_aae02 : ByteArray := prog_13_method_154_code
def yJ0_isLatin1_aae02 : MethodName := ⟨RJ0, "isLatin1", "()Z"⟩
abbrev cJ0_checkIndex_df160 : ByteArray := prog_13_method_155_code
def yJ0_checkIndex_df160 : MethodName := ⟨RJ0, "checkIndex", "(II)V"⟩
def RJ1 : String := "java/lang/StringLatin1"
def TJ1 : u_T := fun k => match k with
  | _ => ("", "", "", false)
def tyJ1 : Nat → FieldType := fun k => match k with
  | _ => .int
abbrev cJ1_charAt_3b067 : ByteArray := prog_14_method_2_code
def yJ1_charAt_3b067 : MethodName := ⟨RJ1, "charAt", "([BI)C"⟩
def RJ2 : String := "java/lang/StringUTF16"
def TJ2 : u_T := fun k => match k with
  | _ => ("", "", "", false)
def tyJ2 : Nat → FieldType := fun k => match k with
  | _ => .int
abbrev cJ2_getChar_3b067 : ByteArray := prog_15_method_5_code
def yJ2_getChar_3b067 : MethodName := ⟨RJ2, "getChar", "([BI)C"⟩
abbrev cJ2_length_9d52b : ByteArray := prog_15_method_6_code
def yJ2_length_9d52b : MethodName := ⟨RJ2, "length", "([B)I"⟩
abbrev cJ2_charAt_3b067 : ByteArray := prog_15_method_83_code
def yJ2_charAt_3b067 : MethodName := ⟨RJ2, "charAt", "([BI)C"⟩
abbrev cJ2_checkIndex_2214a : ByteArray := prog_15_method_91_code
def yJ2_checkIndex_2214a : MethodName := ⟨RJ2, "checkIndex", "(I[B)V"⟩
def RJ10 : String := "java/lang/System"
def TJ10 : u_T := fun k => match k with
  | _ => ("", "", "", false)
def tyJ10 : Nat → FieldType := fun k => match k with
  | _ => .int
def RJ7 : String := "java/util/Arrays"
def TJ7 : u_T := fun k => match k with
  | _ => ("", "", "", false)
def tyJ7 : Nat → FieldType := fun k => match k with
  | _ => .int
abbrev cJ7_fill_d0a16 : ByteArray := prog_17_method_101_code
def yJ7_fill_d0a16 : MethodName := ⟨RJ7, "fill", "([JJ)V"⟩
abbrev cJ7_fill_53178 : ByteArray := prog_17_method_103_code
def yJ7_fill_53178 : MethodName := ⟨RJ7, "fill", "([II)V"⟩
def RJ3 : String := "jdk/internal/util/Preconditions"
def TJ3 : u_T := fun k => match k with
  | _ => ("", "", "", false)
def tyJ3 : Nat → FieldType := fun k => match k with
  | _ => .int
abbrev cJ3_checkIndex_8e157 : ByteArray := prog_18_method_11_code
def yJ3_checkIndex_8e157 : MethodName := ⟨RJ3, "checkIndex", "(IILjava/util/function/BiFunction;)I"⟩
def RL : String := "HalfGamesLaw"
abbrev cL_law : ByteArray := code
def yL_law : MethodName := ⟨RL, "law", "([I)Z"⟩
end
section
/-! the abstract state: int rows, long rows, int fields, moving references, all by their static numbers -/
abbrev St : Type := (Nat → Nat → Int32) × (Nat → Nat → Int64) × (Nat → Int32) × (Nat → Nat)
def stA (σ : St) (k i : Nat) (x : Int32) : St := (fun a => if a = k then upd (σ.1 a) i x else σ.1 a, σ.2)
def stL (σ : St) (k i : Nat) (x : Int64) : St := (σ.1, fun a => if a = k then vp_updL (σ.2.1 a) i x else σ.2.1 a, σ.2.2)
def stF (σ : St) (n : Nat) (x : Int32) : St := (σ.1, σ.2.1, upd σ.2.2.1 n x, σ.2.2.2)
def stR (σ : St) (n a : Nat) : St := (σ.1, σ.2.1, σ.2.2.1, fun j => if j = n then a else σ.2.2.2 j)
def stC (σ : St) (k : Nat) (f : Nat → Int32) : St := (fun a => if a = k then f else σ.1 a, σ.2)
abbrev rI (σ : St) (k : Nat) (i : Int32) : Int32 := σ.1 k i.toNatClampNeg
abbrev rL (σ : St) (k : Nat) (i : Int32) : Int64 := σ.2.1 k i.toNatClampNeg
abbrev rF (σ : St) (n : Nat) : Int32 := σ.2.2.1 n
abbrev rR (σ : St) (n : Nat) : Nat := σ.2.2.2 n
def NC : Nat := 89
def kdL : List Nat := [0, 0, 0, 0, 0, 0, 0, 0, 0, 0, 0, 1, 1, 1, 1, 1, 1, 1, 1, 1, 1, 1, 4, 1, 1, 1, 1, 3, 0, 1, 1, 1, 1, 1, 1, 1, 1, 1, 1, 1, 4, 1, 1, 1, 1, 3, 4, 1, 1, 1, 2, 1, 1, 4, 1, 1, 4, 1, 1, 4, 4, 4, 1, 1, 1, 1, 1, 1, 1, 1, 1, 1, 1, 1, 1, 1, 1, 1, 1, 1, 1, 1, 1, 1, 4, 4, 1, 4, 1]
def lnL : List Nat := [0, 0, 0, 0, 0, 0, 0, 0, 0, 0, 0, 60, 60, 60, 60, 60, 60, 60, 60, 240, 60, 120, 120, 10, 10, 10, 10, 2, 0, 60, 60, 60, 60, 60, 60, 60, 60, 240, 60, 120, 120, 10, 10, 10, 10, 2, 60, 8, 8, 320, 600, 30, 30, 60, 60, 60, 180, 60, 600, 60, 60, 60, 16, 8, 8, 320, 600, 120, 120, 120, 120, 120, 120, 120, 120, 480, 20, 20, 30, 600, 16, 9, 9, 9, 60, 60, 60, 60, 60]
def ocL : List Nat := [8, 5, 7, 4, 3, 3, 6, 2, 0, 9, 1, 0, 0, 0, 0, 0, 0, 0, 0, 0, 0, 0, 0, 0, 0, 0, 0, 0, 1, 0, 0, 0, 0, 0, 0, 0, 0, 0, 0, 0, 0, 0, 0, 0, 0, 0, 0, 0, 0, 0, 0, 0, 0, 0, 0, 0, 0, 0, 0, 0, 0, 0, 0, 0, 0, 0, 0, 0, 0, 0, 0, 0, 0, 0, 0, 0, 0, 0, 0, 0, 0, 0, 0, 0, 0, 0, 0, 0, 0]
def obL : List (List (Nat × Nat)) := [[(0, 1), (0, 2), (0, 3), (0, 4), (0, 6), (0, 7), (0, 8), (0, 46), (2, 0), (2, 1), (1, 0), (1, 1)], [(0, 47), (0, 48), (0, 49)], [(0, 50), (1, 2), (1, 3), (1, 4), (1, 5), (1, 6)], [(1, 7), (1, 8)], [(0, 51)], [(0, 52)], [(0, 53), (0, 54), (0, 55), (0, 56), (0, 57), (1, 9), (1, 10)], [(1, 11), (0, 58), (0, 59), (0, 60), (0, 5), (0, 61)], [(0, 62), (1, 12)], [(0, 63), (0, 64), (0, 65), (1, 40), (0, 66), (1, 41), (1, 42), (0, 67), (0, 68), (0, 69), (0, 70), (0, 71), (0, 72), (0, 73), (0, 74), (0, 75), (1, 43), (0, 76), (0, 77), (0, 78), (0, 79), (1, 44), (0, 80), (1, 45), (1, 46), (1, 47), (1, 48), (1, 49), (0, 81), (0, 82), (0, 83), (1, 50), (1, 51), (0, 84), (0, 85), (0, 86), (0, 87), (0, 88), (1, 52), (1, 53)], [(1, 20), (0, 11), (0, 12), (0, 13), (0, 14), (0, 15), (0, 16), (0, 17), (0, 18), (0, 19), (0, 20), (0, 21), (0, 22), (0, 23), (0, 24), (0, 25), (0, 26), (0, 27)], [], [], [], [], [], [], [], [], [], [], [], [], [], [], [], [], [], [(1, 38), (0, 29), (0, 30), (0, 31), (0, 32), (0, 33), (0, 34), (0, 35), (0, 36), (0, 37), (0, 38), (0, 39), (0, 40), (0, 41), (0, 42), (0, 43), (0, 44), (0, 45)], [], [], [], [], [], [], [], [], [], [], [], [], [], [], [], [], [], [], [], [], [], [], [], [], [], [], [], [], [], [], [], [], [], [], [], [], [], [], [], [], [], [], [], [], [], [], [], [], [], [], [], [], [], [], [], [], [], [], [], []]
def gcl : List vw_C := [(RX0, TX0, 2), (RX1, TX1, 18), (RX2, TX2, 6), (RX3, TX3, 1), (RX4, TX4, 2), (RX5, TX5, 3), (RX6, TX6, 7), (RX7, TX7, 6), (RX8, TX8, 12), (RX9, TX9, 40)]
def kd (k : Nat) : Nat := kdL.getD k 9
def ln (k : Nat) : Nat := lnL.getD k 0
def oc (k : Nat) : Nat := ocL.getD k 0
def obS (k : Nat) : List (Nat × Nat) := obL.getD k []
/-- addresses; classes and slots; classes of arrays by kind; the String constants' cells and their bytes' -/
abbrev wT : Type := (Nat → Nat) × va_G × (Nat → ClassId) × (Nat → Nat) × (Nat → Nat)
def fv (w : wT) (q : (Nat → Int32) × (Nat → Nat)) (z : Nat × Nat) : Value := match z.1 with
  | 0 => .ref (w.1 z.2)
  | 1 => .int (q.1 z.2)
  | _ => .ref (w.1 (q.2 z.2))
def cellOf (w : wT) (σ : St) (k : Nat) : va_E := match kd k with
  | 0 => .inr (oc k, (obS k).map (fv w σ.2.2))
  | 1 => .inl (w.2.2.1 1, ln k, .inl (σ.1 k))
  | 2 => .inl (w.2.2.1 2, ln k, .inl (σ.1 k))
  | 3 => .inl (w.2.2.1 3, ln k, .inl (σ.1 k))
  | _ => .inl (w.2.2.1 4, ln k, .inr (.inl (σ.2.1 k)))
def cw (w : wT) (σ : St) : va_W := (List.range NC).map fun k => (w.1 k, cellOf w σ k)
def gtys (w : wT) : List (ClassId × FieldType) := [(w.2.2.1 1, .int), (w.2.2.1 2, .byte), (w.2.2.1 3, .boolean), (w.2.2.1 4, .long)]
def inA (w : wT) : Nat → Prop := fun q => ∃ k, k < NC ∧ q = w.1 k
def wInj (w : wT) : Prop := ∀ i j : Nat, i < NC → j < NC → w.1 i = w.1 j → i = j
theorem cw_at {w : wT} {σ : St} {k : Nat} (h : k < NC) : (cw w σ)[k]? = some (w.1 k, cellOf w σ k) := by simp [cw, h]
theorem cw_len {w : wT} {σ : St} : (cw w σ).length = NC := by simp [cw]
theorem cw_set {w : wT} {σ σ' : St} {k : Nat} {e : va_E} (hk : k < NC) (h1 : cellOf w σ' k = e) (h2 : ∀ j, j < NC → j ≠ k → cellOf w σ' j = cellOf w σ j) : (cw w σ).set k (w.1 k, e) = cw w σ' := by
  apply List.ext_getElem?
  intro j
  by_cases hj : j < NC
  · rw [cw_at hj]
    by_cases hjk : j = k
    · subst hjk
      rw [List.getElem?_set_self (by rw [cw_len]; exact hj), h1]
    · rw [List.getElem?_set_ne (Ne.symm hjk), cw_at hj, h2 j hj hjk]
  · rw [List.getElem?_eq_none (by rw [List.length_set, cw_len]; omega), List.getElem?_eq_none (by rw [cw_len]; omega)]
theorem cw_D {w : wT} {σ : St} (h : wInj w) : va_D (inA w) (cw w σ) := by
  have key : ∀ (k : Nat) (q : Nat × va_E), (cw w σ)[k]? = some q → k < NC ∧ q.1 = w.1 k := by
    intro k q hq
    by_cases hk : k < NC
    · rw [cw_at hk] at hq
      cases hq
      exact ⟨hk, rfl⟩
    · rw [List.getElem?_eq_none (by rw [cw_len]; omega)] at hq
      cases hq
  refine ⟨fun i j p q hi hj e => ?_, fun k q hk => ?_⟩
  · obtain ⟨a1, a2⟩ := key i p hi
    obtain ⟨b1, b2⟩ := key j q hj
    exact h i j a1 b1 (by rw [← a2, ← b2, e])
  · obtain ⟨a1, a2⟩ := key k q hk
    exact ⟨k, a1, a2⟩
theorem ce_A {w : wT} {σ : St} {k i j : Nat} {x : Int32} (h : j ≠ k) : cellOf w (stA σ k i x) j = cellOf w σ j := by
  unfold cellOf
  simp [stA, h]
theorem ce_C {w : wT} {σ : St} {k j : Nat} {f : Nat → Int32} (h : j ≠ k) : cellOf w (stC σ k f) j = cellOf w σ j := by
  unfold cellOf
  simp [stC, h]
theorem ce_L {w : wT} {σ : St} {k i j : Nat} {x : Int64} (h : j ≠ k) : cellOf w (stL σ k i x) j = cellOf w σ j := by
  unfold cellOf
  simp [stL, h]
theorem ce_1 {w : wT} {σ : St} {k : Nat} (h : kd k = 1) : cellOf w σ k = .inl (w.2.2.1 1, ln k, .inl (σ.1 k)) := by simp only [cellOf, h]
theorem ce_2 {w : wT} {σ : St} {k : Nat} (h : kd k = 2) : cellOf w σ k = .inl (w.2.2.1 2, ln k, .inl (σ.1 k)) := by simp only [cellOf, h]
theorem ce_3 {w : wT} {σ : St} {k : Nat} (h : kd k = 3) : cellOf w σ k = .inl (w.2.2.1 3, ln k, .inl (σ.1 k)) := by simp only [cellOf, h]
theorem ce_4 {w : wT} {σ : St} {k : Nat} (h : kd k = 4) : cellOf w σ k = .inl (w.2.2.1 4, ln k, .inr (.inl (σ.2.1 k))) := by simp only [cellOf, h]
theorem ce_0 {w : wT} {σ : St} {k : Nat} (h : kd k = 0) : cellOf w σ k = .inr (oc k, (obS k).map (fv w σ.2.2)) := by simp only [cellOf, h]
/-- field z stands once, in object k at place j -/
def once (z : Nat × Nat) (k j : Nat) : Bool := (List.range NC).all fun a => (List.range (obS a).length).all fun b => !((obS a)[b]? == some z) || (a == k && b == j)
theorem once_spec {z : Nat × Nat} {k j : Nat} (h : once z k j = true) {a b : Nat} (ha : a < NC) (hb : (obS a)[b]? = some z) : a = k ∧ b = j := by
  unfold once at h
  rw [List.all_eq_true] at h
  have h1 := h a (List.mem_range.mpr ha)
  rw [List.all_eq_true] at h1
  have hl := (List.getElem?_eq_some_iff.mp hb).1
  have h2 := h1 b (List.mem_range.mpr hl)
  rw [hb] at h2
  simpa using h2
theorem map_eq_of {q q' : (Nat → Int32) × (Nat → Nat)} {w : wT} {l : List (Nat × Nat)} (h : ∀ (b : Nat) (z : Nat × Nat), l[b]? = some z → fv w q' z = fv w q z) : l.map (fv w q') = l.map (fv w q) := by
  apply List.ext_getElem?
  intro b
  rw [List.getElem?_map, List.getElem?_map]
  cases hb : l[b]? with
  | none => rfl
  | some z => simp [h b z hb]
theorem set_map_eq {q q' : (Nat → Int32) × (Nat → Nat)} {w : wT} {l : List (Nat × Nat)} {j : Nat} {z : Nat × Nat} {v : Value} (hj : l[j]? = some z) (hv : fv w q' z = v) (h : ∀ (b : Nat) (y : Nat × Nat), b ≠ j → l[b]? = some y → fv w q' y = fv w q y) : (l.map (fv w q)).set j v = l.map (fv w q') := by
  have hl := (List.getElem?_eq_some_iff.mp hj).1
  apply List.ext_getElem?
  intro b
  by_cases hb : b = j
  · subst hb
    rw [List.getElem?_set_self (by simpa using hl), List.getElem?_map, hj, ← hv]
    rfl
  · rw [List.getElem?_set_ne (Ne.symm hb), List.getElem?_map, List.getElem?_map]
    cases hz : l[b]? with
    | none => rfl
    | some y => simp [h b y hb hz]
theorem fv_F {w : wT} {σ : St} {n : Nat} {x : Int32} {z : Nat × Nat} (h : z ≠ (1, n)) : fv w (stF σ n x).2.2 z = fv w σ.2.2 z := by
  obtain ⟨a, b⟩ := z
  match a with
  | 0 => rfl
  | 1 =>
    have hb : b ≠ n := fun e => h (by rw [e])
    simp [fv, stF, upd, hb]
  | a + 2 => rfl
theorem fv_R {w : wT} {σ : St} {n a : Nat} {z : Nat × Nat} (h : ¬ (2 ≤ z.1 ∧ z.2 = n)) : fv w (stR σ n a).2.2 z = fv w σ.2.2 z := by
  obtain ⟨c, b⟩ := z
  match c with
  | 0 => rfl
  | 1 => rfl
  | c + 2 =>
    have hb : b ≠ n := fun e => h ⟨by simp, e⟩
    simp [fv, stR, hb]
theorem cw_F {w : wT} {σ : St} {k j n : Nat} {x : Int32} (hk : k < NC) (h0 : kd k = 0) (hj : (obS k)[j]? = some (1, n)) (ho : once (1, n) k j = true) : (cw w σ).set k (w.1 k, .inr (oc k, ((obS k).map (fv w σ.2.2)).set j (.int x))) = cw w (stF σ n x) := by
  refine cw_set hk ?_ ?_
  · rw [ce_0 h0, ← set_map_eq (q := σ.2.2) (q' := (stF σ n x).2.2) hj (v := .int x) (by simp [fv, stF, upd]) (fun b y hb hy => fv_F (fun e => hb (once_spec ho hk (e ▸ hy)).2))]
  · intro a ha hak
    unfold cellOf
    have : (obS a).map (fv w (stF σ n x).2.2) = (obS a).map (fv w σ.2.2) := map_eq_of fun b z hb => fv_F (fun e => hak (once_spec ho ha (e ▸ hb)).1)
    rw [this]
    rfl
def onceR (n k j : Nat) : Bool := (List.range NC).all fun a => (List.range (obS a).length).all fun b => !(((obS a).getD b (0, 0)).1 ≥ 2 && ((obS a).getD b (0, 0)).2 == n) || (a == k && b == j)
theorem onceR_spec {n k j : Nat} (h : onceR n k j = true) {a b : Nat} {z : Nat × Nat} (ha : a < NC) (hb : (obS a)[b]? = some z) (hz : 2 ≤ z.1 ∧ z.2 = n) : a = k ∧ b = j := by
  unfold onceR at h
  rw [List.all_eq_true] at h
  have h1 := h a (List.mem_range.mpr ha)
  rw [List.all_eq_true] at h1
  have hl := (List.getElem?_eq_some_iff.mp hb).1
  have h2 := h1 b (List.mem_range.mpr hl)
  have hg : (obS a).getD b (0, 0) = z := by simp [List.getD, hb]
  rw [hg] at h2
  simp [hz.1, hz.2] at h2
  exact h2
theorem cw_R {w : wT} {σ : St} {k j n a : Nat} (hk : k < NC) (h0 : kd k = 0) (hj : (obS k)[j]? = some (2, n)) (ho : onceR n k j = true) : (cw w σ).set k (w.1 k, .inr (oc k, ((obS k).map (fv w σ.2.2)).set j (.ref (w.1 a)))) = cw w (stR σ n a) := by
  refine cw_set hk ?_ ?_
  · rw [ce_0 h0, ← set_map_eq (q := σ.2.2) (q' := (stR σ n a).2.2) hj (v := .ref (w.1 a)) (by simp [fv, stR]) (fun b y hb hy => fv_R (fun e => hb (onceR_spec ho hk hy e).2))]
  · intro c hc hck
    unfold cellOf
    have : (obS c).map (fv w (stR σ n a).2.2) = (obS c).map (fv w σ.2.2) := map_eq_of fun b z hb => fv_R (fun e => hck (onceR_spec ho hc hb e).1)
    rw [this]
    rfl
end
section
/-! the locals by their places -/
def la : List (Option Value) → Nat → Option Value
  | [], _ => none
  | x :: _, 0 => x
  | _ :: t, n + 1 => la t n
def lset : List (Option Value) → Nat → Option Value → List (Option Value)
  | [], 0, v => [v]
  | [], n + 1, v => none :: lset [] n v
  | _ :: t, 0, v => v :: t
  | x :: t, n + 1, v => x :: lset t n v
def lzi : Nat → List (Option Value) → List (Nat × Value)
  | _, [] => []
  | i, none :: t => lzi (i + 1) t
  | i, some v :: t => (i, v) :: lzi (i + 1) t
theorem lzi_mem {q : Nat × Value} : ∀ {L : List (Option Value)} {i : Nat}, q ∈ lzi i L ↔ ∃ j, q.1 = i + j ∧ la L j = some q.2
  | [], i => by simp [lzi, la]
  | none :: t, i => by
    rw [lzi, lzi_mem (L := t)]
    constructor
    · rintro ⟨j, h1, h2⟩
      exact ⟨j + 1, by omega, h2⟩
    · rintro ⟨j, h1, h2⟩
      cases j with
      | zero => simp [la] at h2
      | succ j => exact ⟨j, by omega, h2⟩
  | some v :: t, i => by
    rw [lzi, List.mem_cons, lzi_mem (L := t)]
    constructor
    · rintro (h | ⟨j, h1, h2⟩)
      · exact ⟨0, by rw [h]; rfl, by rw [h]; rfl⟩
      · exact ⟨j + 1, by omega, h2⟩
    · rintro ⟨j, h1, h2⟩
      cases j with
      | zero =>
        left
        have h3 : v = q.2 := by simpa [la] using h2
        exact Prod.ext (by simpa using h1) h3.symm
      | succ j => exact Or.inr ⟨j, by omega, h2⟩
theorem lz_mem {q : Nat × Value} {L : List (Option Value)} : q ∈ lzi 0 L ↔ la L q.1 = some q.2 := by
  rw [lzi_mem]
  constructor
  · rintro ⟨j, h1, h2⟩
    have : q.1 = j := by omega
    rw [this]; exact h2
  · intro h
    exact ⟨q.1, by omega, h⟩
theorem la_lset_self : ∀ {L : List (Option Value)} {i : Nat} {v : Option Value}, la (lset L i v) i = v
  | [], 0, v => rfl
  | [], n + 1, v => la_lset_self (L := []) (i := n)
  | _ :: t, 0, v => rfl
  | x :: t, n + 1, v => la_lset_self (L := t) (i := n)
theorem la_nil (i : Nat) : la [] i = none := by cases i <;> rfl
theorem la_lset_ne : ∀ {L : List (Option Value)} {i j : Nat} {v : Option Value}, j ≠ i → la (lset L i v) j = la L j
  | [], 0, 0, v, h => absurd rfl h
  | [], 0, j + 1, v, h => by simp [lset, la, la_nil]
  | [], n + 1, 0, v, h => rfl
  | [], n + 1, j + 1, v, h => by
    show la (lset [] n v) j = _
    rw [la_lset_ne (by omega)]
    simp [la, la_nil]
  | _ :: t, 0, 0, v, h => absurd rfl h
  | _ :: t, 0, j + 1, v, h => rfl
  | x :: t, n + 1, 0, v, h => rfl
  | x :: t, n + 1, j + 1, v, h => by
    show la (lset t n v) j = la t j
    exact la_lset_ne (by omega)
def lvh (ls : Array Slot) (nL : Nat) (L : List (Option Value)) : Prop := lv_has ls nL (lzi 0 L)
theorem lvh_at {ls : Array Slot} {nL : Nat} {L : List (Option Value)} (h : lvh ls nL L) {i : Nat} {v : Value} (hi : la L i = some v) : ls[i]? = some (.val v) := h.2.2 (i, v) (lz_mem.mpr hi)
/-- the cell before i isn't a long's -/
def lo (L : List (Option Value)) : Nat → Bool
  | 0 => true
  | i + 1 => match la L i with
    | some v => v.category == 1
    | none => true
theorem lo_spec {L : List (Option Value)} {i j : Nat} {v : Value} (h : lo L i = true) (hj : la L j = some v) (e : j + 1 = i) : v.category = 1 := by
  subst e
  simp only [lo, hj] at h
  simpa using h
theorem lvh_set1 {ls : Array Slot} {nL i : Nat} {L : List (Option Value)} {v : Value} (ho : lo L i = true) (h : lv_has ls nL ((i, v) :: (lzi 0 L).filter (fun q => !(q.1 == i) && !(q.1 + 1 == i && q.2.category == 2)))) : lvh ls nL (lset L i (some v)) := by
  refine ⟨h.1, h.2.1, fun q hq => ?_⟩
  have hq := lz_mem.mp hq
  by_cases hi : q.1 = i
  · rw [hi, la_lset_self] at hq
    refine h.2.2 q ?_
    have : q = (i, v) := Prod.ext hi (Option.some.inj hq).symm
    rw [this]
    exact List.mem_cons_self
  · rw [la_lset_ne hi] at hq
    refine h.2.2 q (List.mem_cons_of_mem _ (List.mem_filter.mpr ⟨lz_mem.mpr hq, ?_⟩))
    by_cases h2 : q.1 + 1 = i
    · simp [hi, lo_spec ho hq h2]
    · simp [hi, h2]
theorem lvh_set2 {ls : Array Slot} {nL i : Nat} {L : List (Option Value)} {v : Value} (ho : lo L i = true) (h : lv_has ls nL ((i, v) :: (lzi 0 L).filter (fun q => !(q.1 == i) && (!(q.1 == i + 1) && !(q.1 + 1 == i && q.2.category == 2))))) : lvh ls nL (lset (lset L i (some v)) (i + 1) none) := by
  refine ⟨h.1, h.2.1, fun q hq => ?_⟩
  have hq := lz_mem.mp hq
  by_cases h1 : q.1 = i + 1
  · rw [h1, la_lset_self] at hq
    cases hq
  · rw [la_lset_ne h1] at hq
    by_cases hi : q.1 = i
    · rw [hi, la_lset_self] at hq
      refine h.2.2 q ?_
      have : q = (i, v) := Prod.ext hi (Option.some.inj hq).symm
      rw [this]
      exact List.mem_cons_self
    · rw [la_lset_ne hi] at hq
      refine h.2.2 q (List.mem_cons_of_mem _ (List.mem_filter.mpr ⟨lz_mem.mpr hq, ?_⟩))
      by_cases h2 : q.1 + 1 = i
      · simp [hi, h1, lo_spec ho hq h2]
      · simp [hi, h1, h2]
/-- fewer locals -/
def lle : List (Option Value) → List (Option Value) → Prop
  | [], _ => True
  | none :: t, L => lle t L.tail
  | some v :: t, L => L.head? = some (some v) ∧ lle t L.tail
theorem lle_spec : ∀ {L' L : List (Option Value)}, lle L' L → ∀ {i : Nat} {v : Value}, la L' i = some v → la L i = some v
  | [], L, _, i, v, h => by simp [la_nil] at h
  | none :: t, L, hl, 0, v, h => by cases h
  | none :: t, L, hl, i + 1, v, h => by
    have := lle_spec (L' := t) (L := L.tail) hl (i := i) h
    cases L with
    | nil => simp [la_nil] at this
    | cons x t' => exact this
  | some z :: t, L, hl, 0, v, h => by
    cases L with
    | nil => cases hl.1
    | cons x t' =>
      have h1 : x = some z := by simpa using hl.1
      rw [h1]; exact h
  | some z :: t, L, hl, i + 1, v, h => by
    have := lle_spec (L' := t) (L := L.tail) hl.2 (i := i) h
    cases L with
    | nil => simp [la_nil] at this
    | cons x t' => exact this
theorem lvh_le {ls : Array Slot} {nL : Nat} {L L' : List (Option Value)} (hl : lle L' L) (h : lvh ls nL L) : lvh ls nL L' :=
  ⟨h.1, h.2.1, fun _ hq => h.2.2 _ (lz_mem.mpr (lle_spec hl (lz_mem.mp hq)))⟩
/-! the machine around a method's walk, in one -/
abbrev gE : Type := Program × Launch × Env × Room × State × MethodId × Array Value × List Frame × Method × Code × Nat × Nat × (State → Prop)
abbrev eP (E : gE) : Program := E.1
abbrev eL (E : gE) : Launch := E.2.1
abbrev eE (E : gE) : Env := E.2.2.1
abbrev eR (E : gE) : Room := E.2.2.2.1
abbrev eS (E : gE) : State := E.2.2.2.2.1
abbrev eM (E : gE) : MethodId := E.2.2.2.2.2.1
abbrev eA (E : gE) : Array Value := E.2.2.2.2.2.2.1
abbrev eB (E : gE) : List Frame := E.2.2.2.2.2.2.2.1
abbrev eMe (E : gE) : Method := E.2.2.2.2.2.2.2.2.1
abbrev eC (E : gE) : Code := E.2.2.2.2.2.2.2.2.2.1
abbrev eCe (E : gE) : Nat := E.2.2.2.2.2.2.2.2.2.2.1
abbrev eSl (E : gE) : Nat := E.2.2.2.2.2.2.2.2.2.2.2.1
abbrev eQ (E : gE) : State → Prop := E.2.2.2.2.2.2.2.2.2.2.2.2
abbrev lenS : List Nat := [3, 4, 3, 3]
abbrev bytS : List (List Int32) := [[101, 110, 100], [100, 101, 97, 108], [111, 110, 101], [116, 119, 111]]
/-- what the world holds beside its cells: a private static of the nest, the String constants, how Strings are kept -/
def gX (w : wT) (U : State) (H : Heap) : Prop := va_Nw (.methodLinkNest RX6 100 yX8_gainOf RX8) U ∧ vk_S 4 lenS bytS w.2.2.2.1 w.2.2.2.2 (inA w) U H ∧ (vk_R RX7 47 "end" (w.2.2.2.1 0) U ∧ vk_R RX7 53 "deal" (w.2.2.2.1 1) U ∧ vk_R RX7 55 "one" (w.2.2.2.1 2) U ∧ vk_R RX7 57 "two" (w.2.2.2.1 3) U) ∧ va_Z "java/lang/String" "COMPACT_STRINGS" "Z" (.int 1) (inA w) U H
theorem gX.same {w : wT} {u U : State} {H : Heap} (hv : U.vm = u.vm) (h : gX w u H) : gX w U H := by
  have ha : u.vm.Alike U.vm := by rw [hv]; exact Vm.Alike.refl u.vm
  exact ⟨h.1.same rfl hv.symm, h.2.1.moved ha, ⟨h.2.2.1.1.same hv, h.2.2.1.2.1.same hv, h.2.2.1.2.2.1.same hv, h.2.2.1.2.2.2.same hv⟩, h.2.2.2.moved ha⟩
theorem gX.warm {w : wT} {s U : State} {H : Heap} (hW : s.WarmedH U.vm) (h : gX w s H) : gX w U H :=
  ⟨h.1.warmM hW, h.2.1.moved hW.alike, ⟨h.2.2.1.1.warm hW, h.2.2.1.2.1.warm hW, h.2.2.1.2.2.1.warm hW, h.2.2.1.2.2.2.warm hW⟩, h.2.2.2.moved hW.alike⟩
theorem gX.kept {w : wT} {U : State} {H H1 : Heap} (h : gX w U H) (hq : ∀ a : Nat, a < H.size → ¬ inA w a → H1[a]? = H[a]?) : gX w U H1 := ⟨h.1, h.2.1.kept hq, h.2.2.1, h.2.2.2.kept hq⟩
/-- from every machine state that pictures (σ, pc, locals, stack) the walk comes to its end -/
def gW (E : gE) (w : wT) (nL : Nat) (σ : St) (pc : Nat) (L : List (Option Value)) (st : List Value) : Prop :=
  ∀ (H : Heap) (locs : List Loc) (ls : Array Slot), lvh ls nL L → va_P w.2.1 gcl (cw w σ) H → va_S (inA w) (eS E).heap H locs → W (eP E) (eL E) (eE E) (eR E) (eS E) (eM E) (eA E) (eB E) (eMe E) (eC E) H locs (eCe E) (eSl E) (eQ E) (F0 (eM E) pc ls st)
def gC (E : gE) (w : wT) (cc : ByteArray) (nL : Nat) (own : String) (h : Nat) : Prop :=
  (eP E).tables.exec = Jvm.exec ∧ (eC E).code = cc ∧ (eC E).maxLocals = nL ∧ (eS E).vm.findClass own = some (eM E).cls ∧ (∀ t ∈ gT, t.before (eA E) (eS E) = true) ∧ va_K w.2.1 gcl (gtys w) (eS E) ∧ wInj w ∧ gX w (eS E) (eS E).heap ∧ (h ≤ (eR E).frames ∧ 64 * h ≤ (eR E).locals) ∧ eCe E ≤ (eR E).cells ∧ eSl E ≤ (eR E).slots
def Wd (w : wT) (σ : St) (U : State) : Prop := va_P w.2.1 gcl (cw w σ) U.heap ∧ va_K w.2.1 gcl (gtys w) U ∧ gX w U U.heap
def Qw (w : wT) (r : Option Value) (σ' : St) : Array Value → State → Outcome → State → Prop := fun _ st o t => o = .returned r ∧ va_P w.2.1 gcl (cw w σ') t.heap ∧ va_F (inA w) st t
def gWs (y : MethodName) (bytes : ByteArray) (maxL : Nat) (ret : Option FieldType) : List Cond := Cond.code y bytes maxL ret :: gT
def rmh (h : Nat) : Room := { frames := h, cells := 0, slots := 0, locals := 64 * h }
def gM (w : wT) (l : Launch) (y : MethodName) (bytes : ByteArray) (maxL : Nat) (ret : Option FieldType) (h : Nat) (as : List Value) (σ : St) (r : Option Value) (σ' : St) : Prop :=
  Met l y (gWs y bytes maxL ret) (rmh h) (va_Pc as (Wd w σ)) (Qw w r σ') 0 0 (inA w)
def gQ (E : gE) (w : wT) (ret : Option FieldType) (r : Option Value) (σ' : St) : Prop := eQ E = MQ (eB E) (Qw w r σ') (eA E) (eS E) (eCe E) (eSl E) (inA w) ∧ (eMe E).sig.returnType = ret ∧ (eMe E).locks = false
theorem gM_of {w : wT} {l : Launch} {y : MethodName} {bytes : ByteArray} {maxL : Nat} {ret : Option FieldType} {h : Nat} {as : List Value} {σ σ' : St} {r : Option Value} (hi : wInj w) (hy : plainName y.cls = true) (L : List (Option Value)) (hL : lzi 0 L = lv_args 0 as) (hn : (lg_sl as).length ≤ maxL)
    (body : ∀ E : gE, eL E = l → gC E w bytes maxL y.cls h → gQ E w ret r σ' → gW E w maxL σ 0 L []) : gM w l y bytes maxL ret h as σ r σ' := by
  refine Met.ofW (cc := bytes) (maxL := maxL) (ret := ret) hy rfl ?_
  intro p e s m args below meth c s₁ B hml hv
  obtain ⟨rfl, hP, hK, hX⟩ := hv
  have hts := atoms_spec (ws := gWs y bytes maxL ret) B.pre
  have hl := lv_entry as (n := maxL) hn
  rw [lg_entry_eq]
  refine body (p, l, e, rmh h, s, m, as.toArray, below, meth, c, 0, 0, MQ below (Qw w r σ') as.toArray s 0 0 (inA w)) rfl ⟨B.exec, B.bytes, hml, findClass_of_methodNamed B.named, fun t ht => hts t (List.mem_cons_of_mem _ ht), hK, hi, hX, ⟨Nat.le_refl _, Nat.le_refl _⟩, Nat.zero_le _, Nat.zero_le _⟩ ⟨rfl, B.returns, B.notSynchronized⟩ s.heap [] _ ?_ hP va_S.rf
  unfold lvh
  rw [hL]
  exact hl
theorem gM_blind {w : wT} {σ : St} {as : List Value} : FrameBlind (va_Pc as (Wd w σ)) := by
  intro a U g mk hq
  obtain ⟨q0, qP, qK, qX⟩ := hq
  exact ⟨q0, qP, va_K.moved (u := U) (U := U.calling g mk a) (Vm.Alike.refl U.vm) qK, gX.same (u := U) (U := U.calling g mk a) rfl qX⟩
/-- what the tables say of a method -/
def gY (y : MethodName) (bytes : ByteArray) (maxL : Nat) (ret : Option FieldType) (n : Nat) : Prop :=
  Cond.code y bytes maxL ret ∈ lw_tbl ∧ Cond.initialized y.cls ∈ lw_tbl ∧ (y.cls ≠ "java/lang/invoke/MethodHandle" ∧ y.cls ≠ "java/lang/invoke/VarHandle" ∧ (parseMethodDescriptor y.desc).map (fun d => d.parameters.length) = some n) ∧ maxL ≤ 45
theorem gGood (y : MethodName) (bytes : ByteArray) (maxL : Nat) (ret : Option FieldType) (h : Cond.code y bytes maxL ret ∈ lw_tbl) : GoodIn gT (gWs y bytes maxL ret) := by
  intro t ht
  rcases List.mem_cons.mp ht with rfl | ht
  · exact ⟨gT_mem h rfl, Or.inl rfl⟩
  · exact ⟨ht, good_of_word (gT_good t ht)⟩
section G
variable {E : gE} {w : wT} {cc : ByteArray} {nL : Nat} {own : String} {h : Nat} {σ : St} {pc n : Nat} {L L' : List (Option Value)} {st : List Value}
theorem gC.word (X : gC E w cc nL own h) {t : Cond} (ht : t ∈ lw_tbl) (hg : goodWord t = true) : t.before (eA E) (eS E) = true := X.2.2.2.2.1 t (gT_mem ht hg)
theorem g_le (hl : lle L' L) (k : gW E w nL σ pc L' st) : gW E w nL σ pc L st := fun H locs ls a b c => k H locs ls (lvh_le hl a) b c
theorem g_iadd (X : gC E w cc nL own h) {x y : Int32} (hd : decode cc pc = .ok (.iadd, 1)) (hp : pc + 1 = n) (k : gW E w nL σ n L (.int (x + y) :: st)) : gW E w nL σ pc L (.int y :: .int x :: st) := fun H locs ls a b c => lv_iadd X.1 X.2.1 hd  (by rw [hp]; exact k H locs ls a b c)
theorem g_isub (X : gC E w cc nL own h) {x y : Int32} (hd : decode cc pc = .ok (.isub, 1)) (hp : pc + 1 = n) (k : gW E w nL σ n L (.int (x - y) :: st)) : gW E w nL σ pc L (.int y :: .int x :: st) := fun H locs ls a b c => lv_isub X.1 X.2.1 hd  (by rw [hp]; exact k H locs ls a b c)
theorem g_imul (X : gC E w cc nL own h) {x y : Int32} (hd : decode cc pc = .ok (.imul, 1)) (hp : pc + 1 = n) (k : gW E w nL σ n L (.int (x * y) :: st)) : gW E w nL σ pc L (.int y :: .int x :: st) := fun H locs ls a b c => lv_imul X.1 X.2.1 hd  (by rw [hp]; exact k H locs ls a b c)
theorem g_iand (X : gC E w cc nL own h) {x y : Int32} (hd : decode cc pc = .ok (.iand, 1)) (hp : pc + 1 = n) (k : gW E w nL σ n L (.int (x &&& y) :: st)) : gW E w nL σ pc L (.int y :: .int x :: st) := fun H locs ls a b c => lv_iand X.1 X.2.1 hd  (by rw [hp]; exact k H locs ls a b c)
theorem g_ladd (X : gC E w cc nL own h) {x y : Int64} (hd : decode cc pc = .ok (.ladd, 1)) (hp : pc + 1 = n) (k : gW E w nL σ n L (.long (x + y) :: st)) : gW E w nL σ pc L (.long y :: .long x :: st) := fun H locs ls a b c => lv_ladd X.1 X.2.1 hd  (by rw [hp]; exact k H locs ls a b c)
theorem g_lsub (X : gC E w cc nL own h) {x y : Int64} (hd : decode cc pc = .ok (.lsub, 1)) (hp : pc + 1 = n) (k : gW E w nL σ n L (.long (x - y) :: st)) : gW E w nL σ pc L (.long y :: .long x :: st) := fun H locs ls a b c => lv_lsub X.1 X.2.1 hd  (by rw [hp]; exact k H locs ls a b c)
theorem g_lmul (X : gC E w cc nL own h) {x y : Int64} (hd : decode cc pc = .ok (.lmul, 1)) (hp : pc + 1 = n) (k : gW E w nL σ n L (.long (x * y) :: st)) : gW E w nL σ pc L (.long y :: .long x :: st) := fun H locs ls a b c => lv_lmul X.1 X.2.1 hd  (by rw [hp]; exact k H locs ls a b c)
theorem g_land (X : gC E w cc nL own h) {x y : Int64} (hd : decode cc pc = .ok (.land, 1)) (hp : pc + 1 = n) (k : gW E w nL σ n L (.long (x &&& y) :: st)) : gW E w nL σ pc L (.long y :: .long x :: st) := fun H locs ls a b c => lv_land X.1 X.2.1 hd  (by rw [hp]; exact k H locs ls a b c)
theorem g_lor (X : gC E w cc nL own h) {x y : Int64} (hd : decode cc pc = .ok (.lor, 1)) (hp : pc + 1 = n) (k : gW E w nL σ n L (.long (x ||| y) :: st)) : gW E w nL σ pc L (.long y :: .long x :: st) := fun H locs ls a b c => lv_lor X.1 X.2.1 hd  (by rw [hp]; exact k H locs ls a b c)
theorem g_ldiv (X : gC E w cc nL own h) {x y : Int64} (hd : decode cc pc = .ok (.ldiv, 1)) (hne : ¬ y = 0) (hp : pc + 1 = n) (k : gW E w nL σ n L (.long (x / y) :: st)) : gW E w nL σ pc L (.long y :: .long x :: st) := fun H locs ls a b c => lv_ldiv X.1 X.2.1 hd hne (by rw [hp]; exact k H locs ls a b c)
theorem g_lneg (X : gC E w cc nL own h) {x : Int64} (hd : decode cc pc = .ok (.lneg, 1)) (hp : pc + 1 = n) (k : gW E w nL σ n L (.long (-x) :: st)) : gW E w nL σ pc L (.long x :: st) := fun H locs ls a b c => lv_lneg X.1 X.2.1 hd  (by rw [hp]; exact k H locs ls a b c)
theorem g_i2l (X : gC E w cc nL own h) {x : Int32} (hd : decode cc pc = .ok (.i2l, 1)) (hp : pc + 1 = n) (k : gW E w nL σ n L (.long (x.toInt64) :: st)) : gW E w nL σ pc L (.int x :: st) := fun H locs ls a b c => lv_i2l X.1 X.2.1 hd rfl (by rw [hp]; exact k H locs ls a b c)
theorem g_l2i (X : gC E w cc nL own h) {x : Int64} (hd : decode cc pc = .ok (.l2i, 1)) (hp : pc + 1 = n) (k : gW E w nL σ n L (.int (x.toInt32) :: st)) : gW E w nL σ pc L (.long x :: st) := fun H locs ls a b c => lv_l2i X.1 X.2.1 hd rfl (by rw [hp]; exact k H locs ls a b c)
theorem g_i2b (X : gC E w cc nL own h) {x : Int32} (hd : decode cc pc = .ok (.i2b, 1)) (hp : pc + 1 = n) (k : gW E w nL σ n L (.int (x.toInt8.toInt32) :: st)) : gW E w nL σ pc L (.int x :: st) := fun H locs ls a b c => lv_i2b X.1 X.2.1 hd rfl (by rw [hp]; exact k H locs ls a b c)
theorem g_i2s (X : gC E w cc nL own h) {x : Int32} (hd : decode cc pc = .ok (.i2s, 1)) (hp : pc + 1 = n) (k : gW E w nL σ n L (.int (x.toInt16.toInt32) :: st)) : gW E w nL σ pc L (.int x :: st) := fun H locs ls a b c => lv_i2s X.1 X.2.1 hd rfl (by rw [hp]; exact k H locs ls a b c)
theorem g_lushr (X : gC E w cc nL own h) {x : Int64} {y : Int32} (hd : decode cc pc = .ok (.lushr, 1)) (hp : pc + 1 = n) (k : gW E w nL σ n L (.long ((x.toUInt64 >>> (y.toInt64.toUInt64 &&& Int64.toUInt64 63)).toInt64) :: st)) : gW E w nL σ pc L (.int y :: .long x :: st) := fun H locs ls a b c => lv_lushr X.1 X.2.1 hd rfl (by rw [hp]; exact k H locs ls a b c)
theorem g_lshl (X : gC E w cc nL own h) {x : Int64} {y : Int32} (hd : decode cc pc = .ok (.lshl, 1)) (hp : pc + 1 = n) (k : gW E w nL σ n L (.long (x <<< (y.toInt64 &&& 63)) :: st)) : gW E w nL σ pc L (.int y :: .long x :: st) := fun H locs ls a b c => lv_lshl X.1 X.2.1 hd rfl (by rw [hp]; exact k H locs ls a b c)
theorem g_lshr (X : gC E w cc nL own h) {x : Int64} {y : Int32} (hd : decode cc pc = .ok (.lshr, 1)) (hp : pc + 1 = n) (k : gW E w nL σ n L (.long (x >>> (y.toInt64 &&& 63)) :: st)) : gW E w nL σ pc L (.int y :: .long x :: st) := fun H locs ls a b c => lv_lshr X.1 X.2.1 hd rfl (by rw [hp]; exact k H locs ls a b c)
theorem g_iconst (X : gC E w cc nL own h) {z : Int} {v : Int32} (hv : Int32.ofInt z = v) (hd : decode cc pc = .ok (.iconst z, 1)) (hp : pc + 1 = n) (k : gW E w nL σ n L (.int v :: st)) : gW E w nL σ pc L (st) := fun H locs ls a b c => lv_iconst X.1 X.2.1 hd hv (by rw [hp]; exact k H locs ls a b c)
theorem g_bipush (X : gC E w cc nL own h) {z : Int} {v : Int32} (hv : (Int8.ofInt z).toInt32 = v) (hd : decode cc pc = .ok (.bipush z, 2)) (hp : pc + 2 = n) (k : gW E w nL σ n L (.int v :: st)) : gW E w nL σ pc L (st) := fun H locs ls a b c => lv_bipush X.1 X.2.1 hd hv (by rw [hp]; exact k H locs ls a b c)
theorem g_sipush (X : gC E w cc nL own h) {z : Int} {v : Int32} (hv : (Int16.ofInt z).toInt32 = v) (hd : decode cc pc = .ok (.sipush z, 3)) (hp : pc + 3 = n) (k : gW E w nL σ n L (.int v :: st)) : gW E w nL σ pc L (st) := fun H locs ls a b c => lv_sipush X.1 X.2.1 hd hv (by rw [hp]; exact k H locs ls a b c)
theorem g_lconst (X : gC E w cc nL own h) {z : Fin 2} {v : Int64} (hv : Int64.ofNat (z : Nat) = v) (hd : decode cc pc = .ok (.lconst z, 1)) (hp : pc + 1 = n) (k : gW E w nL σ n L (.long v :: st)) : gW E w nL σ pc L (st) := fun H locs ls a b c => lv_lconst X.1 X.2.1 hd hv (by rw [hp]; exact k H locs ls a b c)
theorem g_iload_n (X : gC E w cc nL own h) {z : Fin 4} {x : Int32} (hd : decode cc pc = .ok (.iload_n z, 1)) (hi : la L (z : Nat) = some (.int x)) (hp : pc + 1 = n) (k : gW E w nL σ n L (.int x :: st)) : gW E w nL σ pc L st := fun H locs ls a b c => lv_iload_n X.1 X.2.1 hd rfl (lvh_at a hi) (by rw [hp]; exact k H locs ls a b c)
theorem g_iload (X : gC E w cc nL own h) {z : Nat} {x : Int32} (hd : decode cc pc = .ok (.iload z, 2)) (hi : la L z = some (.int x)) (hp : pc + 2 = n) (k : gW E w nL σ n L (.int x :: st)) : gW E w nL σ pc L st := fun H locs ls a b c => lv_iload X.1 X.2.1 hd (lvh_at a hi) (by rw [hp]; exact k H locs ls a b c)
theorem g_lload_n (X : gC E w cc nL own h) {z : Fin 4} {x : Int64} (hd : decode cc pc = .ok (.lload_n z, 1)) (hi : la L (z : Nat) = some (.long x)) (hp : pc + 1 = n) (k : gW E w nL σ n L (.long x :: st)) : gW E w nL σ pc L st := fun H locs ls a b c => lv_lload_n X.1 X.2.1 hd rfl (lvh_at a hi) (by rw [hp]; exact k H locs ls a b c)
theorem g_lload (X : gC E w cc nL own h) {z : Nat} {x : Int64} (hd : decode cc pc = .ok (.lload z, 2)) (hi : la L z = some (.long x)) (hp : pc + 2 = n) (k : gW E w nL σ n L (.long x :: st)) : gW E w nL σ pc L st := fun H locs ls a b c => lv_lload X.1 X.2.1 hd (lvh_at a hi) (by rw [hp]; exact k H locs ls a b c)
theorem g_aload_n (X : gC E w cc nL own h) {z : Fin 4} {x : Nat} (hd : decode cc pc = .ok (.aload_n z, 1)) (hi : la L (z : Nat) = some (.ref x)) (hp : pc + 1 = n) (k : gW E w nL σ n L (.ref x :: st)) : gW E w nL σ pc L st := fun H locs ls a b c => lv_aload_n X.1 X.2.1 hd rfl (lvh_at a hi) (by rw [hp]; exact k H locs ls a b c)
theorem g_aload (X : gC E w cc nL own h) {z : Nat} {x : Nat} (hd : decode cc pc = .ok (.aload z, 2)) (hi : la L z = some (.ref x)) (hp : pc + 2 = n) (k : gW E w nL σ n L (.ref x :: st)) : gW E w nL σ pc L st := fun H locs ls a b c => lv_aload X.1 X.2.1 hd (lvh_at a hi) (by rw [hp]; exact k H locs ls a b c)
theorem g_istore_n (X : gC E w cc nL own h) {z : Fin 4} {x : Int32} (L' : List (Option Value)) (hd : decode cc pc = .ok (.istore_n z, 1)) (hn : (z : Nat) < nL) (ho : lo L (z : Nat) = true) (hL : lset L (z : Nat) (some (.int x)) = L') (hp : pc + 1 = n) (k : gW E w nL σ n L' st) : gW E w nL σ pc L (.int x :: st) := fun H locs ls a b c => lv_istore_n X.1 X.2.1 hd rfl a hn rfl (fun ls1 a1 => by rw [hp]; exact k H locs ls1 (hL ▸ lvh_set1 ho a1) b c)
theorem g_istore (X : gC E w cc nL own h) {z : Nat} {x : Int32} (L' : List (Option Value)) (hd : decode cc pc = .ok (.istore z, 2)) (hn : z < nL) (ho : lo L z = true) (hL : lset L z (some (.int x)) = L') (hp : pc + 2 = n) (k : gW E w nL σ n L' st) : gW E w nL σ pc L (.int x :: st) := fun H locs ls a b c => lv_istore X.1 X.2.1 hd  a hn rfl (fun ls1 a1 => by rw [hp]; exact k H locs ls1 (hL ▸ lvh_set1 ho a1) b c)
theorem g_lstore_n (X : gC E w cc nL own h) {z : Fin 4} {x : Int64} (L' : List (Option Value)) (hd : decode cc pc = .ok (.lstore_n z, 1)) (hn : (z : Nat) + 1 < nL) (ho : lo L (z : Nat) = true) (hL : lset (lset L (z : Nat) (some (.long x))) ((z : Nat) + 1) none = L') (hp : pc + 1 = n) (k : gW E w nL σ n L' st) : gW E w nL σ pc L (.long x :: st) := fun H locs ls a b c => lv_lstore_n X.1 X.2.1 hd rfl a hn rfl (fun ls1 a1 => by rw [hp]; exact k H locs ls1 (hL ▸ lvh_set2 ho a1) b c)
theorem g_lstore (X : gC E w cc nL own h) {z : Nat} {x : Int64} (L' : List (Option Value)) (hd : decode cc pc = .ok (.lstore z, 2)) (hn : z + 1 < nL) (ho : lo L z = true) (hL : lset (lset L z (some (.long x))) (z + 1) none = L') (hp : pc + 2 = n) (k : gW E w nL σ n L' st) : gW E w nL σ pc L (.long x :: st) := fun H locs ls a b c => lv_lstore X.1 X.2.1 hd  a hn rfl (fun ls1 a1 => by rw [hp]; exact k H locs ls1 (hL ▸ lvh_set2 ho a1) b c)
theorem g_astore_n (X : gC E w cc nL own h) {z : Fin 4} {x : Nat} (L' : List (Option Value)) (hd : decode cc pc = .ok (.astore_n z, 1)) (hn : (z : Nat) < nL) (ho : lo L (z : Nat) = true) (hL : lset L (z : Nat) (some (.ref x)) = L') (hp : pc + 1 = n) (k : gW E w nL σ n L' st) : gW E w nL σ pc L (.ref x :: st) := fun H locs ls a b c => lv_astore_n X.1 X.2.1 hd rfl a hn rfl (fun ls1 a1 => by rw [hp]; exact k H locs ls1 (hL ▸ lvh_set1 ho a1) b c)
theorem g_astore (X : gC E w cc nL own h) {z : Nat} {x : Nat} (L' : List (Option Value)) (hd : decode cc pc = .ok (.astore z, 2)) (hn : z < nL) (ho : lo L z = true) (hL : lset L z (some (.ref x)) = L') (hp : pc + 2 = n) (k : gW E w nL σ n L' st) : gW E w nL σ pc L (.ref x :: st) := fun H locs ls a b c => lv_astore X.1 X.2.1 hd  a hn rfl (fun ls1 a1 => by rw [hp]; exact k H locs ls1 (hL ▸ lvh_set1 ho a1) b c)
theorem g_iinc (X : gC E w cc nL own h) {z : Nat} {d : Int} {x v : Int32} (L' : List (Option Value)) (hd : decode cc pc = .ok (.iinc z d, 3)) (hi : la L z = some (.int x)) (hv : x + Int32.ofInt d = v) (hn : z < nL) (ho : lo L z = true) (hL : lset L z (some (.int v)) = L') (hp : pc + 3 = n) (k : gW E w nL σ n L' st) : gW E w nL σ pc L st := by
  intro H locs ls a b c
  obtain ⟨j, hj⟩ := List.getElem?_of_mem (lz_mem (q := (z, .int x)).mpr hi)
  exact lv_iinc X.1 X.2.1 hd a hj hv hn rfl (fun ls1 a1 => by rw [hp]; exact k H locs ls1 (hL ▸ lvh_set1 ho a1) b c)
theorem g_dup (X : gC E w cc nL own h) {v : Value} (hd : decode cc pc = .ok (.dup, 1)) (hc : v.category = 1) (hp : pc + 1 = n) (k : gW E w nL σ n L (v :: v :: st)) : gW E w nL σ pc L (v :: st) := fun H locs ls a b c => lv_dup X.1 X.2.1 hd hc (by rw [hp]; exact k H locs ls a b c)
theorem g_pop (X : gC E w cc nL own h) {v : Value} (hd : decode cc pc = .ok (.pop, 1)) (hc : v.category = 1) (hp : pc + 1 = n) (k : gW E w nL σ n L st) : gW E w nL σ pc L (v :: st) := fun H locs ls a b c => lv_pop X.1 X.2.1 hd hc (by rw [hp]; exact k H locs ls a b c)
theorem g_pop2 (X : gC E w cc nL own h) {v : Value} (hd : decode cc pc = .ok (.pop2, 1)) (hc : v.category = 2) (hp : pc + 1 = n) (k : gW E w nL σ n L st) : gW E w nL σ pc L (v :: st) := fun H locs ls a b c => lv_pop2_2 X.1 X.2.1 hd hc (by rw [hp]; exact k H locs ls a b c)
theorem g_dup2 (X : gC E w cc nL own h) {u v : Value} (hd : decode cc pc = .ok (.dup2, 1)) (hu : u.category = 1) (hv : v.category = 1) (hp : pc + 1 = n) (k : gW E w nL σ n L (u :: v :: u :: v :: st)) : gW E w nL σ pc L (u :: v :: st) := fun H locs ls a b c => lv_dup2_11 X.1 X.2.1 hd hu hv (by rw [hp]; exact k H locs ls a b c)
theorem g_if_eq (X : gC E w cc nL own h) {x : Int32} {off : Int} {tgt : Nat} (hd : decode cc pc = .ok (.ifCond .eq off, 3)) (ht : (pc : Int) + off = (tgt : Int)) (hp : pc + 3 = n) (kt : x = 0 → gW E w nL σ tgt L st) (kf : ¬ x = 0 → gW E w nL σ n L st) : gW E w nL σ pc L (.int x :: st) := fun H locs ls a b c => lv_if_eq X.1 X.2.1 hd ht (fun q => kt q H locs ls a b c) (fun q => by rw [hp]; exact kf q H locs ls a b c)
theorem g_if_ne (X : gC E w cc nL own h) {x : Int32} {off : Int} {tgt : Nat} (hd : decode cc pc = .ok (.ifCond .ne off, 3)) (ht : (pc : Int) + off = (tgt : Int)) (hp : pc + 3 = n) (kt : ¬ x = 0 → gW E w nL σ tgt L st) (kf : x = 0 → gW E w nL σ n L st) : gW E w nL σ pc L (.int x :: st) := fun H locs ls a b c => lv_if_ne X.1 X.2.1 hd ht (fun q => kt q H locs ls a b c) (fun q => by rw [hp]; exact kf q H locs ls a b c)
theorem g_if_lt (X : gC E w cc nL own h) {x : Int32} {off : Int} {tgt : Nat} (hd : decode cc pc = .ok (.ifCond .lt off, 3)) (ht : (pc : Int) + off = (tgt : Int)) (hp : pc + 3 = n) (kt : x < 0 → gW E w nL σ tgt L st) (kf : ¬ x < 0 → gW E w nL σ n L st) : gW E w nL σ pc L (.int x :: st) := fun H locs ls a b c => lv_if_lt X.1 X.2.1 hd ht (fun q => kt q H locs ls a b c) (fun q => by rw [hp]; exact kf q H locs ls a b c)
theorem g_if_ge (X : gC E w cc nL own h) {x : Int32} {off : Int} {tgt : Nat} (hd : decode cc pc = .ok (.ifCond .ge off, 3)) (ht : (pc : Int) + off = (tgt : Int)) (hp : pc + 3 = n) (kt : 0 ≤ x → gW E w nL σ tgt L st) (kf : ¬ 0 ≤ x → gW E w nL σ n L st) : gW E w nL σ pc L (.int x :: st) := fun H locs ls a b c => lv_if_ge X.1 X.2.1 hd ht (fun q => kt q H locs ls a b c) (fun q => by rw [hp]; exact kf q H locs ls a b c)
theorem g_if_gt (X : gC E w cc nL own h) {x : Int32} {off : Int} {tgt : Nat} (hd : decode cc pc = .ok (.ifCond .gt off, 3)) (ht : (pc : Int) + off = (tgt : Int)) (hp : pc + 3 = n) (kt : 0 < x → gW E w nL σ tgt L st) (kf : ¬ 0 < x → gW E w nL σ n L st) : gW E w nL σ pc L (.int x :: st) := fun H locs ls a b c => lv_if_gt X.1 X.2.1 hd ht (fun q => kt q H locs ls a b c) (fun q => by rw [hp]; exact kf q H locs ls a b c)
theorem g_if_le (X : gC E w cc nL own h) {x : Int32} {off : Int} {tgt : Nat} (hd : decode cc pc = .ok (.ifCond .le off, 3)) (ht : (pc : Int) + off = (tgt : Int)) (hp : pc + 3 = n) (kt : x ≤ 0 → gW E w nL σ tgt L st) (kf : ¬ x ≤ 0 → gW E w nL σ n L st) : gW E w nL σ pc L (.int x :: st) := fun H locs ls a b c => lv_if_le X.1 X.2.1 hd ht (fun q => kt q H locs ls a b c) (fun q => by rw [hp]; exact kf q H locs ls a b c)
theorem g_icmp_eq (X : gC E w cc nL own h) {x y : Int32} {off : Int} {tgt : Nat} (hd : decode cc pc = .ok (.if_icmp .eq off, 3)) (ht : (pc : Int) + off = (tgt : Int)) (hp : pc + 3 = n) (kt : x = y → gW E w nL σ tgt L st) (kf : ¬ x = y → gW E w nL σ n L st) : gW E w nL σ pc L (.int y :: .int x :: st) := fun H locs ls a b c => lv_icmp_eq X.1 X.2.1 hd ht (fun q => kt q H locs ls a b c) (fun q => by rw [hp]; exact kf q H locs ls a b c)
theorem g_icmp_ne (X : gC E w cc nL own h) {x y : Int32} {off : Int} {tgt : Nat} (hd : decode cc pc = .ok (.if_icmp .ne off, 3)) (ht : (pc : Int) + off = (tgt : Int)) (hp : pc + 3 = n) (kt : ¬ x = y → gW E w nL σ tgt L st) (kf : x = y → gW E w nL σ n L st) : gW E w nL σ pc L (.int y :: .int x :: st) := fun H locs ls a b c => lv_icmp_ne X.1 X.2.1 hd ht (fun q => kt q H locs ls a b c) (fun q => by rw [hp]; exact kf q H locs ls a b c)
theorem g_icmp_lt (X : gC E w cc nL own h) {x y : Int32} {off : Int} {tgt : Nat} (hd : decode cc pc = .ok (.if_icmp .lt off, 3)) (ht : (pc : Int) + off = (tgt : Int)) (hp : pc + 3 = n) (kt : x < y → gW E w nL σ tgt L st) (kf : ¬ x < y → gW E w nL σ n L st) : gW E w nL σ pc L (.int y :: .int x :: st) := fun H locs ls a b c => lv_icmp_lt X.1 X.2.1 hd ht (fun q => kt q H locs ls a b c) (fun q => by rw [hp]; exact kf q H locs ls a b c)
theorem g_icmp_ge (X : gC E w cc nL own h) {x y : Int32} {off : Int} {tgt : Nat} (hd : decode cc pc = .ok (.if_icmp .ge off, 3)) (ht : (pc : Int) + off = (tgt : Int)) (hp : pc + 3 = n) (kt : y ≤ x → gW E w nL σ tgt L st) (kf : ¬ y ≤ x → gW E w nL σ n L st) : gW E w nL σ pc L (.int y :: .int x :: st) := fun H locs ls a b c => lv_icmp_ge X.1 X.2.1 hd ht (fun q => kt q H locs ls a b c) (fun q => by rw [hp]; exact kf q H locs ls a b c)
theorem g_icmp_gt (X : gC E w cc nL own h) {x y : Int32} {off : Int} {tgt : Nat} (hd : decode cc pc = .ok (.if_icmp .gt off, 3)) (ht : (pc : Int) + off = (tgt : Int)) (hp : pc + 3 = n) (kt : y < x → gW E w nL σ tgt L st) (kf : ¬ y < x → gW E w nL σ n L st) : gW E w nL σ pc L (.int y :: .int x :: st) := fun H locs ls a b c => lv_icmp_gt X.1 X.2.1 hd ht (fun q => kt q H locs ls a b c) (fun q => by rw [hp]; exact kf q H locs ls a b c)
theorem g_icmp_le (X : gC E w cc nL own h) {x y : Int32} {off : Int} {tgt : Nat} (hd : decode cc pc = .ok (.if_icmp .le off, 3)) (ht : (pc : Int) + off = (tgt : Int)) (hp : pc + 3 = n) (kt : x ≤ y → gW E w nL σ tgt L st) (kf : ¬ x ≤ y → gW E w nL σ n L st) : gW E w nL σ pc L (.int y :: .int x :: st) := fun H locs ls a b c => lv_icmp_le X.1 X.2.1 hd ht (fun q => kt q H locs ls a b c) (fun q => by rw [hp]; exact kf q H locs ls a b c)
theorem g_lcmp_eq (X : gC E w cc nL own h) {x y : Int64} {off : Int} {tgt pc1 : Nat} (hd : decode cc pc = .ok (.lcmp, 1)) (h1 : pc + 1 = pc1) (hd1 : decode cc pc1 = .ok (.ifCond .eq off, 3)) (ht : (pc1 : Int) + off = (tgt : Int)) (hp : pc1 + 3 = n) (kt : x = y → gW E w nL σ tgt L st) (kf : ¬ x = y → gW E w nL σ n L st) : gW E w nL σ pc L (.long y :: .long x :: st) := fun H locs ls a b c => W.lcmp X.1 X.2.1 hd (by rw [h1]; exact lv_if_eq X.1 X.2.1 hd1 ht (fun q => kt ((lg_cmp_eq x y).mp q) H locs ls a b c) (fun q => by rw [hp]; exact kf (fun z => q ((lg_cmp_eq x y).mpr z)) H locs ls a b c))
theorem g_lcmp_ne (X : gC E w cc nL own h) {x y : Int64} {off : Int} {tgt pc1 : Nat} (hd : decode cc pc = .ok (.lcmp, 1)) (h1 : pc + 1 = pc1) (hd1 : decode cc pc1 = .ok (.ifCond .ne off, 3)) (ht : (pc1 : Int) + off = (tgt : Int)) (hp : pc1 + 3 = n) (kt : ¬ x = y → gW E w nL σ tgt L st) (kf : x = y → gW E w nL σ n L st) : gW E w nL σ pc L (.long y :: .long x :: st) := fun H locs ls a b c => W.lcmp X.1 X.2.1 hd (by rw [h1]; exact lv_if_ne X.1 X.2.1 hd1 ht (fun q => kt (fun z => q ((lg_cmp_eq x y).mpr z)) H locs ls a b c) (fun q => by rw [hp]; exact kf ((lg_cmp_eq x y).mp q) H locs ls a b c))
theorem g_lcmp_lt (X : gC E w cc nL own h) {x y : Int64} {off : Int} {tgt pc1 : Nat} (hd : decode cc pc = .ok (.lcmp, 1)) (h1 : pc + 1 = pc1) (hd1 : decode cc pc1 = .ok (.ifCond .lt off, 3)) (ht : (pc1 : Int) + off = (tgt : Int)) (hp : pc1 + 3 = n) (kt : x < y → gW E w nL σ tgt L st) (kf : ¬ x < y → gW E w nL σ n L st) : gW E w nL σ pc L (.long y :: .long x :: st) := fun H locs ls a b c => W.lcmp X.1 X.2.1 hd (by rw [h1]; exact lv_if_lt X.1 X.2.1 hd1 ht (fun q => kt ((lg_cmp_lt x y).mp q) H locs ls a b c) (fun q => by rw [hp]; exact kf (fun z => q ((lg_cmp_lt x y).mpr z)) H locs ls a b c))
theorem g_lcmp_ge (X : gC E w cc nL own h) {x y : Int64} {off : Int} {tgt pc1 : Nat} (hd : decode cc pc = .ok (.lcmp, 1)) (h1 : pc + 1 = pc1) (hd1 : decode cc pc1 = .ok (.ifCond .ge off, 3)) (ht : (pc1 : Int) + off = (tgt : Int)) (hp : pc1 + 3 = n) (kt : y ≤ x → gW E w nL σ tgt L st) (kf : ¬ y ≤ x → gW E w nL σ n L st) : gW E w nL σ pc L (.long y :: .long x :: st) := fun H locs ls a b c => W.lcmp X.1 X.2.1 hd (by rw [h1]; exact lv_if_ge X.1 X.2.1 hd1 ht (fun q => kt ((lg_cmp_ge x y).mp q) H locs ls a b c) (fun q => by rw [hp]; exact kf (fun z => q ((lg_cmp_ge x y).mpr z)) H locs ls a b c))
theorem g_lcmp_gt (X : gC E w cc nL own h) {x y : Int64} {off : Int} {tgt pc1 : Nat} (hd : decode cc pc = .ok (.lcmp, 1)) (h1 : pc + 1 = pc1) (hd1 : decode cc pc1 = .ok (.ifCond .gt off, 3)) (ht : (pc1 : Int) + off = (tgt : Int)) (hp : pc1 + 3 = n) (kt : y < x → gW E w nL σ tgt L st) (kf : ¬ y < x → gW E w nL σ n L st) : gW E w nL σ pc L (.long y :: .long x :: st) := fun H locs ls a b c => W.lcmp X.1 X.2.1 hd (by rw [h1]; exact lv_if_gt X.1 X.2.1 hd1 ht (fun q => kt ((lg_cmp_gt x y).mp q) H locs ls a b c) (fun q => by rw [hp]; exact kf (fun z => q ((lg_cmp_gt x y).mpr z)) H locs ls a b c))
theorem g_lcmp_le (X : gC E w cc nL own h) {x y : Int64} {off : Int} {tgt pc1 : Nat} (hd : decode cc pc = .ok (.lcmp, 1)) (h1 : pc + 1 = pc1) (hd1 : decode cc pc1 = .ok (.ifCond .le off, 3)) (ht : (pc1 : Int) + off = (tgt : Int)) (hp : pc1 + 3 = n) (kt : x ≤ y → gW E w nL σ tgt L st) (kf : ¬ x ≤ y → gW E w nL σ n L st) : gW E w nL σ pc L (.long y :: .long x :: st) := fun H locs ls a b c => W.lcmp X.1 X.2.1 hd (by rw [h1]; exact lv_if_le X.1 X.2.1 hd1 ht (fun q => kt ((lg_cmp_le x y).mp q) H locs ls a b c) (fun q => by rw [hp]; exact kf (fun z => q ((lg_cmp_le x y).mpr z)) H locs ls a b c))
theorem g_goto (X : gC E w cc nL own h) {off : Int} {tgt : Nat} (hd : decode cc pc = .ok (.goto off, 3)) (ht : (pc : Int) + off = (tgt : Int)) (k : gW E w nL σ tgt L st) : gW E w nL σ pc L st := fun H locs ls a b c => lv_goto X.1 X.2.1 hd ht (k H locs ls a b c)
theorem g_ldc (X : gC E w cc nL own h) {z : Nat} {v : Int32} (hd : decode cc pc = .ok (.ldc z, 2)) (hw : Cond.constant own z v ∈ lw_tbl) (hp : pc + 2 = n) (k : gW E w nL σ n L (.int v :: st)) : gW E w nL σ pc L st := fun H locs ls a b c => lv_ldc X.1 X.2.1 X.2.2.2.1 (X.word hw rfl) hd (by rw [hp]; exact k H locs ls a b c)
theorem g_ldc2 (X : gC E w cc nL own h) {z : Nat} {v : Int64} (hd : decode cc pc = .ok (.ldc2_w z, 3)) (hw : Cond.constantLong own z v ∈ lw_tbl) (hp : pc + 3 = n) (k : gW E w nL σ n L (.long v :: st)) : gW E w nL σ pc L st := fun H locs ls a b c => lv_ldc2 X.1 X.2.1 X.2.2.2.1 (X.word hw rfl) hd (by rw [hp]; exact k H locs ls a b c)
theorem g_tout (X : gC E w cc nL own h) {dflt lo hi : Int} {offs : Array Int} {len : Nat} {x : Int32} {tgt : Nat} (hd : decode cc pc = .ok (.tableswitch dflt lo hi offs, len)) (hx : x.toInt < lo ∨ hi < x.toInt) (ht : (pc : Int) + dflt = (tgt : Int)) (k : gW E w nL σ tgt L st) : gW E w nL σ pc L (.int x :: st) := fun H locs ls a b c => lv_tableOut X.1 X.2.1 hd hx ht (k H locs ls a b c)
theorem g_tin (X : gC E w cc nL own h) {dflt lo hi : Int} {offs : Array Int} {len : Nat} {x : Int32} {off : Int} {tgt : Nat} (hd : decode cc pc = .ok (.tableswitch dflt lo hi offs, len)) (h1 : ¬ x.toInt < lo) (h2 : ¬ hi < x.toInt) (ho : offs[(x.toInt - lo).toNat]? = some off) (ht : (pc : Int) + off = (tgt : Int)) (k : gW E w nL σ tgt L st) : gW E w nL σ pc L (.int x :: st) := fun H locs ls a b c => lv_tableIn X.1 X.2.1 hd h1 h2 ho ht (k H locs ls a b c)
theorem g_get (X : gC E w cc nL own h) {k j idx N : Nat} {C ref : String} {U : u_T} {q : Nat × Nat} (hk : k < NC) (h0 : kd k = 0) (hc : gcl[oc k]? = some (C, U, N)) (hj : j < N) (hq : (obS k)[j]? = some q) (hin : ∀ t ∈ u_ws C U N, t ∈ gT) (hl : Cond.fieldLink own idx ref (U j).2.1 (U j).2.2.1 ∈ lw_tbl) (hr : (U j).1 = ref) (hd : decode cc pc = .ok (.getfield idx, 3)) (hp : pc + 3 = n) (kk : gW E w nL σ n L (fv w σ.2.2 q :: st)) : gW E w nL σ pc L (.ref (w.1 k) :: st) := fun H locs ls a b c =>
  va_get (D := w.2.1) (ws := cw w σ) X.1 X.2.1 X.2.2.2.2.1 hin X.2.2.2.1 X.2.2.2.2.2.1 b k (by rw [cw_at hk, ce_0 h0]) hc j hj (X.word hl rfl) (by rw [hr]; exact fun _ z => z) (by rw [List.getElem?_map, hq]; rfl) hd (by rw [hp]; exact kk H locs ls a b c)
theorem g_putI (X : gC E w cc nL own h) {k j idx N f : Nat} {C ref : String} {U : u_T} {x : Int32} (ty0 : Nat → FieldType) (hty : ∀ k, k < N → parseFieldDescriptor (U k).2.2.1 = some (ty0 k)) (hnm : ∀ a, a < N → ∀ b, b < N → a ≠ b → (U a).2.1 ≠ (U b).2.1) (hk : k < NC) (h0 : kd k = 0) (hc : gcl[oc k]? = some (C, U, N)) (hj : j < N) (hq : (obS k)[j]? = some (1, f)) (ho : once (1, f) k j = true) (hin : ∀ t ∈ u_ws C U N, t ∈ gT) (hl : Cond.fieldLink own idx ref (U j).2.1 (U j).2.2.1 ∈ lw_tbl) (hr : (U j).1 = ref) (hfin : (U j).2.2.2 = false) (hI : (U j).2.2.1 = "I") (hd : decode cc pc = .ok (.putfield idx, 3)) (hp : pc + 3 = n) (kk : ∀ σ1 : St, σ1 = stF σ f x → gW E w nL σ1 n L st) : gW E w nL σ pc L (.int x :: .ref (w.1 k) :: st) := fun H locs ls a b c =>
  va_put (D := w.2.1) (ws := cw w σ) (A := inA w) (H0 := (eS E).heap) (fs := (obS k).map (fv w σ.2.2)) (v := .int x) (ty := .int) X.1 X.2.1 X.2.2.2.2.1 hin ty0 hty hnm X.2.2.2.1 X.2.2.2.2.2.1 b (cw_D X.2.2.2.2.2.2.1) c k (by rw [cw_at hk, ce_0 h0]) hc j hj (X.word hl rfl) (by rw [hr]; exact fun _ z => z) hfin (by rw [hI]; decide) rfl rfl (by rw [List.length_map]; exact (List.getElem?_eq_some_iff.mp hq).1) hd (fun H1 l1 hP _ hS => by rw [cw_F hk h0 hq ho] at hP; rw [hp]; exact kk _ rfl H1 l1 ls a hP hS)
theorem g_putR (X : gC E w cc nL own h) {k j idx N f q : Nat} {C ref D0 : String} {U : u_T} (ty0 : Nat → FieldType) (hty : ∀ k, k < N → parseFieldDescriptor (U k).2.2.1 = some (ty0 k)) (hnm : ∀ a, a < N → ∀ b, b < N → a ≠ b → (U a).2.1 ≠ (U b).2.1) (hk : k < NC) (h0 : kd k = 0) (hc : gcl[oc k]? = some (C, U, N)) (hj : j < N) (hq : (obS k)[j]? = some (2, f)) (ho : onceR f k j = true) (hin : ∀ t ∈ u_ws C U N, t ∈ gT) (hl : Cond.fieldLink own idx ref (U j).2.1 (U j).2.2.1 ∈ lw_tbl) (hr : (U j).1 = ref) (hfin : (U j).2.2.2 = false) (hI : parseFieldDescriptor (U j).2.2.1 = some (.object D0)) (hd : decode cc pc = .ok (.putfield idx, 3)) (hp : pc + 3 = n) (kk : ∀ σ1 : St, σ1 = stR σ f q → gW E w nL σ1 n L st) : gW E w nL σ pc L (.ref (w.1 q) :: .ref (w.1 k) :: st) := fun H locs ls a b c =>
  va_put (D := w.2.1) (ws := cw w σ) (A := inA w) (H0 := (eS E).heap) (fs := (obS k).map (fv w σ.2.2)) (v := .ref (w.1 q)) (ty := .object D0) X.1 X.2.1 X.2.2.2.2.1 hin ty0 hty hnm X.2.2.2.1 X.2.2.2.2.2.1 b (cw_D X.2.2.2.2.2.2.1) c k (by rw [cw_at hk, ce_0 h0]) hc j hj (X.word hl rfl) (by rw [hr]; exact fun _ z => z) hfin hI rfl rfl (by rw [List.length_map]; exact (List.getElem?_eq_some_iff.mp hq).1) hd (fun H1 l1 hP _ hS => by rw [cw_R hk h0 hq ho] at hP; rw [hp]; exact kk _ rfl H1 l1 ls a hP hS)
theorem g_iald (X : gC E w cc nL own h) {k N : Nat} {i : Int32} (hk : k < NC) (h0 : kd k = 1) (hN : ln k = N) (hin : vp_in i N) (hd : decode cc pc = .ok (.iaload, 1)) (hp : pc + 1 = n) (kk : gW E w nL σ n L (.int (rI σ k i) :: st)) : gW E w nL σ pc L (.int i :: .ref (w.1 k) :: st) := fun H locs ls a b c => va_iald X.1 X.2.1 X.2.2.2.2.2.1 b k 0 (by rw [cw_at hk, ce_1 h0]) rfl (by rw [hN]; exact hin) hd (by rw [hp]; exact kk H locs ls a b c)
theorem g_bald (X : gC E w cc nL own h) {k N : Nat} {i : Int32} (hk : k < NC) (h0 : kd k = 2) (hN : ln k = N) (hin : vp_in i N) (hd : decode cc pc = .ok (.baload, 1)) (hp : pc + 1 = n) (kk : gW E w nL σ n L (.int (rI σ k i) :: st)) : gW E w nL σ pc L (.int i :: .ref (w.1 k) :: st) := fun H locs ls a b c => va_bald X.1 X.2.1 X.2.2.2.2.2.1 b k 1 (by rw [cw_at hk, ce_2 h0]) rfl (by rw [hN]; exact hin) hd (by rw [hp]; exact kk H locs ls a b c)
theorem g_zald (X : gC E w cc nL own h) {k N : Nat} {i : Int32} (hk : k < NC) (h0 : kd k = 3) (hN : ln k = N) (hin : vp_in i N) (hd : decode cc pc = .ok (.baload, 1)) (hp : pc + 1 = n) (kk : gW E w nL σ n L (.int (rI σ k i) :: st)) : gW E w nL σ pc L (.int i :: .ref (w.1 k) :: st) := fun H locs ls a b c => va_zald X.1 X.2.1 X.2.2.2.2.2.1 b k 2 (by rw [cw_at hk, ce_3 h0]) rfl (by rw [hN]; exact hin) hd (by rw [hp]; exact kk H locs ls a b c)
theorem g_lald (X : gC E w cc nL own h) {k N : Nat} {i : Int32} (hk : k < NC) (h0 : kd k = 4) (hN : ln k = N) (hin : vp_in i N) (hd : decode cc pc = .ok (.laload, 1)) (hp : pc + 1 = n) (kk : gW E w nL σ n L (.long (rL σ k i) :: st)) : gW E w nL σ pc L (.int i :: .ref (w.1 k) :: st) := fun H locs ls a b c => va_lald X.1 X.2.1 X.2.2.2.2.2.1 b k 3 (by rw [cw_at hk, ce_4 h0]) rfl (by rw [hN]; exact hin) hd (by rw [hp]; exact kk H locs ls a b c)
theorem cw_iast {w : wT} {σ : St} {k i : Nat} {x : Int32} (hk : k < NC) (h0 : kd k = 1) : (cw w σ).set k (w.1 k, .inl (w.2.2.1 1, ln k, .inl (upd (σ.1 k) i x))) = cw w (stA σ k i x) := cw_set hk (by rw [ce_1 h0]; simp [stA]) (fun j _ hj => ce_A hj)
theorem g_iast (X : gC E w cc nL own h) {k N : Nat} {i x : Int32} (hk : k < NC) (h0 : kd k = 1) (hN : ln k = N) (hin : vp_in i N) (hd : decode cc pc = .ok (.iastore, 1)) (hp : pc + 1 = n) (kk : ∀ σ1 : St, σ1 = stA σ k i.toNatClampNeg x → gW E w nL σ1 n L st) : gW E w nL σ pc L (.int x :: .int i :: .ref (w.1 k) :: st) := fun H locs ls a b c => va_iast (ws := cw w σ) (A := inA w) (H0 := (eS E).heap) X.1 X.2.1 X.2.2.2.2.2.1 b (cw_D X.2.2.2.2.2.2.1) c k 0 (by rw [cw_at hk, ce_1 h0]) rfl (by rw [hN]; exact hin) hd (fun H1 l1 hP _ hS => by rw [cw_iast hk h0] at hP; rw [hp]; exact kk _ rfl H1 l1 ls a hP hS)
theorem cw_bast {w : wT} {σ : St} {k i : Nat} {x : Int32} (hk : k < NC) (h0 : kd k = 2) : (cw w σ).set k (w.1 k, .inl (w.2.2.1 2, ln k, .inl (upd (σ.1 k) i x))) = cw w (stA σ k i x) := cw_set hk (by rw [ce_2 h0]; simp [stA]) (fun j _ hj => ce_A hj)
theorem g_bast (X : gC E w cc nL own h) {k N : Nat} {i x : Int32} (hk : k < NC) (h0 : kd k = 2) (hN : ln k = N) (hin : vp_in i N) (hd : decode cc pc = .ok (.bastore, 1)) (hp : pc + 1 = n) (kk : ∀ σ1 : St, σ1 = stA σ k i.toNatClampNeg (vp_nar .byte x) → gW E w nL σ1 n L st) : gW E w nL σ pc L (.int x :: .int i :: .ref (w.1 k) :: st) := fun H locs ls a b c => va_bast (ws := cw w σ) (A := inA w) (H0 := (eS E).heap) X.1 X.2.1 X.2.2.2.2.2.1 b (cw_D X.2.2.2.2.2.2.1) c k 1 (by rw [cw_at hk, ce_2 h0]) rfl (by rw [hN]; exact hin) hd (fun H1 l1 hP _ hS => by rw [cw_bast hk h0] at hP; rw [hp]; exact kk _ rfl H1 l1 ls a hP hS)
theorem cw_zast {w : wT} {σ : St} {k i : Nat} {x : Int32} (hk : k < NC) (h0 : kd k = 3) : (cw w σ).set k (w.1 k, .inl (w.2.2.1 3, ln k, .inl (upd (σ.1 k) i x))) = cw w (stA σ k i x) := cw_set hk (by rw [ce_3 h0]; simp [stA]) (fun j _ hj => ce_A hj)
theorem g_zast (X : gC E w cc nL own h) {k N : Nat} {i x : Int32} (hk : k < NC) (h0 : kd k = 3) (hN : ln k = N) (hin : vp_in i N) (hd : decode cc pc = .ok (.bastore, 1)) (hp : pc + 1 = n) (kk : ∀ σ1 : St, σ1 = stA σ k i.toNatClampNeg (vp_nar .boolean x) → gW E w nL σ1 n L st) : gW E w nL σ pc L (.int x :: .int i :: .ref (w.1 k) :: st) := fun H locs ls a b c => va_zast (ws := cw w σ) (A := inA w) (H0 := (eS E).heap) X.1 X.2.1 X.2.2.2.2.2.1 b (cw_D X.2.2.2.2.2.2.1) c k 2 (by rw [cw_at hk, ce_3 h0]) rfl (by rw [hN]; exact hin) hd (fun H1 l1 hP _ hS => by rw [cw_zast hk h0] at hP; rw [hp]; exact kk _ rfl H1 l1 ls a hP hS)
theorem cw_last {w : wT} {σ : St} {k i : Nat} {x : Int64} (hk : k < NC) (h0 : kd k = 4) : (cw w σ).set k (w.1 k, .inl (w.2.2.1 4, ln k, .inr (.inl (vp_updL (σ.2.1 k) i x)))) = cw w (stL σ k i x) := cw_set hk (by rw [ce_4 h0]; simp [stL]) (fun j _ hj => ce_L hj)
theorem g_last (X : gC E w cc nL own h) {k N : Nat} {i : Int32} {x : Int64} (hk : k < NC) (h0 : kd k = 4) (hN : ln k = N) (hin : vp_in i N) (hd : decode cc pc = .ok (.lastore, 1)) (hp : pc + 1 = n) (kk : ∀ σ1 : St, σ1 = stL σ k i.toNatClampNeg x → gW E w nL σ1 n L st) : gW E w nL σ pc L (.long x :: .int i :: .ref (w.1 k) :: st) := fun H locs ls a b c => va_last (ws := cw w σ) (A := inA w) (H0 := (eS E).heap) X.1 X.2.1 X.2.2.2.2.2.1 b (cw_D X.2.2.2.2.2.2.1) c k 3 (by rw [cw_at hk, ce_4 h0]) rfl (by rw [hN]; exact hin) hd (fun H1 l1 hP _ hS => by rw [cw_last hk h0] at hP; rw [hp]; exact kk _ rfl H1 l1 ls a hP hS)
theorem g_alenI (X : gC E w cc nL own h) {k : Nat} {v : Int32} (hk : k < NC) (h0 : kd k = 1) (hv : Int32.ofNat (ln k) = v) (hd : decode cc pc = .ok (.arraylength, 1)) (hp : pc + 1 = n) (kk : gW E w nL σ n L (.int v :: st)) : gW E w nL σ pc L (.ref (w.1 k) :: st) := fun H locs ls a b c => va_alen (ws := cw w σ) X.1 X.2.1 X.2.2.2.2.2.1 b k 0 (by rw [cw_at hk, ce_1 h0]) rfl hv hd (by rw [hp]; exact kk H locs ls a b c)
theorem g_alenL (X : gC E w cc nL own h) {k : Nat} {v : Int32} (hk : k < NC) (h0 : kd k = 4) (hv : Int32.ofNat (ln k) = v) (hd : decode cc pc = .ok (.arraylength, 1)) (hp : pc + 1 = n) (kk : gW E w nL σ n L (.int v :: st)) : gW E w nL σ pc L (.ref (w.1 k) :: st) := fun H locs ls a b c => va_alen (ws := cw w σ) X.1 X.2.1 X.2.2.2.2.2.1 b k 3 (by rw [cw_at hk, ce_4 h0]) rfl hv hd (by rw [hp]; exact kk H locs ls a b c)
theorem g_lret (X : gC E w cc nL own h) {v : Int64} (Y : gQ E w (some .long) (some (.long v)) σ) (hd : decode cc pc = .ok (.lreturn, 1)) : gW E w nL σ pc L [.long v] := fun H locs ls a b c => by
  rw [Y.1]
  exact W.lret X.1 X.2.1 Y.2.1 (fun t ht hW => ⟨rfl, by rw [ht]; exact b, c.F ht⟩) c.2.2 hd Y.2.2
theorem g_iret (X : gC E w cc nL own h) {v : Int32} (Y : gQ E w (some .int) (some (.int v)) σ) (hd : decode cc pc = .ok (.ireturn, 1)) : gW E w nL σ pc L [.int v] := fun H locs ls a b c => by
  rw [Y.1]
  exact W.iret X.1 X.2.1 Y.2.1 (fun t ht hW => ⟨rfl, by rw [ht]; exact b, c.F ht⟩) c.2.2 hd Y.2.2
theorem g_zret (X : gC E w cc nL own h) {v : Int32} {ty : FieldType} (Y : gQ E w (some ty) (some (.int v)) σ) (hn : narrow ty (.int v) = .int v) (hd : decode cc pc = .ok (.ireturn, 1)) : gW E w nL σ pc L [.int v] := fun H locs ls a b c => by
  rw [Y.1]
  exact W.zret X.1 X.2.1 Y.2.1 hn (fun t ht hW => ⟨rfl, by rw [ht]; exact b, c.F ht⟩) c.2.2 hd Y.2.2
theorem g_vret (X : gC E w cc nL own h) (Y : gQ E w none none σ) (hd : decode cc pc = .ok (.return_, 1)) : gW E w nL σ pc L [] := fun H locs ls a b c => by
  rw [Y.1]
  exact W.vret X.1 X.2.1 Y.2.1 (fun t ht hW => ⟨rfl, by rw [ht]; exact b, c.F ht⟩) c.2.2 hd Y.2.2
theorem g_aret (X : gC E w cc nL own h) {z : Nat} {ty : FieldType} (Y : gQ E w (some (.array ty)) (some (.ref z)) σ) (hd : decode cc pc = .ok (.areturn, 1)) : gW E w nL σ pc L [.ref z] := fun H locs ls a b c => by
  rw [Y.1]
  exact W.aret X.1 X.2.1 Y.2.1 (Or.inr ⟨_, rfl⟩) (Or.inr ⟨_, rfl⟩) (fun t ht hW => ⟨rfl, by rw [ht]; exact b, c.F ht⟩) c.2.2 hd Y.2.2
theorem g_back {H : Heap} {locs : List Loc} {ls : Array Slot} {st0 rest : List Value} {a : Array Value} {r : Option Value} {σ' : St} (hr : va_Run (eP E) (eL E) (eE E) (eR E) (eS E) (eM E) (eA E) (eB E) (eMe E) (eC E) H locs (eCe E) (eSl E) 0 0 (F0 (eM E) pc ls st0) rest (Qw w r σ' a) (inA w)) (hl : lvh ls nL L) (hS : va_S (inA w) (eS E).heap H locs) (hp : pc + 3 = n)
    (kk : gW E w nL σ' n L (r.toList ++ rest)) : W (eP E) (eL E) (eE E) (eR E) (eS E) (eM E) (eA E) (eB E) (eMe E) (eC E) H locs (eCe E) (eSl E) (eQ E) (F0 (eM E) pc ls st0) := by
  intro T hT X
  obtain ⟨v, st₀, t, T', L1, h0, X', hL, e1, e2, ⟨hv, hP, hz, hk⟩, go⟩ := hr T hT X
  cases hv
  rw [h0] at hz hk
  obtain ⟨t2, a1, b1⟩ := kk T'.heap (locs ++ L1) ls hl (by rw [e1]; exact hP)
    ⟨Nat.le_trans hS.1 (by rw [e1]; exact hz), fun q h1 h2 => by rw [e1, hk q (Nat.lt_of_lt_of_le h1 hS.1) h2]; exact hS.2.1 q h1 h2, fun q hq => by
      rcases List.mem_append.mp hq with h | h
      · exact hS.2.2 q h
      · exact hL q h⟩ T' rfl X'
  rw [← hp] at a1
  exact ⟨t2, go t2 a1, b1⟩
theorem g_pre (X : gC E w cc nL own h) {H : Heap} {locs : List Loc} {as : List Value} (b : va_P w.2.1 gcl (cw w σ) H) (c : va_S (inA w) (eS E).heap H locs) : ∀ U : State, U.heap = H → (eS E).WarmedH U.vm → va_Pc as (Wd w σ) as.toArray U :=
  fun U hU hW => ⟨rfl, by rw [hU]; exact b, va_K.moved hW.alike X.2.2.2.2.2.1, by rw [hU]; exact (X.2.2.2.2.2.2.2.1.warm hW).kept c.2.1⟩
theorem g_rm (X : gC E w cc nL own h) {h' maxL : Nat} (hh : h' < h) (hm : maxL ≤ 45) : (rmh h').frames + 1 ≤ (eR E).frames ∧ 8 + (maxL + 11) + (rmh h').locals ≤ (eR E).locals := by
  have h1 := X.2.2.2.2.2.2.2.2.1
  show h' + 1 ≤ _ ∧ 8 + (maxL + 11) + 64 * h' ≤ _
  omega
theorem g_callV (X : gC E w cc nL own h) {y : MethodName} {bytes : ByteArray} {maxL na : Nat} {ret : Option FieldType} {h' : Nat} {k idx N : Nat} {U : u_T} (As : List Value) {rest : List Value} {σ' : St} {r : Option Value} (hM : gM w (eL E) y bytes maxL ret h' (.ref (w.1 k) :: As) σ r σ') (hY : gY y bytes maxL ret na) (hi : Cond.instanceMethod y ∈ lw_tbl) (hs : Cond.selects y.cls y y ∈ lw_tbl) (hl : Cond.methodLink own idx y ∈ lw_tbl) (hk : k < NC) (h0 : kd k = 0) (hc : gcl[oc k]? = some (y.cls, U, N)) (hh : h' < h) (hna : As.length = na) (hd : decode cc pc = .ok (.invokevirtual idx, 3)) (hw : (rest.map fun v => v.category).sum ≤ 8) (hst : As.reverse ++ .ref (w.1 k) :: rest = st) (hp : pc + 3 = n)
    (kk : gW E w nL σ' n L (r.toList ++ rest)) : gW E w nL σ pc L st := by
  intro H locs ls a b c
  subst hst
  exact g_back (va_runV (As := As) (rest := rest) (C := y.cls) (Ts := gT) ⟨X.1, X.2.1, X.2.2.1, X.2.2.2.1, X.2.2.2.2.1⟩ hM ⟨callB_of na X.2.2.2.2.1 (gGood _ _ _ _ hY.1) rfl rfl rfl (X.word hY.2.1 rfl) (X.word hl rfl) hY.2.2.1 (g_rm X hh hY.2.2.2), X.word hi rfl, X.word hs rfl⟩ ⟨gM_blind, va_recv X.2.2.2.2.2.1 b hc (by rw [cw_at hk, ce_0 h0]), g_pre X b c⟩ rfl hna a.1 rfl (lv_room hw) hd ⟨by simpa using X.2.2.2.2.2.2.2.2.2.1, by simpa using X.2.2.2.2.2.2.2.2.2.2⟩) a c hp kk
theorem g_callS (X : gC E w cc nL own h) {y : MethodName} {bytes : ByteArray} {maxL na : Nat} {ret : Option FieldType} {h' : Nat} {idx : Nat} (As : List Value) {rest : List Value} {σ' : St} {r : Option Value} (hM : gM w (eL E) y bytes maxL ret h' As σ r σ') (hY : gY y bytes maxL ret na) (hs : Cond.static y ∈ lw_tbl) (hl : Cond.methodLink own idx y ∈ lw_tbl) (hh : h' < h) (hna : As.length = na) (hd : decode cc pc = .ok (.invokestatic idx, 3)) (hw : (rest.map fun v => v.category).sum ≤ 8) (hst : As.reverse ++ rest = st) (hp : pc + 3 = n)
    (kk : gW E w nL σ' n L (r.toList ++ rest)) : gW E w nL σ pc L st := by
  intro H locs ls a b c
  subst hst
  exact g_back (va_runS (As := As) (rest := rest) (Ts := gT) ⟨X.1, X.2.1, X.2.2.1, X.2.2.2.1, X.2.2.2.2.1⟩ hM ⟨callB_of na X.2.2.2.2.1 (gGood _ _ _ _ hY.1) rfl rfl rfl (X.word hY.2.1 rfl) (X.word hl rfl) hY.2.2.1 (g_rm X hh hY.2.2.2), X.word hs rfl⟩ ⟨gM_blind, g_pre X b c⟩ rfl hna a.1 rfl (lv_room hw) hd ⟨by simpa using X.2.2.2.2.2.2.2.2.2.1, by simpa using X.2.2.2.2.2.2.2.2.2.2⟩) a c hp kk
theorem g_callSN (X : gC E w cc nL own h) {y : MethodName} {bytes : ByteArray} {maxL na : Nat} {ret : Option FieldType} {h' : Nat} {idx : Nat} {host : String} (As : List Value) {rest : List Value} {σ' : St} {r : Option Value} (hM : gM w (eL E) y bytes maxL ret h' As σ r σ') (hY : gY y bytes maxL ret na) (hs : Cond.static y ∈ lw_tbl) (hl : va_Nw (.methodLinkNest own idx y host) (eS E)) (hh : h' < h) (hna : As.length = na) (hd : decode cc pc = .ok (.invokestatic idx, 3)) (hw : (rest.map fun v => v.category).sum ≤ 8) (hst : As.reverse ++ rest = st) (hp : pc + 3 = n)
    (kk : gW E w nL σ' n L (r.toList ++ rest)) : gW E w nL σ pc L st := by
  intro H locs ls a b c
  subst hst
  exact g_back (va_runSN (As := As) (rest := rest) (Ts := gT) ⟨X.1, X.2.1, X.2.2.1, X.2.2.2.1, X.2.2.2.2.1⟩ hM ⟨va_cnB na X.2.2.2.2.1 (gGood _ _ _ _ hY.1) rfl rfl rfl hl (X.word hY.2.1 rfl) hY.2.2.1 (g_rm X hh hY.2.2.2), X.word hs rfl, trivial⟩ ⟨gM_blind, g_pre X b c⟩ rfl hna a.1 rfl (lv_room hw) hd ⟨by simpa using X.2.2.2.2.2.2.2.2.2.1, by simpa using X.2.2.2.2.2.2.2.2.2.2⟩) a c hp kk
end G
end
