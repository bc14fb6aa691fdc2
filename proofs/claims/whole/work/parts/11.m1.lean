theorem dX1_putIntoSet_0 : decode cX1_putIntoSet 0 = .ok (.aload_n 0, 1) := by decide +kernel
theorem dX1_putIntoSet_1 : decode cX1_putIntoSet 1 = .ok (.getfield 22, 3) := by decide +kernel
theorem dX1_putIntoSet_4 : decode cX1_putIntoSet 4 = .ok (.iload_n 1, 1) := by decide +kernel
theorem dX1_putIntoSet_5 : decode cX1_putIntoSet 5 = .ok (.iload_n 2, 1) := by decide +kernel
theorem dX1_putIntoSet_6 : decode cX1_putIntoSet 6 = .ok (.iastore, 1) := by decide +kernel
theorem dX1_putIntoSet_7 : decode cX1_putIntoSet 7 = .ok (.aload_n 0, 1) := by decide +kernel
theorem dX1_putIntoSet_8 : decode cX1_putIntoSet 8 = .ok (.getfield 25, 3) := by decide +kernel
theorem dX1_putIntoSet_11 : decode cX1_putIntoSet 11 = .ok (.iload_n 1, 1) := by decide +kernel
theorem dX1_putIntoSet_12 : decode cX1_putIntoSet 12 = .ok (.iload_n 3, 1) := by decide +kernel
theorem dX1_putIntoSet_13 : decode cX1_putIntoSet 13 = .ok (.iastore, 1) := by decide +kernel
theorem dX1_putIntoSet_14 : decode cX1_putIntoSet 14 = .ok (.aload_n 0, 1) := by decide +kernel
theorem dX1_putIntoSet_15 : decode cX1_putIntoSet 15 = .ok (.getfield 59, 3) := by decide +kernel
theorem dX1_putIntoSet_18 : decode cX1_putIntoSet 18 = .ok (.iload_n 2, 1) := by decide +kernel
theorem dX1_putIntoSet_19 : decode cX1_putIntoSet 19 = .ok (.iaload, 1) := by decide +kernel
theorem dX1_putIntoSet_20 : decode cX1_putIntoSet 20 = .ok (.ifCond .ne 10, 3) := by decide +kernel
theorem dX1_putIntoSet_23 : decode cX1_putIntoSet 23 = .ok (.aload_n 0, 1) := by decide +kernel
theorem dX1_putIntoSet_24 : decode cX1_putIntoSet 24 = .ok (.getfield 62, 3) := by decide +kernel
theorem dX1_putIntoSet_27 : decode cX1_putIntoSet 27 = .ok (.iload_n 2, 1) := by decide +kernel
theorem dX1_putIntoSet_28 : decode cX1_putIntoSet 28 = .ok (.iload_n 1, 1) := by decide +kernel
theorem dX1_putIntoSet_29 : decode cX1_putIntoSet 29 = .ok (.iastore, 1) := by decide +kernel
theorem dX1_putIntoSet_30 : decode cX1_putIntoSet 30 = .ok (.aload_n 0, 1) := by decide +kernel
theorem dX1_putIntoSet_31 : decode cX1_putIntoSet 31 = .ok (.getfield 53, 3) := by decide +kernel
theorem dX1_putIntoSet_34 : decode cX1_putIntoSet 34 = .ok (.iload_n 2, 1) := by decide +kernel
theorem dX1_putIntoSet_35 : decode cX1_putIntoSet 35 = .ok (.aload_n 0, 1) := by decide +kernel
theorem dX1_putIntoSet_36 : decode cX1_putIntoSet 36 = .ok (.getfield 15, 3) := by decide +kernel
theorem dX1_putIntoSet_39 : decode cX1_putIntoSet 39 = .ok (.iload_n 1, 1) := by decide +kernel
theorem dX1_putIntoSet_40 : decode cX1_putIntoSet 40 = .ok (.iaload, 1) := by decide +kernel
theorem dX1_putIntoSet_41 : decode cX1_putIntoSet 41 = .ok (.iconst 2, 1) := by decide +kernel
theorem dX1_putIntoSet_42 : decode cX1_putIntoSet 42 = .ok (.isub, 1) := by decide +kernel
theorem dX1_putIntoSet_43 : decode cX1_putIntoSet 43 = .ok (.iastore, 1) := by decide +kernel
theorem dX1_putIntoSet_44 : decode cX1_putIntoSet 44 = .ok (.aload_n 0, 1) := by decide +kernel
theorem dX1_putIntoSet_45 : decode cX1_putIntoSet 45 = .ok (.getfield 56, 3) := by decide +kernel
theorem dX1_putIntoSet_48 : decode cX1_putIntoSet 48 = .ok (.iload_n 2, 1) := by decide +kernel
theorem dX1_putIntoSet_49 : decode cX1_putIntoSet 49 = .ok (.iload_n 3, 1) := by decide +kernel
theorem dX1_putIntoSet_50 : decode cX1_putIntoSet 50 = .ok (.iastore, 1) := by decide +kernel
theorem dX1_putIntoSet_51 : decode cX1_putIntoSet 51 = .ok (.aload_n 0, 1) := by decide +kernel
theorem dX1_putIntoSet_52 : decode cX1_putIntoSet 52 = .ok (.getfield 59, 3) := by decide +kernel
theorem dX1_putIntoSet_55 : decode cX1_putIntoSet 55 = .ok (.iload_n 2, 1) := by decide +kernel
theorem dX1_putIntoSet_56 : decode cX1_putIntoSet 56 = .ok (.dup2, 1) := by decide +kernel
theorem dX1_putIntoSet_57 : decode cX1_putIntoSet 57 = .ok (.iaload, 1) := by decide +kernel
theorem dX1_putIntoSet_58 : decode cX1_putIntoSet 58 = .ok (.iconst 1, 1) := by decide +kernel
theorem dX1_putIntoSet_59 : decode cX1_putIntoSet 59 = .ok (.iadd, 1) := by decide +kernel
theorem dX1_putIntoSet_60 : decode cX1_putIntoSet 60 = .ok (.iastore, 1) := by decide +kernel
theorem dX1_putIntoSet_61 : decode cX1_putIntoSet 61 = .ok (.return_, 1) := by decide +kernel
def f_Game_putIntoSet_b30 (g : Nat) (x1 : Int32) (x2 : Int32) (x3 : Int32) (σ : St) : Option St :=
  ck (ib x1 60) <| ck (ib x2 10) <| lE (stA σ (g + 13) x2.toNatClampNeg ((rI σ (g + 1) x1) - 2)) fun σ3 => ck (ib x2 10) <| lE (stA σ3 (g + 14) x2.toNatClampNeg x3) fun σ6 => ck (ib x2 10) <| ck (ib x2 10) <| lE (stA σ6 (g + 15) x2.toNatClampNeg ((rI σ6 (g + 15) x2) + 1)) fun σ10 => some σ10
set_option maxRecDepth 4000 in
theorem ok_Game_putIntoSet_b30 {E : gE} {w : wT} {σ' : St} (X : gC E w cX1_putIntoSet 4 RX1 1) (Y : gQ E w none none σ') {g : Nat} (hg : isG g = true) {x1 : Int32} {x2 : Int32} {x3 : Int32} (σ : St) (h : f_Game_putIntoSet_b30 g x1 x2 x3 σ = some σ') : gW E w 4 σ 30 [some (.ref (w.1 g)), some (.int x1), some (.int x2), some (.int x3)] [] := by
  unfold f_Game_putIntoSet_b30 at h
  refine g_aload_n X dX1_putIntoSet_30 rfl rfl ?_
  refine gf_RX1_53 hg X dX1_putIntoSet_31 rfl ?_
  refine g_iload_n X dX1_putIntoSet_34 rfl rfl ?_
  refine g_aload_n X dX1_putIntoSet_35 rfl rfl ?_
  refine gf_RX1_15 hg X dX1_putIntoSet_36 rfl ?_
  refine g_iload_n X dX1_putIntoSet_39 rfl rfl ?_
  obtain ⟨c1, h⟩ := ck_e h
  refine g_iald X (ga_1 hg).1 (ga_1 hg).2.1 (ga_1 hg).2.2 (ib_e c1) dX1_putIntoSet_40 rfl ?_
  refine g_iconst X kI_2 dX1_putIntoSet_41 rfl ?_
  refine g_isub X dX1_putIntoSet_42 rfl ?_
  obtain ⟨c2, h⟩ := ck_e h
  refine g_iast X (ga_13 hg).1 (ga_13 hg).2.1 (ga_13 hg).2.2 (ib_e c2) dX1_putIntoSet_43 rfl (fun σ3 e4 => ?_)
  replace h := lE_c e4 h
  refine g_aload_n X dX1_putIntoSet_44 rfl rfl ?_
  refine gf_RX1_56 hg X dX1_putIntoSet_45 rfl ?_
  refine g_iload_n X dX1_putIntoSet_48 rfl rfl ?_
  refine g_iload_n X dX1_putIntoSet_49 rfl rfl ?_
  obtain ⟨c5, h⟩ := ck_e h
  refine g_iast X (ga_14 hg).1 (ga_14 hg).2.1 (ga_14 hg).2.2 (ib_e c5) dX1_putIntoSet_50 rfl (fun σ6 e7 => ?_)
  replace h := lE_c e7 h
  refine g_aload_n X dX1_putIntoSet_51 rfl rfl ?_
  refine gf_RX1_59 hg X dX1_putIntoSet_52 rfl ?_
  refine g_iload_n X dX1_putIntoSet_55 rfl rfl ?_
  refine g_dup2 X dX1_putIntoSet_56 rfl rfl rfl ?_
  obtain ⟨c8, h⟩ := ck_e h
  refine g_iald X (ga_15 hg).1 (ga_15 hg).2.1 (ga_15 hg).2.2 (ib_e c8) dX1_putIntoSet_57 rfl ?_
  refine g_iconst X kI_1 dX1_putIntoSet_58 rfl ?_
  refine g_iadd X dX1_putIntoSet_59 rfl ?_
  obtain ⟨c9, h⟩ := ck_e h
  refine g_iast X (ga_15 hg).1 (ga_15 hg).2.1 (ga_15 hg).2.2 (ib_e c9) dX1_putIntoSet_60 rfl (fun σ10 e11 => ?_)
  replace h := lE_c e11 h
  obtain rfl := rv_e h
  exact g_vret X Y dX1_putIntoSet_61

def f_Game_putIntoSet (g : Nat) (x1 : Int32) (x2 : Int32) (x3 : Int32) (σ : St) : Option St :=
  ck (isG g) <| ck (ib x1 60) <| lE (stA σ (g + 3) x1.toNatClampNeg x2) fun σ2 => ck (ib x1 60) <| lE (stA σ2 (g + 4) x1.toNatClampNeg x3) fun σ5 => ck (ib x2 10) <| if (rI σ5 (g + 15) x2) = 0 then (ck (ib x2 10) <| lE (stA σ5 (g + 16) x2.toNatClampNeg x1) fun σ10 => f_Game_putIntoSet_b30 g x1 x2 x3 σ10) else (f_Game_putIntoSet_b30 g x1 x2 x3 σ5)
set_option maxRecDepth 4000 in
theorem ok_Game_putIntoSet {w : wT} (hi : wInj w) {l : Launch} {g : Nat} {x1 : Int32} {x2 : Int32} {x3 : Int32} {σ σ' : St} (h : f_Game_putIntoSet g x1 x2 x3 σ = some σ') : gM w l yX1_putIntoSet cX1_putIntoSet 4 none 1 [.ref (w.1 g), .int x1, .int x2, .int x3] σ none σ' := by
  unfold f_Game_putIntoSet at h
  obtain ⟨hg, h⟩ := ck_e h
  refine gM_of hi (by decide) [some (.ref (w.1 g)), some (.int x1), some (.int x2), some (.int x3)] rfl (Nat.le_of_ble_eq_true rfl) (fun E hl X Y => ?_)
  refine g_aload_n X dX1_putIntoSet_0 rfl rfl ?_
  refine gf_RX1_22 hg X dX1_putIntoSet_1 rfl ?_
  refine g_iload_n X dX1_putIntoSet_4 rfl rfl ?_
  refine g_iload_n X dX1_putIntoSet_5 rfl rfl ?_
  obtain ⟨c1, h⟩ := ck_e h
  refine g_iast X (ga_3 hg).1 (ga_3 hg).2.1 (ga_3 hg).2.2 (ib_e c1) dX1_putIntoSet_6 rfl (fun σ2 e3 => ?_)
  replace h := lE_c e3 h
  refine g_aload_n X dX1_putIntoSet_7 rfl rfl ?_
  refine gf_RX1_25 hg X dX1_putIntoSet_8 rfl ?_
  refine g_iload_n X dX1_putIntoSet_11 rfl rfl ?_
  refine g_iload_n X dX1_putIntoSet_12 rfl rfl ?_
  obtain ⟨c4, h⟩ := ck_e h
  refine g_iast X (ga_4 hg).1 (ga_4 hg).2.1 (ga_4 hg).2.2 (ib_e c4) dX1_putIntoSet_13 rfl (fun σ5 e6 => ?_)
  replace h := lE_c e6 h
  refine g_aload_n X dX1_putIntoSet_14 rfl rfl ?_
  refine gf_RX1_59 hg X dX1_putIntoSet_15 rfl ?_
  refine g_iload_n X dX1_putIntoSet_18 rfl rfl ?_
  obtain ⟨c7, h⟩ := ck_e h
  refine g_iald X (ga_15 hg).1 (ga_15 hg).2.1 (ga_15 hg).2.2 (ib_e c7) dX1_putIntoSet_19 rfl ?_
  refine g_if_ne X dX1_putIntoSet_20 (tgt := 30) rfl rfl (fun c8 => ?_) (fun c8 => ?_)
  · replace h := if_f c8 h
    exact ok_Game_putIntoSet_b30 X Y hg σ5 h
  · replace h := if_t c8 h
    refine g_aload_n X dX1_putIntoSet_23 rfl rfl ?_
    refine gf_RX1_62 hg X dX1_putIntoSet_24 rfl ?_
    refine g_iload_n X dX1_putIntoSet_27 rfl rfl ?_
    refine g_iload_n X dX1_putIntoSet_28 rfl rfl ?_
    obtain ⟨c9, h⟩ := ck_e h
    refine g_iast X (ga_16 hg).1 (ga_16 hg).2.1 (ga_16 hg).2.2 (ib_e c9) dX1_putIntoSet_29 rfl (fun σ10 e11 => ?_)
    replace h := lE_c e11 h
    exact ok_Game_putIntoSet_b30 X Y hg σ10 h

theorem dX4_readHeld_0 : decode cX4_readHeld 0 = .ok (.aload_n 1, 1) := by decide +kernel
theorem dX4_readHeld_1 : decode cX4_readHeld 1 = .ok (.getfield 33, 3) := by decide +kernel
theorem dX4_readHeld_4 : decode cX4_readHeld 4 = .ok (.iconst 4, 1) := by decide +kernel
theorem dX4_readHeld_5 : decode cX4_readHeld 5 = .ok (.if_icmp .eq 10, 3) := by decide +kernel
theorem dX4_readHeld_8 : decode cX4_readHeld 8 = .ok (.aload_n 0, 1) := by decide +kernel
theorem dX4_readHeld_9 : decode cX4_readHeld 9 = .ok (.aload_n 1, 1) := by decide +kernel
theorem dX4_readHeld_10 : decode cX4_readHeld 10 = .ok (.iconst 1, 1) := by decide +kernel
theorem dX4_readHeld_11 : decode cX4_readHeld 11 = .ok (.invokevirtual 36, 3) := by decide +kernel
theorem dX4_readHeld_14 : decode cX4_readHeld 14 = .ok (.ireturn, 1) := by decide +kernel
theorem dX4_readHeld_15 : decode cX4_readHeld 15 = .ok (.aload_n 1, 1) := by decide +kernel
theorem dX4_readHeld_16 : decode cX4_readHeld 16 = .ok (.getfield 73, 3) := by decide +kernel
theorem dX4_readHeld_19 : decode cX4_readHeld 19 = .ok (.istore 4, 2) := by decide +kernel
theorem dX4_readHeld_21 : decode cX4_readHeld 21 = .ok (.iload 4, 2) := by decide +kernel
theorem dX4_readHeld_23 : decode cX4_readHeld 23 = .ok (.bipush 10, 2) := by decide +kernel
theorem dX4_readHeld_25 : decode cX4_readHeld 25 = .ok (.if_icmp .ge 20, 3) := by decide +kernel
theorem dX4_readHeld_28 : decode cX4_readHeld 28 = .ok (.aload_n 2, 1) := by decide +kernel
theorem dX4_readHeld_29 : decode cX4_readHeld 29 = .ok (.iload 4, 2) := by decide +kernel
theorem dX4_readHeld_31 : decode cX4_readHeld 31 = .ok (.aload_n 2, 1) := by decide +kernel
theorem dX4_readHeld_32 : decode cX4_readHeld 32 = .ok (.getfield 79, 3) := by decide +kernel
theorem dX4_readHeld_35 : decode cX4_readHeld 35 = .ok (.iload_n 3, 1) := by decide +kernel
theorem dX4_readHeld_36 : decode cX4_readHeld 36 = .ok (.iaload, 1) := by decide +kernel
theorem dX4_readHeld_37 : decode cX4_readHeld 37 = .ok (.iconst 2, 1) := by decide +kernel
theorem dX4_readHeld_38 : decode cX4_readHeld 38 = .ok (.isub, 1) := by decide +kernel
theorem dX4_readHeld_39 : decode cX4_readHeld 39 = .ok (.invokevirtual 82, 3) := by decide +kernel
theorem dX4_readHeld_42 : decode cX4_readHeld 42 = .ok (.ifCond .ne 10, 3) := by decide +kernel
theorem dX4_readHeld_45 : decode cX4_readHeld 45 = .ok (.aload_n 0, 1) := by decide +kernel
theorem dX4_readHeld_46 : decode cX4_readHeld 46 = .ok (.aload_n 1, 1) := by decide +kernel
theorem dX4_readHeld_47 : decode cX4_readHeld 47 = .ok (.iconst 2, 1) := by decide +kernel
theorem dX4_readHeld_48 : decode cX4_readHeld 48 = .ok (.invokevirtual 36, 3) := by decide +kernel
theorem dX4_readHeld_51 : decode cX4_readHeld 51 = .ok (.ireturn, 1) := by decide +kernel
theorem dX4_readHeld_52 : decode cX4_readHeld 52 = .ok (.aload_n 1, 1) := by decide +kernel
theorem dX4_readHeld_53 : decode cX4_readHeld 53 = .ok (.invokevirtual 40, 3) := by decide +kernel
theorem dX4_readHeld_56 : decode cX4_readHeld 56 = .ok (.aload_n 1, 1) := by decide +kernel
theorem dX4_readHeld_57 : decode cX4_readHeld 57 = .ok (.getfield 33, 3) := by decide +kernel
theorem dX4_readHeld_60 : decode cX4_readHeld 60 = .ok (.iconst 4, 1) := by decide +kernel
theorem dX4_readHeld_61 : decode cX4_readHeld 61 = .ok (.if_icmp .eq 10, 3) := by decide +kernel
theorem dX4_readHeld_64 : decode cX4_readHeld 64 = .ok (.aload_n 0, 1) := by decide +kernel
theorem dX4_readHeld_65 : decode cX4_readHeld 65 = .ok (.aload_n 1, 1) := by decide +kernel
theorem dX4_readHeld_66 : decode cX4_readHeld 66 = .ok (.iconst 1, 1) := by decide +kernel
theorem dX4_readHeld_67 : decode cX4_readHeld 67 = .ok (.invokevirtual 36, 3) := by decide +kernel
theorem dX4_readHeld_70 : decode cX4_readHeld 70 = .ok (.ireturn, 1) := by decide +kernel
theorem dX4_readHeld_71 : decode cX4_readHeld 71 = .ok (.aload_n 1, 1) := by decide +kernel
theorem dX4_readHeld_72 : decode cX4_readHeld 72 = .ok (.getfield 73, 3) := by decide +kernel
theorem dX4_readHeld_75 : decode cX4_readHeld 75 = .ok (.istore 5, 2) := by decide +kernel
theorem dX4_readHeld_77 : decode cX4_readHeld 77 = .ok (.iload 5, 2) := by decide +kernel
theorem dX4_readHeld_79 : decode cX4_readHeld 79 = .ok (.iconst 2, 1) := by decide +kernel
theorem dX4_readHeld_80 : decode cX4_readHeld 80 = .ok (.if_icmp .lt 20, 3) := by decide +kernel
theorem dX4_readHeld_83 : decode cX4_readHeld 83 = .ok (.iload 5, 2) := by decide +kernel
theorem dX4_readHeld_85 : decode cX4_readHeld 85 = .ok (.iconst 3, 1) := by decide +kernel
theorem dX4_readHeld_86 : decode cX4_readHeld 86 = .ok (.if_icmp .gt 14, 3) := by decide +kernel
theorem dX4_readHeld_89 : decode cX4_readHeld 89 = .ok (.aload_n 2, 1) := by decide +kernel
theorem dX4_readHeld_90 : decode cX4_readHeld 90 = .ok (.iload 4, 2) := by decide +kernel
theorem dX4_readHeld_92 : decode cX4_readHeld 92 = .ok (.iload 5, 2) := by decide +kernel
theorem dX4_readHeld_94 : decode cX4_readHeld 94 = .ok (.invokevirtual 86, 3) := by decide +kernel
theorem dX4_readHeld_97 : decode cX4_readHeld 97 = .ok (.ifCond .ne 10, 3) := by decide +kernel
theorem dX4_readHeld_100 : decode cX4_readHeld 100 = .ok (.aload_n 0, 1) := by decide +kernel
theorem dX4_readHeld_101 : decode cX4_readHeld 101 = .ok (.aload_n 1, 1) := by decide +kernel
theorem dX4_readHeld_102 : decode cX4_readHeld 102 = .ok (.iconst 2, 1) := by decide +kernel
theorem dX4_readHeld_103 : decode cX4_readHeld 103 = .ok (.invokevirtual 36, 3) := by decide +kernel
theorem dX4_readHeld_106 : decode cX4_readHeld 106 = .ok (.ireturn, 1) := by decide +kernel
theorem dX4_readHeld_107 : decode cX4_readHeld 107 = .ok (.aload_n 2, 1) := by decide +kernel
theorem dX4_readHeld_108 : decode cX4_readHeld 108 = .ok (.iload_n 3, 1) := by decide +kernel
theorem dX4_readHeld_109 : decode cX4_readHeld 109 = .ok (.iload 4, 2) := by decide +kernel
theorem dX4_readHeld_111 : decode cX4_readHeld 111 = .ok (.iload 5, 2) := by decide +kernel
theorem dX4_readHeld_113 : decode cX4_readHeld 113 = .ok (.invokevirtual 89, 3) := by decide +kernel
theorem dX4_readHeld_116 : decode cX4_readHeld 116 = .ok (.aload_n 1, 1) := by decide +kernel
theorem dX4_readHeld_117 : decode cX4_readHeld 117 = .ok (.invokevirtual 40, 3) := by decide +kernel
theorem dX4_readHeld_120 : decode cX4_readHeld 120 = .ok (.iconst 0, 1) := by decide +kernel
theorem dX4_readHeld_121 : decode cX4_readHeld 121 = .ok (.istore 6, 2) := by decide +kernel
theorem dX4_readHeld_123 : decode cX4_readHeld 123 = .ok (.iload 6, 2) := by decide +kernel
theorem dX4_readHeld_125 : decode cX4_readHeld 125 = .ok (.iload 5, 2) := by decide +kernel
theorem dX4_readHeld_127 : decode cX4_readHeld 127 = .ok (.if_icmp .ge 24, 3) := by decide +kernel
theorem dX4_readHeld_130 : decode cX4_readHeld 130 = .ok (.aload_n 0, 1) := by decide +kernel
theorem dX4_readHeld_131 : decode cX4_readHeld 131 = .ok (.aload_n 1, 1) := by decide +kernel
theorem dX4_readHeld_132 : decode cX4_readHeld 132 = .ok (.aload_n 2, 1) := by decide +kernel
theorem dX4_readHeld_133 : decode cX4_readHeld 133 = .ok (.iload_n 3, 1) := by decide +kernel
theorem dX4_readHeld_134 : decode cX4_readHeld 134 = .ok (.iload 6, 2) := by decide +kernel
theorem dX4_readHeld_136 : decode cX4_readHeld 136 = .ok (.iconst 0, 1) := by decide +kernel
theorem dX4_readHeld_137 : decode cX4_readHeld 137 = .ok (.invokevirtual 29, 3) := by decide +kernel
theorem dX4_readHeld_140 : decode cX4_readHeld 140 = .ok (.ifCond .ne 5, 3) := by decide +kernel
theorem dX4_readHeld_143 : decode cX4_readHeld 143 = .ok (.iconst 0, 1) := by decide +kernel
theorem dX4_readHeld_144 : decode cX4_readHeld 144 = .ok (.ireturn, 1) := by decide +kernel
theorem dX4_readHeld_145 : decode cX4_readHeld 145 = .ok (.iinc 6 1, 3) := by decide +kernel
theorem dX4_readHeld_148 : decode cX4_readHeld 148 = .ok (.goto (-25), 3) := by decide +kernel
theorem dX4_readHeld_151 : decode cX4_readHeld 151 = .ok (.iconst 1, 1) := by decide +kernel
theorem dX4_readHeld_152 : decode cX4_readHeld 152 = .ok (.ireturn, 1) := by decide +kernel
def f_Reader_readHeld_b123 (g : Nat) (rp : Nat → Int32 → Int32 → Int32 → St → Option (Int32 × St)) (k123 : Int32 → Int32 → Int32 → St → Option (Int32 × St)) (x3 : Int32) (x5 : Int32) (x6 : Int32) (σ : St) : Option (Int32 × St) :=
  if x5 ≤ x6 then (some (1, σ)) else (bd (rp g x3 x6 0 σ) fun r4 σ3 => if r4 = 0 then (some (0, σ3)) else (k123 x3 x5 (x6 + 1) σ3))
set_option maxRecDepth 4000 in
theorem ok_Reader_readHeld_b123 {h0 : Nat} (hb : 20 ≤ h0) {E : gE} {w : wT} {σ' : St} {r : Int32} (X : gC E w cX4_readHeld 7 RX4 (h0 + 1)) (Y : gQ E w (some .boolean) (some (.int r)) σ') {g : Nat} (hg : isG g = true) {rp : Nat → Int32 → Int32 → Int32 → St → Option (Int32 × St)} (hrp : ∀ (g : Nat) (x3 x4 x5 : Int32) (σ σ' : St) (r : Int32), rp g x3 x4 x5 σ = some (r, σ') → gM w (eL E) yX4_readPlace cX4_readPlace 9 (some .boolean) h0 [.ref (w.1 3), .ref (w.1 2), .ref (w.1 g), .int x3, .int x4, .int x5] σ (some (.int r)) σ') {k123 : Int32 → Int32 → Int32 → St → Option (Int32 × St)} (hk123 : ∀ (x3 : Int32) (x5 : Int32) (x6 : Int32) (σ : St), k123 x3 x5 x6 σ = some (r, σ') → gW E w 7 σ 123 [some (.ref (w.1 3)), some (.ref (w.1 2)), some (.ref (w.1 g)), some (.int x3), none, some (.int x5), some (.int x6)] []) {x3 : Int32} {x5 : Int32} {x6 : Int32} (σ : St) (h : f_Reader_readHeld_b123 g rp k123 x3 x5 x6 σ = some (r, σ')) : gW E w 7 σ 123 [some (.ref (w.1 3)), some (.ref (w.1 2)), some (.ref (w.1 g)), some (.int x3), none, some (.int x5), some (.int x6)] [] := by
  unfold f_Reader_readHeld_b123 at h
  refine g_iload X dX4_readHeld_123 rfl rfl ?_
  refine g_iload X dX4_readHeld_125 rfl rfl ?_
  refine g_icmp_ge X dX4_readHeld_127 (tgt := 151) rfl rfl (fun c1 => ?_) (fun c1 => ?_)
  · replace h := if_t c1 h
    refine g_iconst X kI_1 dX4_readHeld_151 rfl ?_
    obtain ⟨rfl, rfl⟩ := rt_e h
    exact g_zret X Y rfl dX4_readHeld_152
  · replace h := if_f c1 h
    refine g_aload_n X dX4_readHeld_130 rfl rfl ?_
    refine g_aload_n X dX4_readHeld_131 rfl rfl ?_
    refine g_aload_n X dX4_readHeld_132 rfl rfl ?_
    refine g_iload_n X dX4_readHeld_133 rfl rfl ?_
    refine g_iload X dX4_readHeld_134 rfl rfl ?_
    refine g_iconst X kI_0 dX4_readHeld_136 rfl ?_
    obtain ⟨r4, σ3, h2, h⟩ := bd_e h
    refine g_callVI X [.ref (w.1 2), .ref (w.1 g), .int x3, .int x6, .int 0] (hrp _ _ _ _ _ _ _ h2) my_yX4_readPlace mi_yX4_readPlace ms_yX4_readPlace ml_RX4_29 (by decide) rfl rfl (by omega) rfl dX4_readHeld_137 (Nat.le_of_ble_eq_true rfl) rfl rfl ?_
    refine g_if_ne X dX4_readHeld_140 (tgt := 145) rfl rfl (fun c5 => ?_) (fun c5 => ?_)
    · replace h := if_f c5 h
      refine g_iinc X [some (.ref (w.1 3)), some (.ref (w.1 2)), some (.ref (w.1 g)), some (.int x3), none, some (.int x5), some (.int (x6 + 1))] dX4_readHeld_145 rfl (ii_1 x6) (Nat.le_of_ble_eq_true rfl) rfl rfl rfl ?_
      refine g_goto X dX4_readHeld_148 (tgt := 123) rfl ?_
      exact hk123 x3 x5 (x6 + 1) σ3 h
    · replace h := if_t c5 h
      refine g_iconst X kI_0 dX4_readHeld_143 rfl ?_
      obtain ⟨rfl, rfl⟩ := rt_e h
      exact g_zret X Y rfl dX4_readHeld_144
def f_Reader_readHeld_l123 (g : Nat) (rp : Nat → Int32 → Int32 → Int32 → St → Option (Int32 × St)) : Int32 → Int32 → Int32 → St → Option (Int32 × St) := lp (fun _ _ _ _ => none) (f_Reader_readHeld_b123 g rp) FU
theorem ok_Reader_readHeld_l123 {h0 : Nat} (hb : 20 ≤ h0) {E : gE} {w : wT} {σ' : St} {r : Int32} (X : gC E w cX4_readHeld 7 RX4 (h0 + 1)) (Y : gQ E w (some .boolean) (some (.int r)) σ') {g : Nat} (hg : isG g = true) {rp : Nat → Int32 → Int32 → Int32 → St → Option (Int32 × St)} (hrp : ∀ (g : Nat) (x3 x4 x5 : Int32) (σ σ' : St) (r : Int32), rp g x3 x4 x5 σ = some (r, σ') → gM w (eL E) yX4_readPlace cX4_readPlace 9 (some .boolean) h0 [.ref (w.1 3), .ref (w.1 2), .ref (w.1 g), .int x3, .int x4, .int x5] σ (some (.int r)) σ') {x3 : Int32} {x5 : Int32} {x6 : Int32} (σ : St) (h : f_Reader_readHeld_l123 g rp x3 x5 x6 σ = some (r, σ')) : gW E w 7 σ 123 [some (.ref (w.1 3)), some (.ref (w.1 2)), some (.ref (w.1 g)), some (.int x3), none, some (.int x5), some (.int x6)] [] :=
  lp_ind (P := fun (k : Int32 → Int32 → Int32 → St → Option (Int32 × St)) => ∀ (x3 : Int32) (x5 : Int32) (x6 : Int32) (σ : St), k x3 x5 x6 σ = some (r, σ') → gW E w 7 σ 123 [some (.ref (w.1 3)), some (.ref (w.1 2)), some (.ref (w.1 g)), some (.int x3), none, some (.int x5), some (.int x6)] []) (fun _ _ _ _ hh => nn hh) (fun k hk x3 x5 x6 σ  hh => ok_Reader_readHeld_b123 hb X Y hg hrp hk σ hh) FU x3 x5 x6 σ  h

def f_Reader_readHeld_b100 (g : Nat) (rp : Nat → Int32 → Int32 → Int32 → St → Option (Int32 × St)) (σ : St) : Option (Int32 × St) :=
  bd (f_Reader_fail 2 σ) fun r3 σ2 => ck (isB r3) <| some (r3, σ2)
set_option maxRecDepth 4000 in
theorem ok_Reader_readHeld_b100 {h0 : Nat} (hb : 20 ≤ h0) {E : gE} {w : wT} {σ' : St} {r : Int32} (X : gC E w cX4_readHeld 7 RX4 (h0 + 1)) (Y : gQ E w (some .boolean) (some (.int r)) σ') {g : Nat} (hg : isG g = true) {rp : Nat → Int32 → Int32 → Int32 → St → Option (Int32 × St)} (hrp : ∀ (g : Nat) (x3 x4 x5 : Int32) (σ σ' : St) (r : Int32), rp g x3 x4 x5 σ = some (r, σ') → gM w (eL E) yX4_readPlace cX4_readPlace 9 (some .boolean) h0 [.ref (w.1 3), .ref (w.1 2), .ref (w.1 g), .int x3, .int x4, .int x5] σ (some (.int r)) σ') (σ : St) (h : f_Reader_readHeld_b100 g rp σ = some (r, σ')) : gW E w 7 σ 100 [some (.ref (w.1 3)), some (.ref (w.1 2))] [] := by
  unfold f_Reader_readHeld_b100 at h
  refine g_aload_n X dX4_readHeld_100 rfl rfl ?_
  refine g_aload_n X dX4_readHeld_101 rfl rfl ?_
  refine g_iconst X kI_2 dX4_readHeld_102 rfl ?_
  obtain ⟨r3, σ2, h1, h⟩ := bd_e h
  refine g_callVI X [.ref (w.1 2), .int 2] (ok_Reader_fail X.inj h1) my_yX4_fail mi_yX4_fail ms_yX4_fail ml_RX4_36 (by decide) rfl rfl (by omega) rfl dX4_readHeld_103 (Nat.le_of_ble_eq_true rfl) rfl rfl ?_
  obtain ⟨c4, h⟩ := ck_e h
  obtain ⟨rfl, rfl⟩ := rt_e h
  exact g_zret X Y (isB_e c4) dX4_readHeld_106

def f_Reader_readHeld_b45 (g : Nat) (rp : Nat → Int32 → Int32 → Int32 → St → Option (Int32 × St)) (σ : St) : Option (Int32 × St) :=
  bd (f_Reader_fail 2 σ) fun r3 σ2 => ck (isB r3) <| some (r3, σ2)
set_option maxRecDepth 4000 in
theorem ok_Reader_readHeld_b45 {h0 : Nat} (hb : 20 ≤ h0) {E : gE} {w : wT} {σ' : St} {r : Int32} (X : gC E w cX4_readHeld 7 RX4 (h0 + 1)) (Y : gQ E w (some .boolean) (some (.int r)) σ') {g : Nat} (hg : isG g = true) {rp : Nat → Int32 → Int32 → Int32 → St → Option (Int32 × St)} (hrp : ∀ (g : Nat) (x3 x4 x5 : Int32) (σ σ' : St) (r : Int32), rp g x3 x4 x5 σ = some (r, σ') → gM w (eL E) yX4_readPlace cX4_readPlace 9 (some .boolean) h0 [.ref (w.1 3), .ref (w.1 2), .ref (w.1 g), .int x3, .int x4, .int x5] σ (some (.int r)) σ') (σ : St) (h : f_Reader_readHeld_b45 g rp σ = some (r, σ')) : gW E w 7 σ 45 [some (.ref (w.1 3)), some (.ref (w.1 2))] [] := by
  unfold f_Reader_readHeld_b45 at h
  refine g_aload_n X dX4_readHeld_45 rfl rfl ?_
  refine g_aload_n X dX4_readHeld_46 rfl rfl ?_
  refine g_iconst X kI_2 dX4_readHeld_47 rfl ?_
  obtain ⟨r3, σ2, h1, h⟩ := bd_e h
  refine g_callVI X [.ref (w.1 2), .int 2] (ok_Reader_fail X.inj h1) my_yX4_fail mi_yX4_fail ms_yX4_fail ml_RX4_36 (by decide) rfl rfl (by omega) rfl dX4_readHeld_48 (Nat.le_of_ble_eq_true rfl) rfl rfl ?_
  obtain ⟨c4, h⟩ := ck_e h
  obtain ⟨rfl, rfl⟩ := rt_e h
  exact g_zret X Y (isB_e c4) dX4_readHeld_51

def f_Reader_readHeld (rp : Nat → Int32 → Int32 → Int32 → St → Option (Int32 × St)) (g : Nat) (x3 : Int32) (σ : St) : Option (Int32 × St) :=
  ck (isG g) <| if (rF σ 3) = 4 then (if (10 : Int32) ≤ (rF σ 5) then (f_Reader_readHeld_b45 g rp σ) else (ck (ib x3 60) <| bd (f_Game_maySetBeOf g (rF σ 5) ((rI σ (g + 1) x3) - 2) σ) fun r6 σ5 => if r6 = 0 then (f_Reader_readHeld_b45 g rp σ5) else (bv (f_Tape_step σ5) fun σ9 => if (rF σ9 3) = 4 then (if (rF σ9 5) < 2 then (f_Reader_readHeld_b100 g rp σ9) else (if (3 : Int32) < (rF σ9 5) then (f_Reader_readHeld_b100 g rp σ9) else (bd (f_Game_maySetHave g (rF σ 5) (rF σ9 5) σ9) fun r15 σ14 => if r15 = 0 then (f_Reader_readHeld_b100 g rp σ14) else (bv (f_Game_putIntoSet g x3 (rF σ 5) (rF σ9 5) σ14) fun σ18 => bv (f_Tape_step σ18) fun σ20 => f_Reader_readHeld_l123 g rp x3 (rF σ9 5) 0 σ20)))) else (bd (f_Reader_fail 1 σ9) fun r23 σ22 => ck (isB r23) <| some (r23, σ22))))) else (bd (f_Reader_fail 1 σ) fun r27 σ26 => ck (isB r27) <| some (r27, σ26))
set_option maxRecDepth 4000 in
theorem ok_Reader_readHeld {h0 : Nat} (hb : 20 ≤ h0) {w : wT} (hi : wInj w) {l : Launch} {rp : Nat → Int32 → Int32 → Int32 → St → Option (Int32 × St)} (hrp : ∀ (g : Nat) (x3 x4 x5 : Int32) (σ σ' : St) (r : Int32), rp g x3 x4 x5 σ = some (r, σ') → gM w l yX4_readPlace cX4_readPlace 9 (some .boolean) h0 [.ref (w.1 3), .ref (w.1 2), .ref (w.1 g), .int x3, .int x4, .int x5] σ (some (.int r)) σ') {g : Nat} {x3 : Int32} {σ σ' : St} {r : Int32} (h : f_Reader_readHeld rp g x3 σ = some (r, σ')) : gM w l yX4_readHeld cX4_readHeld 7 (some .boolean) (h0 + 1) [.ref (w.1 3), .ref (w.1 2), .ref (w.1 g), .int x3] σ (some (.int r)) σ' := by
  unfold f_Reader_readHeld at h
  obtain ⟨hg, h⟩ := ck_e h
  refine gM_of hi (by decide) [some (.ref (w.1 3)), some (.ref (w.1 2)), some (.ref (w.1 g)), some (.int x3)] rfl (Nat.le_of_ble_eq_true rfl) (fun E hl X Y => ?_)
  subst hl
  refine g_aload_n X dX4_readHeld_0 rfl rfl ?_
  refine gf_RX4_33 X dX4_readHeld_1 rfl ?_
  refine g_iconst X kI_4 dX4_readHeld_4 rfl ?_
  refine g_icmp_eq X dX4_readHeld_5 (tgt := 15) rfl rfl (fun c1 => ?_) (fun c1 => ?_)
  · replace h := if_t c1 h
    refine g_aload_n X dX4_readHeld_15 rfl rfl ?_
    refine gf_RX4_73 X dX4_readHeld_16 rfl ?_
    refine g_istore X [some (.ref (w.1 3)), some (.ref (w.1 2)), some (.ref (w.1 g)), some (.int x3), some (.int (rF σ 5))] dX4_readHeld_19 (Nat.le_of_ble_eq_true rfl) rfl rfl rfl ?_
    refine g_iload X dX4_readHeld_21 rfl rfl ?_
    refine g_bipush X kB_10 dX4_readHeld_23 rfl ?_
    refine g_icmp_ge X dX4_readHeld_25 (tgt := 45) rfl rfl (fun c2 => ?_) (fun c2 => ?_)
    · replace h := if_t c2 h
      exact g_le (lle_s (lle_s (lle_0))) (ok_Reader_readHeld_b45 hb X Y hg hrp σ h)
    · replace h := if_f c2 h
      refine g_aload_n X dX4_readHeld_28 rfl rfl ?_
      refine g_iload X dX4_readHeld_29 rfl rfl ?_
      refine g_aload_n X dX4_readHeld_31 rfl rfl ?_
      refine gf_RX4_79 hg X dX4_readHeld_32 rfl ?_
      refine g_iload_n X dX4_readHeld_35 rfl rfl ?_
      obtain ⟨c3, h⟩ := ck_e h
      refine g_iald X (ga_1 hg).1 (ga_1 hg).2.1 (ga_1 hg).2.2 (ib_e c3) dX4_readHeld_36 rfl ?_
      refine g_iconst X kI_2 dX4_readHeld_37 rfl ?_
      refine g_isub X dX4_readHeld_38 rfl ?_
      obtain ⟨r6, σ5, h4, h⟩ := bd_e h
      refine g_callVI X [.int (rF σ 5), .int ((rI σ (g + 1) x3) - 2)] (ok_Game_maySetBeOf X.inj h4) my_yX1_maySetBeOf mi_yX1_maySetBeOf ms_yX1_maySetBeOf ml_RX4_82 (go_ hg).1 (go_ hg).2.1 (go_ hg).2.2 (by omega) rfl dX4_readHeld_39 (Nat.le_of_ble_eq_true rfl) rfl rfl ?_
      refine g_if_ne X dX4_readHeld_42 (tgt := 52) rfl rfl (fun c7 => ?_) (fun c7 => ?_)
      · replace h := if_f c7 h
        refine g_aload_n X dX4_readHeld_52 rfl rfl ?_
        obtain ⟨σ9, h8, h⟩ := bv_e h
        refine g_callVV X [] (ok_Tape_step X.inj h8) my_yX7_step mi_yX7_step ms_yX7_step ml_RX4_40 (by decide) rfl rfl (by omega) rfl dX4_readHeld_53 (Nat.le_of_ble_eq_true rfl) rfl rfl ?_
        refine g_aload_n X dX4_readHeld_56 rfl rfl ?_
        refine gf_RX4_33 X dX4_readHeld_57 rfl ?_
        refine g_iconst X kI_4 dX4_readHeld_60 rfl ?_
        refine g_icmp_eq X dX4_readHeld_61 (tgt := 71) rfl rfl (fun c10 => ?_) (fun c10 => ?_)
        · replace h := if_t c10 h
          refine g_aload_n X dX4_readHeld_71 rfl rfl ?_
          refine gf_RX4_73 X dX4_readHeld_72 rfl ?_
          refine g_istore X [some (.ref (w.1 3)), some (.ref (w.1 2)), some (.ref (w.1 g)), some (.int x3), some (.int (rF σ 5)), some (.int (rF σ9 5))] dX4_readHeld_75 (Nat.le_of_ble_eq_true rfl) rfl rfl rfl ?_
          refine g_iload X dX4_readHeld_77 rfl rfl ?_
          refine g_iconst X kI_2 dX4_readHeld_79 rfl ?_
          refine g_icmp_lt X dX4_readHeld_80 (tgt := 100) rfl rfl (fun c11 => ?_) (fun c11 => ?_)
          · replace h := if_t c11 h
            exact g_le (lle_s (lle_s (lle_0))) (ok_Reader_readHeld_b100 hb X Y hg hrp σ9 h)
          · replace h := if_f c11 h
            refine g_iload X dX4_readHeld_83 rfl rfl ?_
            refine g_iconst X kI_3 dX4_readHeld_85 rfl ?_
            refine g_icmp_gt X dX4_readHeld_86 (tgt := 100) rfl rfl (fun c12 => ?_) (fun c12 => ?_)
            · replace h := if_t c12 h
              exact g_le (lle_s (lle_s (lle_0))) (ok_Reader_readHeld_b100 hb X Y hg hrp σ9 h)
            · replace h := if_f c12 h
              refine g_aload_n X dX4_readHeld_89 rfl rfl ?_
              refine g_iload X dX4_readHeld_90 rfl rfl ?_
              refine g_iload X dX4_readHeld_92 rfl rfl ?_
              obtain ⟨r15, σ14, h13, h⟩ := bd_e h
              refine g_callVI X [.int (rF σ 5), .int (rF σ9 5)] (ok_Game_maySetHave X.inj h13) my_yX1_maySetHave mi_yX1_maySetHave ms_yX1_maySetHave ml_RX4_86 (go_ hg).1 (go_ hg).2.1 (go_ hg).2.2 (by omega) rfl dX4_readHeld_94 (Nat.le_of_ble_eq_true rfl) rfl rfl ?_
              refine g_if_ne X dX4_readHeld_97 (tgt := 107) rfl rfl (fun c16 => ?_) (fun c16 => ?_)
              · replace h := if_f c16 h
                refine g_aload_n X dX4_readHeld_107 rfl rfl ?_
                refine g_iload_n X dX4_readHeld_108 rfl rfl ?_
                refine g_iload X dX4_readHeld_109 rfl rfl ?_
                refine g_iload X dX4_readHeld_111 rfl rfl ?_
                obtain ⟨σ18, h17, h⟩ := bv_e h
                refine g_callVV X [.int x3, .int (rF σ 5), .int (rF σ9 5)] (ok_Game_putIntoSet X.inj h17) my_yX1_putIntoSet mi_yX1_putIntoSet ms_yX1_putIntoSet ml_RX4_89 (go_ hg).1 (go_ hg).2.1 (go_ hg).2.2 (by omega) rfl dX4_readHeld_113 (Nat.le_of_ble_eq_true rfl) rfl rfl ?_
                refine g_aload_n X dX4_readHeld_116 rfl rfl ?_
                obtain ⟨σ20, h19, h⟩ := bv_e h
                refine g_callVV X [] (ok_Tape_step X.inj h19) my_yX7_step mi_yX7_step ms_yX7_step ml_RX4_40 (by decide) rfl rfl (by omega) rfl dX4_readHeld_117 (Nat.le_of_ble_eq_true rfl) rfl rfl ?_
                refine g_iconst X kI_0 dX4_readHeld_120 rfl ?_
                refine g_istore X [some (.ref (w.1 3)), some (.ref (w.1 2)), some (.ref (w.1 g)), some (.int x3), some (.int (rF σ 5)), some (.int (rF σ9 5)), some (.int 0)] dX4_readHeld_121 (Nat.le_of_ble_eq_true rfl) rfl rfl rfl ?_
                exact g_le (lle_s (lle_s (lle_s (lle_s (lle_k (lle_s (lle_s (lle_0)))))))) (ok_Reader_readHeld_l123 hb X Y hg hrp σ20 h)
              · replace h := if_t c16 h
                exact g_le (lle_s (lle_s (lle_0))) (ok_Reader_readHeld_b100 hb X Y hg hrp σ14 h)
        · replace h := if_f c10 h
          refine g_aload_n X dX4_readHeld_64 rfl rfl ?_
          refine g_aload_n X dX4_readHeld_65 rfl rfl ?_
          refine g_iconst X kI_1 dX4_readHeld_66 rfl ?_
          obtain ⟨r23, σ22, h21, h⟩ := bd_e h
          refine g_callVI X [.ref (w.1 2), .int 1] (ok_Reader_fail X.inj h21) my_yX4_fail mi_yX4_fail ms_yX4_fail ml_RX4_36 (by decide) rfl rfl (by omega) rfl dX4_readHeld_67 (Nat.le_of_ble_eq_true rfl) rfl rfl ?_
          obtain ⟨c24, h⟩ := ck_e h
          obtain ⟨rfl, rfl⟩ := rt_e h
          exact g_zret X Y (isB_e c24) dX4_readHeld_70
      · replace h := if_t c7 h
        exact g_le (lle_s (lle_s (lle_0))) (ok_Reader_readHeld_b45 hb X Y hg hrp σ5 h)
  · replace h := if_f c1 h
    refine g_aload_n X dX4_readHeld_8 rfl rfl ?_
    refine g_aload_n X dX4_readHeld_9 rfl rfl ?_
    refine g_iconst X kI_1 dX4_readHeld_10 rfl ?_
    obtain ⟨r27, σ26, h25, h⟩ := bd_e h
    refine g_callVI X [.ref (w.1 2), .int 1] (ok_Reader_fail X.inj h25) my_yX4_fail mi_yX4_fail ms_yX4_fail ml_RX4_36 (by decide) rfl rfl (by omega) rfl dX4_readHeld_11 (Nat.le_of_ble_eq_true rfl) rfl rfl ?_
    obtain ⟨c28, h⟩ := ck_e h
    obtain ⟨rfl, rfl⟩ := rt_e h
    exact g_zret X Y (isB_e c28) dX4_readHeld_14

theorem dX4_readPlace_0 : decode cX4_readPlace 0 = .ok (.aload_n 1, 1) := by decide +kernel
theorem dX4_readPlace_1 : decode cX4_readPlace 1 = .ok (.getfield 33, 3) := by decide +kernel
theorem dX4_readPlace_4 : decode cX4_readPlace 4 = .ok (.istore 6, 2) := by decide +kernel
theorem dX4_readPlace_6 : decode cX4_readPlace 6 = .ok (.iload 6, 2) := by decide +kernel
theorem dX4_readPlace_8 : decode cX4_readPlace 8 = .ok (.ifCond .eq 28, 3) := by decide +kernel
theorem dX4_readPlace_11 : decode cX4_readPlace 11 = .ok (.iload 6, 2) := by decide +kernel
theorem dX4_readPlace_13 : decode cX4_readPlace 13 = .ok (.iconst 1, 1) := by decide +kernel
theorem dX4_readPlace_14 : decode cX4_readPlace 14 = .ok (.if_icmp .eq 22, 3) := by decide +kernel
theorem dX4_readPlace_17 : decode cX4_readPlace 17 = .ok (.iload 6, 2) := by decide +kernel
theorem dX4_readPlace_19 : decode cX4_readPlace 19 = .ok (.iconst 2, 1) := by decide +kernel
theorem dX4_readPlace_20 : decode cX4_readPlace 20 = .ok (.if_icmp .eq 16, 3) := by decide +kernel
theorem dX4_readPlace_23 : decode cX4_readPlace 23 = .ok (.iload 6, 2) := by decide +kernel
theorem dX4_readPlace_25 : decode cX4_readPlace 25 = .ok (.iconst 3, 1) := by decide +kernel
theorem dX4_readPlace_26 : decode cX4_readPlace 26 = .ok (.if_icmp .eq 10, 3) := by decide +kernel
theorem dX4_readPlace_29 : decode cX4_readPlace 29 = .ok (.aload_n 0, 1) := by decide +kernel
theorem dX4_readPlace_30 : decode cX4_readPlace 30 = .ok (.aload_n 1, 1) := by decide +kernel
theorem dX4_readPlace_31 : decode cX4_readPlace 31 = .ok (.iconst 1, 1) := by decide +kernel
theorem dX4_readPlace_32 : decode cX4_readPlace 32 = .ok (.invokevirtual 36, 3) := by decide +kernel
theorem dX4_readPlace_35 : decode cX4_readPlace 35 = .ok (.ireturn, 1) := by decide +kernel
theorem dX4_readPlace_36 : decode cX4_readPlace 36 = .ok (.iload_n 3, 1) := by decide +kernel
theorem dX4_readPlace_37 : decode cX4_readPlace 37 = .ok (.ldc 28, 2) := by decide +kernel
theorem dX4_readPlace_39 : decode cX4_readPlace 39 = .ok (.if_icmp .ne 7, 3) := by decide +kernel
theorem dX4_readPlace_42 : decode cX4_readPlace 42 = .ok (.iconst 0, 1) := by decide +kernel
theorem dX4_readPlace_43 : decode cX4_readPlace 43 = .ok (.goto 11, 3) := by decide +kernel
theorem dX4_readPlace_46 : decode cX4_readPlace 46 = .ok (.aload_n 2, 1) := by decide +kernel
theorem dX4_readPlace_47 : decode cX4_readPlace 47 = .ok (.getfield 49, 3) := by decide +kernel
theorem dX4_readPlace_50 : decode cX4_readPlace 50 = .ok (.iload_n 3, 1) := by decide +kernel
theorem dX4_readPlace_51 : decode cX4_readPlace 51 = .ok (.iaload, 1) := by decide +kernel
theorem dX4_readPlace_52 : decode cX4_readPlace 52 = .ok (.iconst 1, 1) := by decide +kernel
theorem dX4_readPlace_53 : decode cX4_readPlace 53 = .ok (.iadd, 1) := by decide +kernel
theorem dX4_readPlace_54 : decode cX4_readPlace 54 = .ok (.istore 7, 2) := by decide +kernel
theorem dX4_readPlace_56 : decode cX4_readPlace 56 = .ok (.aload_n 2, 1) := by decide +kernel
theorem dX4_readPlace_57 : decode cX4_readPlace 57 = .ok (.getfield 53, 3) := by decide +kernel
theorem dX4_readPlace_60 : decode cX4_readPlace 60 = .ok (.bipush 60, 2) := by decide +kernel
theorem dX4_readPlace_62 : decode cX4_readPlace 62 = .ok (.if_icmp .ge 15, 3) := by decide +kernel
theorem dX4_readPlace_65 : decode cX4_readPlace 65 = .ok (.iload 7, 2) := by decide +kernel
theorem dX4_readPlace_67 : decode cX4_readPlace 67 = .ok (.bipush 8, 2) := by decide +kernel
theorem dX4_readPlace_69 : decode cX4_readPlace 69 = .ok (.if_icmp .lt 15, 3) := by decide +kernel
theorem dX4_readPlace_72 : decode cX4_readPlace 72 = .ok (.iload 6, 2) := by decide +kernel
theorem dX4_readPlace_74 : decode cX4_readPlace 74 = .ok (.ifCond .eq 10, 3) := by decide +kernel
theorem dX4_readPlace_77 : decode cX4_readPlace 77 = .ok (.aload_n 0, 1) := by decide +kernel
theorem dX4_readPlace_78 : decode cX4_readPlace 78 = .ok (.aload_n 1, 1) := by decide +kernel
theorem dX4_readPlace_79 : decode cX4_readPlace 79 = .ok (.iconst 3, 1) := by decide +kernel
theorem dX4_readPlace_80 : decode cX4_readPlace 80 = .ok (.invokevirtual 36, 3) := by decide +kernel
theorem dX4_readPlace_83 : decode cX4_readPlace 83 = .ok (.ireturn, 1) := by decide +kernel
theorem dX4_readPlace_84 : decode cX4_readPlace 84 = .ok (.aload_n 2, 1) := by decide +kernel
theorem dX4_readPlace_85 : decode cX4_readPlace 85 = .ok (.iload 6, 2) := by decide +kernel
theorem dX4_readPlace_87 : decode cX4_readPlace 87 = .ok (.iload 7, 2) := by decide +kernel
theorem dX4_readPlace_89 : decode cX4_readPlace 89 = .ok (.iload_n 3, 1) := by decide +kernel
theorem dX4_readPlace_90 : decode cX4_readPlace 90 = .ok (.iload 4, 2) := by decide +kernel
theorem dX4_readPlace_92 : decode cX4_readPlace 92 = .ok (.iload 5, 2) := by decide +kernel
theorem dX4_readPlace_94 : decode cX4_readPlace 94 = .ok (.invokevirtual 56, 3) := by decide +kernel
theorem dX4_readPlace_97 : decode cX4_readPlace 97 = .ok (.istore 8, 2) := by decide +kernel
theorem dX4_readPlace_99 : decode cX4_readPlace 99 = .ok (.aload_n 1, 1) := by decide +kernel
theorem dX4_readPlace_100 : decode cX4_readPlace 100 = .ok (.invokevirtual 40, 3) := by decide +kernel
theorem dX4_readPlace_103 : decode cX4_readPlace 103 = .ok (.iload 6, 2) := by decide +kernel
theorem dX4_readPlace_105 : decode cX4_readPlace 105 = .ok (.ifCond .ne 12, 3) := by decide +kernel
theorem dX4_readPlace_108 : decode cX4_readPlace 108 = .ok (.aload_n 0, 1) := by decide +kernel
theorem dX4_readPlace_109 : decode cX4_readPlace 109 = .ok (.aload_n 1, 1) := by decide +kernel
theorem dX4_readPlace_110 : decode cX4_readPlace 110 = .ok (.aload_n 2, 1) := by decide +kernel
theorem dX4_readPlace_111 : decode cX4_readPlace 111 = .ok (.iload 8, 2) := by decide +kernel
theorem dX4_readPlace_113 : decode cX4_readPlace 113 = .ok (.invokevirtual 60, 3) := by decide +kernel
theorem dX4_readPlace_116 : decode cX4_readPlace 116 = .ok (.ireturn, 1) := by decide +kernel
theorem dX4_readPlace_117 : decode cX4_readPlace 117 = .ok (.iload 6, 2) := by decide +kernel
theorem dX4_readPlace_119 : decode cX4_readPlace 119 = .ok (.iconst 1, 1) := by decide +kernel
theorem dX4_readPlace_120 : decode cX4_readPlace 120 = .ok (.if_icmp .ne 14, 3) := by decide +kernel
theorem dX4_readPlace_123 : decode cX4_readPlace 123 = .ok (.aload_n 0, 1) := by decide +kernel
theorem dX4_readPlace_124 : decode cX4_readPlace 124 = .ok (.aload_n 1, 1) := by decide +kernel
theorem dX4_readPlace_125 : decode cX4_readPlace 125 = .ok (.aload_n 2, 1) := by decide +kernel
theorem dX4_readPlace_126 : decode cX4_readPlace 126 = .ok (.iload 8, 2) := by decide +kernel
theorem dX4_readPlace_128 : decode cX4_readPlace 128 = .ok (.invokevirtual 64, 3) := by decide +kernel
theorem dX4_readPlace_131 : decode cX4_readPlace 131 = .ok (.goto 11, 3) := by decide +kernel
theorem dX4_readPlace_134 : decode cX4_readPlace 134 = .ok (.aload_n 0, 1) := by decide +kernel
theorem dX4_readPlace_135 : decode cX4_readPlace 135 = .ok (.aload_n 1, 1) := by decide +kernel
theorem dX4_readPlace_136 : decode cX4_readPlace 136 = .ok (.aload_n 2, 1) := by decide +kernel
theorem dX4_readPlace_137 : decode cX4_readPlace 137 = .ok (.iload 8, 2) := by decide +kernel
theorem dX4_readPlace_139 : decode cX4_readPlace 139 = .ok (.invokevirtual 67, 3) := by decide +kernel
theorem dX4_readPlace_142 : decode cX4_readPlace 142 = .ok (.ireturn, 1) := by decide +kernel
def f_Reader_readPlace_b84 (g : Nat) (rp : Nat → Int32 → Int32 → Int32 → St → Option (Int32 × St)) (x3 : Int32) (x4 : Int32) (x5 : Int32) (x6 : Int32) (x7 : Int32) (σ : St) : Option (Int32 × St) :=
  bd (f_Game_add g x6 x7 x3 x4 x5 σ) fun r3 σ2 => bv (f_Tape_step σ2) fun σ5 => if x6 = 0 then (bd (f_Reader_readPay g r3 σ5) fun r18 σ17 => ck (isB r18) <| some (r18, σ17)) else (if x6 = 1 then (bd (f_Reader_readDeal rp g r3 σ5) fun r14 σ13 => ck (isB r14) <| some (r14, σ13)) else (bd (f_Reader_readHeld rp g r3 σ5) fun r10 σ9 => ck (isB r10) <| some (r10, σ9)))
set_option maxRecDepth 4000 in
theorem ok_Reader_readPlace_b84 {h0 : Nat} (hb : 20 ≤ h0) {E : gE} {w : wT} {σ' : St} {r : Int32} (X : gC E w cX4_readPlace 9 RX4 (h0 + 2)) (Y : gQ E w (some .boolean) (some (.int r)) σ') {g : Nat} (hg : isG g = true) {rp : Nat → Int32 → Int32 → Int32 → St → Option (Int32 × St)} (hrp : ∀ (g : Nat) (x3 x4 x5 : Int32) (σ σ' : St) (r : Int32), rp g x3 x4 x5 σ = some (r, σ') → gM w (eL E) yX4_readPlace cX4_readPlace 9 (some .boolean) h0 [.ref (w.1 3), .ref (w.1 2), .ref (w.1 g), .int x3, .int x4, .int x5] σ (some (.int r)) σ') {x3 : Int32} {x4 : Int32} {x5 : Int32} {x6 : Int32} {x7 : Int32} (σ : St) (h : f_Reader_readPlace_b84 g rp x3 x4 x5 x6 x7 σ = some (r, σ')) : gW E w 9 σ 84 [some (.ref (w.1 3)), some (.ref (w.1 2)), some (.ref (w.1 g)), some (.int x3), some (.int x4), some (.int x5), some (.int x6), some (.int x7)] [] := by
  unfold f_Reader_readPlace_b84 at h
  refine g_aload_n X dX4_readPlace_84 rfl rfl ?_
  refine g_iload X dX4_readPlace_85 rfl rfl ?_
  refine g_iload X dX4_readPlace_87 rfl rfl ?_
  refine g_iload_n X dX4_readPlace_89 rfl rfl ?_
  refine g_iload X dX4_readPlace_90 rfl rfl ?_
  refine g_iload X dX4_readPlace_92 rfl rfl ?_
  obtain ⟨r3, σ2, h1, h⟩ := bd_e h
  refine g_callVI X [.int x6, .int x7, .int x3, .int x4, .int x5] (ok_Game_add X.inj h1) my_yX1_add mi_yX1_add ms_yX1_add ml_RX4_56 (go_ hg).1 (go_ hg).2.1 (go_ hg).2.2 (by omega) rfl dX4_readPlace_94 (Nat.le_of_ble_eq_true rfl) rfl rfl ?_
  refine g_istore X [some (.ref (w.1 3)), some (.ref (w.1 2)), some (.ref (w.1 g)), some (.int x3), some (.int x4), some (.int x5), some (.int x6), some (.int x7), some (.int r3)] dX4_readPlace_97 (Nat.le_of_ble_eq_true rfl) rfl rfl rfl ?_
  refine g_aload_n X dX4_readPlace_99 rfl rfl ?_
  obtain ⟨σ5, h4, h⟩ := bv_e h
  refine g_callVV X [] (ok_Tape_step X.inj h4) my_yX7_step mi_yX7_step ms_yX7_step ml_RX4_40 (by decide) rfl rfl (by omega) rfl dX4_readPlace_100 (Nat.le_of_ble_eq_true rfl) rfl rfl ?_
  refine g_iload X dX4_readPlace_103 rfl rfl ?_
  refine g_if_ne X dX4_readPlace_105 (tgt := 117) rfl rfl (fun c6 => ?_) (fun c6 => ?_)
  · replace h := if_f c6 h
    refine g_iload X dX4_readPlace_117 rfl rfl ?_
    refine g_iconst X kI_1 dX4_readPlace_119 rfl ?_
    refine g_icmp_ne X dX4_readPlace_120 (tgt := 134) rfl rfl (fun c7 => ?_) (fun c7 => ?_)
    · replace h := if_f c7 h
      refine g_aload_n X dX4_readPlace_134 rfl rfl ?_
      refine g_aload_n X dX4_readPlace_135 rfl rfl ?_
      refine g_aload_n X dX4_readPlace_136 rfl rfl ?_
      refine g_iload X dX4_readPlace_137 rfl rfl ?_
      obtain ⟨r10, σ9, h8, h⟩ := bd_e h
      refine g_callVI X [.ref (w.1 2), .ref (w.1 g), .int r3] (ok_Reader_readHeld hb X.inj hrp h8) my_yX4_readHeld mi_yX4_readHeld ms_yX4_readHeld ml_RX4_67 (by decide) rfl rfl (by omega) rfl dX4_readPlace_139 (Nat.le_of_ble_eq_true rfl) rfl rfl ?_
      obtain ⟨c11, h⟩ := ck_e h
      obtain ⟨rfl, rfl⟩ := rt_e h
      exact g_zret X Y (isB_e c11) dX4_readPlace_142
    · replace h := if_t c7 h
      refine g_aload_n X dX4_readPlace_123 rfl rfl ?_
      refine g_aload_n X dX4_readPlace_124 rfl rfl ?_
      refine g_aload_n X dX4_readPlace_125 rfl rfl ?_
      refine g_iload X dX4_readPlace_126 rfl rfl ?_
      obtain ⟨r14, σ13, h12, h⟩ := bd_e h
      refine g_callVI X [.ref (w.1 2), .ref (w.1 g), .int r3] (ok_Reader_readDeal hb X.inj hrp h12) my_yX4_readDeal mi_yX4_readDeal ms_yX4_readDeal ml_RX4_64 (by decide) rfl rfl (by omega) rfl dX4_readPlace_128 (Nat.le_of_ble_eq_true rfl) rfl rfl ?_
      refine g_goto X dX4_readPlace_131 (tgt := 142) rfl ?_
      obtain ⟨c15, h⟩ := ck_e h
      obtain ⟨rfl, rfl⟩ := rt_e h
      exact g_zret X Y (isB_e c15) dX4_readPlace_142
  · replace h := if_t c6 h
    refine g_aload_n X dX4_readPlace_108 rfl rfl ?_
    refine g_aload_n X dX4_readPlace_109 rfl rfl ?_
    refine g_aload_n X dX4_readPlace_110 rfl rfl ?_
    refine g_iload X dX4_readPlace_111 rfl rfl ?_
    obtain ⟨r18, σ17, h16, h⟩ := bd_e h
    refine g_callVI X [.ref (w.1 2), .ref (w.1 g), .int r3] (ok_Reader_readPay X.inj h16) my_yX4_readPay mi_yX4_readPay ms_yX4_readPay ml_RX4_60 (by decide) rfl rfl (by omega) rfl dX4_readPlace_113 (Nat.le_of_ble_eq_true rfl) rfl rfl ?_
    obtain ⟨c19, h⟩ := ck_e h
    obtain ⟨rfl, rfl⟩ := rt_e h
    exact g_zret X Y (isB_e c19) dX4_readPlace_116

def f_Reader_readPlace_b77 (g : Nat) (rp : Nat → Int32 → Int32 → Int32 → St → Option (Int32 × St)) (σ : St) : Option (Int32 × St) :=
  bd (f_Reader_fail 3 σ) fun r3 σ2 => ck (isB r3) <| some (r3, σ2)
set_option maxRecDepth 4000 in
theorem ok_Reader_readPlace_b77 {h0 : Nat} (hb : 20 ≤ h0) {E : gE} {w : wT} {σ' : St} {r : Int32} (X : gC E w cX4_readPlace 9 RX4 (h0 + 2)) (Y : gQ E w (some .boolean) (some (.int r)) σ') {g : Nat} (hg : isG g = true) {rp : Nat → Int32 → Int32 → Int32 → St → Option (Int32 × St)} (hrp : ∀ (g : Nat) (x3 x4 x5 : Int32) (σ σ' : St) (r : Int32), rp g x3 x4 x5 σ = some (r, σ') → gM w (eL E) yX4_readPlace cX4_readPlace 9 (some .boolean) h0 [.ref (w.1 3), .ref (w.1 2), .ref (w.1 g), .int x3, .int x4, .int x5] σ (some (.int r)) σ') (σ : St) (h : f_Reader_readPlace_b77 g rp σ = some (r, σ')) : gW E w 9 σ 77 [some (.ref (w.1 3)), some (.ref (w.1 2))] [] := by
  unfold f_Reader_readPlace_b77 at h
  refine g_aload_n X dX4_readPlace_77 rfl rfl ?_
  refine g_aload_n X dX4_readPlace_78 rfl rfl ?_
  refine g_iconst X kI_3 dX4_readPlace_79 rfl ?_
  obtain ⟨r3, σ2, h1, h⟩ := bd_e h
  refine g_callVI X [.ref (w.1 2), .int 3] (ok_Reader_fail X.inj h1) my_yX4_fail mi_yX4_fail ms_yX4_fail ml_RX4_36 (by decide) rfl rfl (by omega) rfl dX4_readPlace_80 (Nat.le_of_ble_eq_true rfl) rfl rfl ?_
  obtain ⟨c4, h⟩ := ck_e h
  obtain ⟨rfl, rfl⟩ := rt_e h
  exact g_zret X Y (isB_e c4) dX4_readPlace_83

def f_Reader_readPlace_b54 (g : Nat) (rp : Nat → Int32 → Int32 → Int32 → St → Option (Int32 × St)) (x3 : Int32) (x4 : Int32) (x5 : Int32) (x6 : Int32) (xs0 : Int32) (σ : St) : Option (Int32 × St) :=
  if (60 : Int32) ≤ (rF σ (g + 10)) then (f_Reader_readPlace_b77 g rp σ) else (if xs0 < 8 then (f_Reader_readPlace_b84 g rp x3 x4 x5 x6 xs0 σ) else (if x6 = 0 then (f_Reader_readPlace_b84 g rp x3 x4 x5 x6 xs0 σ) else (f_Reader_readPlace_b77 g rp σ)))
set_option maxRecDepth 4000 in
theorem ok_Reader_readPlace_b54 {h0 : Nat} (hb : 20 ≤ h0) {E : gE} {w : wT} {σ' : St} {r : Int32} (X : gC E w cX4_readPlace 9 RX4 (h0 + 2)) (Y : gQ E w (some .boolean) (some (.int r)) σ') {g : Nat} (hg : isG g = true) {rp : Nat → Int32 → Int32 → Int32 → St → Option (Int32 × St)} (hrp : ∀ (g : Nat) (x3 x4 x5 : Int32) (σ σ' : St) (r : Int32), rp g x3 x4 x5 σ = some (r, σ') → gM w (eL E) yX4_readPlace cX4_readPlace 9 (some .boolean) h0 [.ref (w.1 3), .ref (w.1 2), .ref (w.1 g), .int x3, .int x4, .int x5] σ (some (.int r)) σ') {x3 : Int32} {x4 : Int32} {x5 : Int32} {x6 : Int32} {xs0 : Int32} (σ : St) (h : f_Reader_readPlace_b54 g rp x3 x4 x5 x6 xs0 σ = some (r, σ')) : gW E w 9 σ 54 [some (.ref (w.1 3)), some (.ref (w.1 2)), some (.ref (w.1 g)), some (.int x3), some (.int x4), some (.int x5), some (.int x6)] [.int xs0] := by
  unfold f_Reader_readPlace_b54 at h
  refine g_istore X [some (.ref (w.1 3)), some (.ref (w.1 2)), some (.ref (w.1 g)), some (.int x3), some (.int x4), some (.int x5), some (.int x6), some (.int xs0)] dX4_readPlace_54 (Nat.le_of_ble_eq_true rfl) rfl rfl rfl ?_
  refine g_aload_n X dX4_readPlace_56 rfl rfl ?_
  refine gf_RX4_53 hg X dX4_readPlace_57 rfl ?_
  refine g_bipush X kB_60 dX4_readPlace_60 rfl ?_
  refine g_icmp_ge X dX4_readPlace_62 (tgt := 77) rfl rfl (fun c1 => ?_) (fun c1 => ?_)
  · replace h := if_t c1 h
    exact g_le (lle_s (lle_s (lle_0))) (ok_Reader_readPlace_b77 hb X Y hg hrp σ h)
  · replace h := if_f c1 h
    refine g_iload X dX4_readPlace_65 rfl rfl ?_
    refine g_bipush X kB_8 dX4_readPlace_67 rfl ?_
    refine g_icmp_lt X dX4_readPlace_69 (tgt := 84) rfl rfl (fun c2 => ?_) (fun c2 => ?_)
    · replace h := if_t c2 h
      exact ok_Reader_readPlace_b84 hb X Y hg hrp σ h
    · replace h := if_f c2 h
      refine g_iload X dX4_readPlace_72 rfl rfl ?_
      refine g_if_eq X dX4_readPlace_74 (tgt := 84) rfl rfl (fun c3 => ?_) (fun c3 => ?_)
      · replace h := if_t c3 h
        exact ok_Reader_readPlace_b84 hb X Y hg hrp σ h
      · replace h := if_f c3 h
        exact g_le (lle_s (lle_s (lle_0))) (ok_Reader_readPlace_b77 hb X Y hg hrp σ h)

def f_Reader_readPlace_b36 (g : Nat) (rp : Nat → Int32 → Int32 → Int32 → St → Option (Int32 × St)) (x3 : Int32) (x4 : Int32) (x5 : Int32) (x6 : Int32) (σ : St) : Option (Int32 × St) :=
  if x3 = ((-1000000)) then (f_Reader_readPlace_b54 g rp x3 x4 x5 x6 0 σ) else (ck (ib x3 60) <| f_Reader_readPlace_b54 g rp x3 x4 x5 x6 ((rI σ (g + 6) x3) + 1) σ)
set_option maxRecDepth 4000 in
theorem ok_Reader_readPlace_b36 {h0 : Nat} (hb : 20 ≤ h0) {E : gE} {w : wT} {σ' : St} {r : Int32} (X : gC E w cX4_readPlace 9 RX4 (h0 + 2)) (Y : gQ E w (some .boolean) (some (.int r)) σ') {g : Nat} (hg : isG g = true) {rp : Nat → Int32 → Int32 → Int32 → St → Option (Int32 × St)} (hrp : ∀ (g : Nat) (x3 x4 x5 : Int32) (σ σ' : St) (r : Int32), rp g x3 x4 x5 σ = some (r, σ') → gM w (eL E) yX4_readPlace cX4_readPlace 9 (some .boolean) h0 [.ref (w.1 3), .ref (w.1 2), .ref (w.1 g), .int x3, .int x4, .int x5] σ (some (.int r)) σ') {x3 : Int32} {x4 : Int32} {x5 : Int32} {x6 : Int32} (σ : St) (h : f_Reader_readPlace_b36 g rp x3 x4 x5 x6 σ = some (r, σ')) : gW E w 9 σ 36 [some (.ref (w.1 3)), some (.ref (w.1 2)), some (.ref (w.1 g)), some (.int x3), some (.int x4), some (.int x5), some (.int x6)] [] := by
  unfold f_Reader_readPlace_b36 at h
  refine g_iload_n X dX4_readPlace_36 rfl rfl ?_
  refine g_ldc X dX4_readPlace_37 kc_RX4_28 rfl ?_
  refine g_icmp_ne X dX4_readPlace_39 (tgt := 46) rfl rfl (fun c1 => ?_) (fun c1 => ?_)
  · replace h := if_f c1 h
    refine g_aload_n X dX4_readPlace_46 rfl rfl ?_
    refine gf_RX4_49 hg X dX4_readPlace_47 rfl ?_
    refine g_iload_n X dX4_readPlace_50 rfl rfl ?_
    obtain ⟨c2, h⟩ := ck_e h
    refine g_iald X (ga_6 hg).1 (ga_6 hg).2.1 (ga_6 hg).2.2 (ib_e c2) dX4_readPlace_51 rfl ?_
    refine g_iconst X kI_1 dX4_readPlace_52 rfl ?_
    refine g_iadd X dX4_readPlace_53 rfl ?_
    exact ok_Reader_readPlace_b54 hb X Y hg hrp σ h
  · replace h := if_t c1 h
    refine g_iconst X kI_0 dX4_readPlace_42 rfl ?_
    refine g_goto X dX4_readPlace_43 (tgt := 54) rfl ?_
    exact ok_Reader_readPlace_b54 hb X Y hg hrp σ h

def f_Reader_readPlace (rp : Nat → Int32 → Int32 → Int32 → St → Option (Int32 × St)) (g : Nat) (x3 : Int32) (x4 : Int32) (x5 : Int32) (σ : St) : Option (Int32 × St) :=
  ck (isG g) <| if (rF σ 3) = 0 then (f_Reader_readPlace_b36 g rp x3 x4 x5 (rF σ 3) σ) else (if (rF σ 3) = 1 then (f_Reader_readPlace_b36 g rp x3 x4 x5 (rF σ 3) σ) else (if (rF σ 3) = 2 then (f_Reader_readPlace_b36 g rp x3 x4 x5 (rF σ 3) σ) else (if (rF σ 3) = 3 then (f_Reader_readPlace_b36 g rp x3 x4 x5 (rF σ 3) σ) else (bd (f_Reader_fail 1 σ) fun r7 σ6 => ck (isB r7) <| some (r7, σ6)))))
set_option maxRecDepth 4000 in
theorem ok_Reader_readPlace {h0 : Nat} (hb : 20 ≤ h0) {w : wT} (hi : wInj w) {l : Launch} {rp : Nat → Int32 → Int32 → Int32 → St → Option (Int32 × St)} (hrp : ∀ (g : Nat) (x3 x4 x5 : Int32) (σ σ' : St) (r : Int32), rp g x3 x4 x5 σ = some (r, σ') → gM w l yX4_readPlace cX4_readPlace 9 (some .boolean) h0 [.ref (w.1 3), .ref (w.1 2), .ref (w.1 g), .int x3, .int x4, .int x5] σ (some (.int r)) σ') {g : Nat} {x3 : Int32} {x4 : Int32} {x5 : Int32} {σ σ' : St} {r : Int32} (h : f_Reader_readPlace rp g x3 x4 x5 σ = some (r, σ')) : gM w l yX4_readPlace cX4_readPlace 9 (some .boolean) (h0 + 2) [.ref (w.1 3), .ref (w.1 2), .ref (w.1 g), .int x3, .int x4, .int x5] σ (some (.int r)) σ' := by
  unfold f_Reader_readPlace at h
  obtain ⟨hg, h⟩ := ck_e h
  refine gM_of hi (by decide) [some (.ref (w.1 3)), some (.ref (w.1 2)), some (.ref (w.1 g)), some (.int x3), some (.int x4), some (.int x5)] rfl (Nat.le_of_ble_eq_true rfl) (fun E hl X Y => ?_)
  subst hl
  refine g_aload_n X dX4_readPlace_0 rfl rfl ?_
  refine gf_RX4_33 X dX4_readPlace_1 rfl ?_
  refine g_istore X [some (.ref (w.1 3)), some (.ref (w.1 2)), some (.ref (w.1 g)), some (.int x3), some (.int x4), some (.int x5), some (.int (rF σ 3))] dX4_readPlace_4 (Nat.le_of_ble_eq_true rfl) rfl rfl rfl ?_
  refine g_iload X dX4_readPlace_6 rfl rfl ?_
  refine g_if_eq X dX4_readPlace_8 (tgt := 36) rfl rfl (fun c1 => ?_) (fun c1 => ?_)
  · replace h := if_t c1 h
    exact ok_Reader_readPlace_b36 hb X Y hg hrp σ h
  · replace h := if_f c1 h
    refine g_iload X dX4_readPlace_11 rfl rfl ?_
    refine g_iconst X kI_1 dX4_readPlace_13 rfl ?_
    refine g_icmp_eq X dX4_readPlace_14 (tgt := 36) rfl rfl (fun c2 => ?_) (fun c2 => ?_)
    · replace h := if_t c2 h
      exact ok_Reader_readPlace_b36 hb X Y hg hrp σ h
    · replace h := if_f c2 h
      refine g_iload X dX4_readPlace_17 rfl rfl ?_
      refine g_iconst X kI_2 dX4_readPlace_19 rfl ?_
      refine g_icmp_eq X dX4_readPlace_20 (tgt := 36) rfl rfl (fun c3 => ?_) (fun c3 => ?_)
      · replace h := if_t c3 h
        exact ok_Reader_readPlace_b36 hb X Y hg hrp σ h
      · replace h := if_f c3 h
        refine g_iload X dX4_readPlace_23 rfl rfl ?_
        refine g_iconst X kI_3 dX4_readPlace_25 rfl ?_
        refine g_icmp_eq X dX4_readPlace_26 (tgt := 36) rfl rfl (fun c4 => ?_) (fun c4 => ?_)
        · replace h := if_t c4 h
          exact ok_Reader_readPlace_b36 hb X Y hg hrp σ h
        · replace h := if_f c4 h
          refine g_aload_n X dX4_readPlace_29 rfl rfl ?_
          refine g_aload_n X dX4_readPlace_30 rfl rfl ?_
          refine g_iconst X kI_1 dX4_readPlace_31 rfl ?_
          obtain ⟨r7, σ6, h5, h⟩ := bd_e h
          refine g_callVI X [.ref (w.1 2), .int 1] (ok_Reader_fail X.inj h5) my_yX4_fail mi_yX4_fail ms_yX4_fail ml_RX4_36 (by decide) rfl rfl (by omega) rfl dX4_readPlace_32 (Nat.le_of_ble_eq_true rfl) rfl rfl ?_
          obtain ⟨c8, h⟩ := ck_e h
          obtain ⟨rfl, rfl⟩ := rt_e h
          exact g_zret X Y (isB_e c8) dX4_readPlace_35
def f_Reader_readPlaceR (d : Nat) : Nat → Int32 → Int32 → Int32 → St → Option (Int32 × St) := lp (fun _ _ _ _ _ => none) (fun rp g x3 x4 x5 σ => f_Reader_readPlace rp g x3 x4 x5 σ) d
theorem ok_Reader_readPlaceR {w : wT} (hi : wInj w) {l : Launch} : ∀ (d : Nat) {g : Nat} {x3 x4 x5 : Int32} {σ σ' : St} {r : Int32}, f_Reader_readPlaceR d g x3 x4 x5 σ = some (r, σ') → gM w l yX4_readPlace cX4_readPlace 9 (some .boolean) (20 + 2 * d) [.ref (w.1 3), .ref (w.1 2), .ref (w.1 g), .int x3, .int x4, .int x5] σ (some (.int r)) σ'
  | 0, _, _, _, _, _, _, _, h => nn h
  | d + 1, _, _, _, _, _, _, _, h => ok_Reader_readPlace (h0 := 20 + 2 * d) (by omega) hi (fun _ _ _ _ _ _ _ h1 => ok_Reader_readPlaceR hi d h1) h

theorem dX1_tellPast_0 : decode cX1_tellPast 0 = .ok (.iload_n 1, 1) := by decide +kernel
theorem dX1_tellPast_1 : decode cX1_tellPast 1 = .ok (.bipush 60, 2) := by decide +kernel
theorem dX1_tellPast_3 : decode cX1_tellPast 3 = .ok (.imul, 1) := by decide +kernel
theorem dX1_tellPast_4 : decode cX1_tellPast 4 = .ok (.istore_n 2, 1) := by decide +kernel
theorem dX1_tellPast_5 : decode cX1_tellPast 5 = .ok (.aload_n 0, 1) := by decide +kernel
theorem dX1_tellPast_6 : decode cX1_tellPast 6 = .ok (.getfield 46, 3) := by decide +kernel
theorem dX1_tellPast_9 : decode cX1_tellPast 9 = .ok (.iload_n 2, 1) := by decide +kernel
theorem dX1_tellPast_10 : decode cX1_tellPast 10 = .ok (.iconst 0, 1) := by decide +kernel
theorem dX1_tellPast_11 : decode cX1_tellPast 11 = .ok (.iastore, 1) := by decide +kernel
theorem dX1_tellPast_12 : decode cX1_tellPast 12 = .ok (.aload_n 0, 1) := by decide +kernel
theorem dX1_tellPast_13 : decode cX1_tellPast 13 = .ok (.getfield 49, 3) := by decide +kernel
theorem dX1_tellPast_16 : decode cX1_tellPast 16 = .ok (.iload_n 2, 1) := by decide +kernel
theorem dX1_tellPast_17 : decode cX1_tellPast 17 = .ok (.lconst 0, 1) := by decide +kernel
theorem dX1_tellPast_18 : decode cX1_tellPast 18 = .ok (.lastore, 1) := by decide +kernel
theorem dX1_tellPast_19 : decode cX1_tellPast 19 = .ok (.iconst 1, 1) := by decide +kernel
theorem dX1_tellPast_20 : decode cX1_tellPast 20 = .ok (.istore_n 3, 1) := by decide +kernel
theorem dX1_tellPast_21 : decode cX1_tellPast 21 = .ok (.iload_n 3, 1) := by decide +kernel
theorem dX1_tellPast_22 : decode cX1_tellPast 22 = .ok (.aload_n 0, 1) := by decide +kernel
theorem dX1_tellPast_23 : decode cX1_tellPast 23 = .ok (.getfield 9, 3) := by decide +kernel
theorem dX1_tellPast_26 : decode cX1_tellPast 26 = .ok (.if_icmp .ge 118, 3) := by decide +kernel
theorem dX1_tellPast_29 : decode cX1_tellPast 29 = .ok (.aload_n 0, 1) := by decide +kernel
theorem dX1_tellPast_30 : decode cX1_tellPast 30 = .ok (.getfield 28, 3) := by decide +kernel
theorem dX1_tellPast_33 : decode cX1_tellPast 33 = .ok (.iload_n 3, 1) := by decide +kernel
theorem dX1_tellPast_34 : decode cX1_tellPast 34 = .ok (.iaload, 1) := by decide +kernel
theorem dX1_tellPast_35 : decode cX1_tellPast 35 = .ok (.istore 4, 2) := by decide +kernel
theorem dX1_tellPast_37 : decode cX1_tellPast 37 = .ok (.aload_n 0, 1) := by decide +kernel
theorem dX1_tellPast_38 : decode cX1_tellPast 38 = .ok (.getfield 46, 3) := by decide +kernel
theorem dX1_tellPast_41 : decode cX1_tellPast 41 = .ok (.iload_n 2, 1) := by decide +kernel
theorem dX1_tellPast_42 : decode cX1_tellPast 42 = .ok (.iload_n 3, 1) := by decide +kernel
theorem dX1_tellPast_43 : decode cX1_tellPast 43 = .ok (.iadd, 1) := by decide +kernel
theorem dX1_tellPast_44 : decode cX1_tellPast 44 = .ok (.aload_n 0, 1) := by decide +kernel
theorem dX1_tellPast_45 : decode cX1_tellPast 45 = .ok (.getfield 46, 3) := by decide +kernel
theorem dX1_tellPast_48 : decode cX1_tellPast 48 = .ok (.iload_n 2, 1) := by decide +kernel
theorem dX1_tellPast_49 : decode cX1_tellPast 49 = .ok (.iload 4, 2) := by decide +kernel
theorem dX1_tellPast_51 : decode cX1_tellPast 51 = .ok (.iadd, 1) := by decide +kernel
theorem dX1_tellPast_52 : decode cX1_tellPast 52 = .ok (.iaload, 1) := by decide +kernel
theorem dX1_tellPast_53 : decode cX1_tellPast 53 = .ok (.iastore, 1) := by decide +kernel
theorem dX1_tellPast_54 : decode cX1_tellPast 54 = .ok (.aload_n 0, 1) := by decide +kernel
theorem dX1_tellPast_55 : decode cX1_tellPast 55 = .ok (.getfield 49, 3) := by decide +kernel
theorem dX1_tellPast_58 : decode cX1_tellPast 58 = .ok (.iload_n 2, 1) := by decide +kernel
theorem dX1_tellPast_59 : decode cX1_tellPast 59 = .ok (.iload_n 3, 1) := by decide +kernel
theorem dX1_tellPast_60 : decode cX1_tellPast 60 = .ok (.iadd, 1) := by decide +kernel
theorem dX1_tellPast_61 : decode cX1_tellPast 61 = .ok (.aload_n 0, 1) := by decide +kernel
theorem dX1_tellPast_62 : decode cX1_tellPast 62 = .ok (.getfield 49, 3) := by decide +kernel
theorem dX1_tellPast_65 : decode cX1_tellPast 65 = .ok (.iload_n 2, 1) := by decide +kernel
theorem dX1_tellPast_66 : decode cX1_tellPast 66 = .ok (.iload 4, 2) := by decide +kernel
theorem dX1_tellPast_68 : decode cX1_tellPast 68 = .ok (.iadd, 1) := by decide +kernel
theorem dX1_tellPast_69 : decode cX1_tellPast 69 = .ok (.laload, 1) := by decide +kernel
theorem dX1_tellPast_70 : decode cX1_tellPast 70 = .ok (.lastore, 1) := by decide +kernel
theorem dX1_tellPast_71 : decode cX1_tellPast 71 = .ok (.aload_n 0, 1) := by decide +kernel
theorem dX1_tellPast_72 : decode cX1_tellPast 72 = .ok (.getfield 15, 3) := by decide +kernel
theorem dX1_tellPast_75 : decode cX1_tellPast 75 = .ok (.iload 4, 2) := by decide +kernel
theorem dX1_tellPast_77 : decode cX1_tellPast 77 = .ok (.iaload, 1) := by decide +kernel
theorem dX1_tellPast_78 : decode cX1_tellPast 78 = .ok (.iconst 2, 1) := by decide +kernel
theorem dX1_tellPast_79 : decode cX1_tellPast 79 = .ok (.iload_n 1, 1) := by decide +kernel
theorem dX1_tellPast_80 : decode cX1_tellPast 80 = .ok (.iadd, 1) := by decide +kernel
theorem dX1_tellPast_81 : decode cX1_tellPast 81 = .ok (.if_icmp .ne 57, 3) := by decide +kernel
theorem dX1_tellPast_84 : decode cX1_tellPast 84 = .ok (.aload_n 0, 1) := by decide +kernel
theorem dX1_tellPast_85 : decode cX1_tellPast 85 = .ok (.getfield 46, 3) := by decide +kernel
theorem dX1_tellPast_88 : decode cX1_tellPast 88 = .ok (.iload_n 2, 1) := by decide +kernel
theorem dX1_tellPast_89 : decode cX1_tellPast 89 = .ok (.iload_n 3, 1) := by decide +kernel
theorem dX1_tellPast_90 : decode cX1_tellPast 90 = .ok (.iadd, 1) := by decide +kernel
theorem dX1_tellPast_91 : decode cX1_tellPast 91 = .ok (.dup2, 1) := by decide +kernel
theorem dX1_tellPast_92 : decode cX1_tellPast 92 = .ok (.iaload, 1) := by decide +kernel
theorem dX1_tellPast_93 : decode cX1_tellPast 93 = .ok (.iconst 1, 1) := by decide +kernel
theorem dX1_tellPast_94 : decode cX1_tellPast 94 = .ok (.iadd, 1) := by decide +kernel
theorem dX1_tellPast_95 : decode cX1_tellPast 95 = .ok (.iastore, 1) := by decide +kernel
theorem dX1_tellPast_96 : decode cX1_tellPast 96 = .ok (.aload_n 0, 1) := by decide +kernel
theorem dX1_tellPast_97 : decode cX1_tellPast 97 = .ok (.getfield 49, 3) := by decide +kernel
theorem dX1_tellPast_100 : decode cX1_tellPast 100 = .ok (.iload_n 2, 1) := by decide +kernel
theorem dX1_tellPast_101 : decode cX1_tellPast 101 = .ok (.iload_n 3, 1) := by decide +kernel
theorem dX1_tellPast_102 : decode cX1_tellPast 102 = .ok (.iadd, 1) := by decide +kernel
theorem dX1_tellPast_103 : decode cX1_tellPast 103 = .ok (.aload_n 0, 1) := by decide +kernel
theorem dX1_tellPast_104 : decode cX1_tellPast 104 = .ok (.getfield 49, 3) := by decide +kernel
theorem dX1_tellPast_107 : decode cX1_tellPast 107 = .ok (.iload_n 2, 1) := by decide +kernel
theorem dX1_tellPast_108 : decode cX1_tellPast 108 = .ok (.iload 4, 2) := by decide +kernel
theorem dX1_tellPast_110 : decode cX1_tellPast 110 = .ok (.iadd, 1) := by decide +kernel
theorem dX1_tellPast_111 : decode cX1_tellPast 111 = .ok (.laload, 1) := by decide +kernel
theorem dX1_tellPast_112 : decode cX1_tellPast 112 = .ok (.ldc2_w 84, 3) := by decide +kernel
theorem dX1_tellPast_115 : decode cX1_tellPast 115 = .ok (.lmul, 1) := by decide +kernel
theorem dX1_tellPast_116 : decode cX1_tellPast 116 = .ok (.aload_n 0, 1) := by decide +kernel
theorem dX1_tellPast_117 : decode cX1_tellPast 117 = .ok (.getfield 22, 3) := by decide +kernel
theorem dX1_tellPast_120 : decode cX1_tellPast 120 = .ok (.iload 4, 2) := by decide +kernel
theorem dX1_tellPast_122 : decode cX1_tellPast 122 = .ok (.iaload, 1) := by decide +kernel
theorem dX1_tellPast_123 : decode cX1_tellPast 123 = .ok (.iconst 3, 1) := by decide +kernel
theorem dX1_tellPast_124 : decode cX1_tellPast 124 = .ok (.imul, 1) := by decide +kernel
theorem dX1_tellPast_125 : decode cX1_tellPast 125 = .ok (.i2l, 1) := by decide +kernel
theorem dX1_tellPast_126 : decode cX1_tellPast 126 = .ok (.ladd, 1) := by decide +kernel
theorem dX1_tellPast_127 : decode cX1_tellPast 127 = .ok (.aload_n 0, 1) := by decide +kernel
theorem dX1_tellPast_128 : decode cX1_tellPast 128 = .ok (.getfield 34, 3) := by decide +kernel
theorem dX1_tellPast_131 : decode cX1_tellPast 131 = .ok (.iload_n 3, 1) := by decide +kernel
theorem dX1_tellPast_132 : decode cX1_tellPast 132 = .ok (.iaload, 1) := by decide +kernel
theorem dX1_tellPast_133 : decode cX1_tellPast 133 = .ok (.i2l, 1) := by decide +kernel
theorem dX1_tellPast_134 : decode cX1_tellPast 134 = .ok (.ladd, 1) := by decide +kernel
theorem dX1_tellPast_135 : decode cX1_tellPast 135 = .ok (.lconst 1, 1) := by decide +kernel
theorem dX1_tellPast_136 : decode cX1_tellPast 136 = .ok (.ladd, 1) := by decide +kernel
theorem dX1_tellPast_137 : decode cX1_tellPast 137 = .ok (.lastore, 1) := by decide +kernel
theorem dX1_tellPast_138 : decode cX1_tellPast 138 = .ok (.iinc 3 1, 3) := by decide +kernel
theorem dX1_tellPast_141 : decode cX1_tellPast 141 = .ok (.goto (-120), 3) := by decide +kernel
theorem dX1_tellPast_144 : decode cX1_tellPast 144 = .ok (.return_, 1) := by decide +kernel
def f_Game_tellPast_b138 (g : Nat) (k21 : Int32 → Int32 → Int32 → St → Option St) (x1 : Int32) (x2 : Int32) (x3 : Int32) (σ : St) : Option St :=
  k21 x1 x2 (x3 + 1) σ
set_option maxRecDepth 4000 in
theorem ok_Game_tellPast_b138 {E : gE} {w : wT} {σ' : St} (X : gC E w cX1_tellPast 5 RX1 1) (Y : gQ E w none none σ') {g : Nat} (hg : isG g = true) {k21 : Int32 → Int32 → Int32 → St → Option St} (hk21 : ∀ (x1 : Int32) (x2 : Int32) (x3 : Int32) (σ : St), k21 x1 x2 x3 σ = some σ' → gW E w 5 σ 21 [some (.ref (w.1 g)), some (.int x1), some (.int x2), some (.int x3)] []) {x1 : Int32} {x2 : Int32} {x3 : Int32} (σ : St) (h : f_Game_tellPast_b138 g k21 x1 x2 x3 σ = some σ') : gW E w 5 σ 138 [some (.ref (w.1 g)), some (.int x1), some (.int x2), some (.int x3)] [] := by
  unfold f_Game_tellPast_b138 at h
  refine g_iinc X [some (.ref (w.1 g)), some (.int x1), some (.int x2), some (.int (x3 + 1))] dX1_tellPast_138 rfl (ii_1 x3) (Nat.le_of_ble_eq_true rfl) rfl rfl rfl ?_
  refine g_goto X dX1_tellPast_141 (tgt := 21) rfl ?_
  exact hk21 x1 x2 (x3 + 1) σ h

def f_Game_tellPast_b21 (g : Nat) (k21 : Int32 → Int32 → Int32 → St → Option St) (x1 : Int32) (x2 : Int32) (x3 : Int32) (σ : St) : Option St :=
  if (rF σ (g + 10)) ≤ x3 then (some σ) else (ck (ib x3 60) <| ck (ib (x2 + (rI σ (g + 5) x3)) 120) <| ck (ib (x2 + x3) 120) <| lE (stA σ (g + 11) (x2 + x3).toNatClampNeg (rI σ (g + 11) (x2 + (rI σ (g + 5) x3)))) fun σ5 => ck (ib (x2 + (rI σ (g + 5) x3)) 120) <| ck (ib (x2 + x3) 120) <| lE (stL σ5 (g + 12) (x2 + x3).toNatClampNeg (rL σ5 (g + 12) (x2 + (rI σ (g + 5) x3)))) fun σ9 => ck (ib (rI σ (g + 5) x3) 60) <| if (rI σ9 (g + 1) (rI σ (g + 5) x3)) = (2 + x1) then (ck (ib (x2 + x3) 120) <| ck (ib (x2 + x3) 120) <| lE (stA σ9 (g + 11) (x2 + x3).toNatClampNeg ((rI σ9 (g + 11) (x2 + x3)) + 1)) fun σ15 => ck (ib (x2 + (rI σ (g + 5) x3)) 120) <| ck (ib (rI σ (g + 5) x3) 60) <| ck (ib x3 60) <| ck (ib (x2 + x3) 120) <| lE (stL σ15 (g + 12) (x2 + x3).toNatClampNeg (((((rL σ15 (g + 12) (x2 + (rI σ (g + 5) x3))) * 31) + (((rI σ15 (g + 3) (rI σ (g + 5) x3)) * 3).toInt64)) + ((rI σ15 (g + 7) x3).toInt64)) + 1)) fun σ21 => f_Game_tellPast_b138 g k21 x1 x2 x3 σ21) else (f_Game_tellPast_b138 g k21 x1 x2 x3 σ9))
set_option maxRecDepth 4000 in
theorem ok_Game_tellPast_b21 {E : gE} {w : wT} {σ' : St} (X : gC E w cX1_tellPast 5 RX1 1) (Y : gQ E w none none σ') {g : Nat} (hg : isG g = true) {k21 : Int32 → Int32 → Int32 → St → Option St} (hk21 : ∀ (x1 : Int32) (x2 : Int32) (x3 : Int32) (σ : St), k21 x1 x2 x3 σ = some σ' → gW E w 5 σ 21 [some (.ref (w.1 g)), some (.int x1), some (.int x2), some (.int x3)] []) {x1 : Int32} {x2 : Int32} {x3 : Int32} (σ : St) (h : f_Game_tellPast_b21 g k21 x1 x2 x3 σ = some σ') : gW E w 5 σ 21 [some (.ref (w.1 g)), some (.int x1), some (.int x2), some (.int x3)] [] := by
  unfold f_Game_tellPast_b21 at h
  refine g_iload_n X dX1_tellPast_21 rfl rfl ?_
  refine g_aload_n X dX1_tellPast_22 rfl rfl ?_
  refine gf_RX1_9 hg X dX1_tellPast_23 rfl ?_
  refine g_icmp_ge X dX1_tellPast_26 (tgt := 144) rfl rfl (fun c1 => ?_) (fun c1 => ?_)
  · replace h := if_t c1 h
    obtain rfl := rv_e h
    exact g_vret X Y dX1_tellPast_144
  · replace h := if_f c1 h
    refine g_aload_n X dX1_tellPast_29 rfl rfl ?_
    refine gf_RX1_28 hg X dX1_tellPast_30 rfl ?_
    refine g_iload_n X dX1_tellPast_33 rfl rfl ?_
    obtain ⟨c2, h⟩ := ck_e h
    refine g_iald X (ga_5 hg).1 (ga_5 hg).2.1 (ga_5 hg).2.2 (ib_e c2) dX1_tellPast_34 rfl ?_
    refine g_istore X [some (.ref (w.1 g)), some (.int x1), some (.int x2), some (.int x3), some (.int (rI σ (g + 5) x3))] dX1_tellPast_35 (Nat.le_of_ble_eq_true rfl) rfl rfl rfl ?_
    refine g_aload_n X dX1_tellPast_37 rfl rfl ?_
    refine gf_RX1_46 hg X dX1_tellPast_38 rfl ?_
    refine g_iload_n X dX1_tellPast_41 rfl rfl ?_
    refine g_iload_n X dX1_tellPast_42 rfl rfl ?_
    refine g_iadd X dX1_tellPast_43 rfl ?_
    refine g_aload_n X dX1_tellPast_44 rfl rfl ?_
    refine gf_RX1_46 hg X dX1_tellPast_45 rfl ?_
    refine g_iload_n X dX1_tellPast_48 rfl rfl ?_
    refine g_iload X dX1_tellPast_49 rfl rfl ?_
    refine g_iadd X dX1_tellPast_51 rfl ?_
    obtain ⟨c3, h⟩ := ck_e h
    refine g_iald X (ga_11 hg).1 (ga_11 hg).2.1 (ga_11 hg).2.2 (ib_e c3) dX1_tellPast_52 rfl ?_
    obtain ⟨c4, h⟩ := ck_e h
    refine g_iast X (ga_11 hg).1 (ga_11 hg).2.1 (ga_11 hg).2.2 (ib_e c4) dX1_tellPast_53 rfl (fun σ5 e6 => ?_)
    replace h := lE_c e6 h
    refine g_aload_n X dX1_tellPast_54 rfl rfl ?_
    refine gf_RX1_49 hg X dX1_tellPast_55 rfl ?_
    refine g_iload_n X dX1_tellPast_58 rfl rfl ?_
    refine g_iload_n X dX1_tellPast_59 rfl rfl ?_
    refine g_iadd X dX1_tellPast_60 rfl ?_
    refine g_aload_n X dX1_tellPast_61 rfl rfl ?_
    refine gf_RX1_49 hg X dX1_tellPast_62 rfl ?_
    refine g_iload_n X dX1_tellPast_65 rfl rfl ?_
    refine g_iload X dX1_tellPast_66 rfl rfl ?_
    refine g_iadd X dX1_tellPast_68 rfl ?_
    obtain ⟨c7, h⟩ := ck_e h
    refine g_lald X (ga_12 hg).1 (ga_12 hg).2.1 (ga_12 hg).2.2 (ib_e c7) dX1_tellPast_69 rfl ?_
    obtain ⟨c8, h⟩ := ck_e h
    refine g_last X (ga_12 hg).1 (ga_12 hg).2.1 (ga_12 hg).2.2 (ib_e c8) dX1_tellPast_70 rfl (fun σ9 e10 => ?_)
    replace h := lE_c e10 h
    refine g_aload_n X dX1_tellPast_71 rfl rfl ?_
    refine gf_RX1_15 hg X dX1_tellPast_72 rfl ?_
    refine g_iload X dX1_tellPast_75 rfl rfl ?_
    obtain ⟨c11, h⟩ := ck_e h
    refine g_iald X (ga_1 hg).1 (ga_1 hg).2.1 (ga_1 hg).2.2 (ib_e c11) dX1_tellPast_77 rfl ?_
    refine g_iconst X kI_2 dX1_tellPast_78 rfl ?_
    refine g_iload_n X dX1_tellPast_79 rfl rfl ?_
    refine g_iadd X dX1_tellPast_80 rfl ?_
    refine g_icmp_ne X dX1_tellPast_81 (tgt := 138) rfl rfl (fun c12 => ?_) (fun c12 => ?_)
    · replace h := if_f c12 h
      exact g_le (lle_s (lle_s (lle_s (lle_s (lle_0))))) (ok_Game_tellPast_b138 X Y hg hk21 σ9 h)
    · replace h := if_t c12 h
      refine g_aload_n X dX1_tellPast_84 rfl rfl ?_
      refine gf_RX1_46 hg X dX1_tellPast_85 rfl ?_
      refine g_iload_n X dX1_tellPast_88 rfl rfl ?_
      refine g_iload_n X dX1_tellPast_89 rfl rfl ?_
      refine g_iadd X dX1_tellPast_90 rfl ?_
      refine g_dup2 X dX1_tellPast_91 rfl rfl rfl ?_
      obtain ⟨c13, h⟩ := ck_e h
      refine g_iald X (ga_11 hg).1 (ga_11 hg).2.1 (ga_11 hg).2.2 (ib_e c13) dX1_tellPast_92 rfl ?_
      refine g_iconst X kI_1 dX1_tellPast_93 rfl ?_
      refine g_iadd X dX1_tellPast_94 rfl ?_
      obtain ⟨c14, h⟩ := ck_e h
      refine g_iast X (ga_11 hg).1 (ga_11 hg).2.1 (ga_11 hg).2.2 (ib_e c14) dX1_tellPast_95 rfl (fun σ15 e16 => ?_)
      replace h := lE_c e16 h
      refine g_aload_n X dX1_tellPast_96 rfl rfl ?_
      refine gf_RX1_49 hg X dX1_tellPast_97 rfl ?_
      refine g_iload_n X dX1_tellPast_100 rfl rfl ?_
      refine g_iload_n X dX1_tellPast_101 rfl rfl ?_
      refine g_iadd X dX1_tellPast_102 rfl ?_
      refine g_aload_n X dX1_tellPast_103 rfl rfl ?_
      refine gf_RX1_49 hg X dX1_tellPast_104 rfl ?_
      refine g_iload_n X dX1_tellPast_107 rfl rfl ?_
      refine g_iload X dX1_tellPast_108 rfl rfl ?_
      refine g_iadd X dX1_tellPast_110 rfl ?_
      obtain ⟨c17, h⟩ := ck_e h
      refine g_lald X (ga_12 hg).1 (ga_12 hg).2.1 (ga_12 hg).2.2 (ib_e c17) dX1_tellPast_111 rfl ?_
      refine g_ldc2 X dX1_tellPast_112 kc_RX1_84 rfl ?_
      refine g_lmul X dX1_tellPast_115 rfl ?_
      refine g_aload_n X dX1_tellPast_116 rfl rfl ?_
      refine gf_RX1_22 hg X dX1_tellPast_117 rfl ?_
      refine g_iload X dX1_tellPast_120 rfl rfl ?_
      obtain ⟨c18, h⟩ := ck_e h
      refine g_iald X (ga_3 hg).1 (ga_3 hg).2.1 (ga_3 hg).2.2 (ib_e c18) dX1_tellPast_122 rfl ?_
      refine g_iconst X kI_3 dX1_tellPast_123 rfl ?_
      refine g_imul X dX1_tellPast_124 rfl ?_
      refine g_i2l X dX1_tellPast_125 rfl ?_
      refine g_ladd X dX1_tellPast_126 rfl ?_
      refine g_aload_n X dX1_tellPast_127 rfl rfl ?_
      refine gf_RX1_34 hg X dX1_tellPast_128 rfl ?_
      refine g_iload_n X dX1_tellPast_131 rfl rfl ?_
      obtain ⟨c19, h⟩ := ck_e h
      refine g_iald X (ga_7 hg).1 (ga_7 hg).2.1 (ga_7 hg).2.2 (ib_e c19) dX1_tellPast_132 rfl ?_
      refine g_i2l X dX1_tellPast_133 rfl ?_
      refine g_ladd X dX1_tellPast_134 rfl ?_
      refine g_lconst X kL_1 dX1_tellPast_135 rfl ?_
      refine g_ladd X dX1_tellPast_136 rfl ?_
      obtain ⟨c20, h⟩ := ck_e h
      refine g_last X (ga_12 hg).1 (ga_12 hg).2.1 (ga_12 hg).2.2 (ib_e c20) dX1_tellPast_137 rfl (fun σ21 e22 => ?_)
      replace h := lE_c e22 h
      exact g_le (lle_s (lle_s (lle_s (lle_s (lle_0))))) (ok_Game_tellPast_b138 X Y hg hk21 σ21 h)
def f_Game_tellPast_l21 (g : Nat) : Int32 → Int32 → Int32 → St → Option St := lp (fun _ _ _ _ => none) (f_Game_tellPast_b21 g) FU
theorem ok_Game_tellPast_l21 {E : gE} {w : wT} {σ' : St} (X : gC E w cX1_tellPast 5 RX1 1) (Y : gQ E w none none σ') {g : Nat} (hg : isG g = true) {x1 : Int32} {x2 : Int32} {x3 : Int32} (σ : St) (h : f_Game_tellPast_l21 g x1 x2 x3 σ = some σ') : gW E w 5 σ 21 [some (.ref (w.1 g)), some (.int x1), some (.int x2), some (.int x3)] [] :=
  lp_ind (P := fun (k : Int32 → Int32 → Int32 → St → Option St) => ∀ (x1 : Int32) (x2 : Int32) (x3 : Int32) (σ : St), k x1 x2 x3 σ = some σ' → gW E w 5 σ 21 [some (.ref (w.1 g)), some (.int x1), some (.int x2), some (.int x3)] []) (fun _ _ _ _ hh => nn hh) (fun k hk x1 x2 x3 σ  hh => ok_Game_tellPast_b21 X Y hg hk σ hh) FU x1 x2 x3 σ  h

def f_Game_tellPast (g : Nat) (x1 : Int32) (σ : St) : Option St :=
  ck (isG g) <| ck (ib (x1 * 60) 120) <| lE (stA σ (g + 11) (x1 * 60).toNatClampNeg 0) fun σ2 => ck (ib (x1 * 60) 120) <| lE (stL σ2 (g + 12) (x1 * 60).toNatClampNeg 0) fun σ5 => f_Game_tellPast_l21 g x1 (x1 * 60) 1 σ5
set_option maxRecDepth 4000 in
theorem ok_Game_tellPast {w : wT} (hi : wInj w) {l : Launch} {g : Nat} {x1 : Int32} {σ σ' : St} (h : f_Game_tellPast g x1 σ = some σ') : gM w l yX1_tellPast cX1_tellPast 5 none 1 [.ref (w.1 g), .int x1] σ none σ' := by
  unfold f_Game_tellPast at h
  obtain ⟨hg, h⟩ := ck_e h
  refine gM_of hi (by decide) [some (.ref (w.1 g)), some (.int x1)] rfl (Nat.le_of_ble_eq_true rfl) (fun E hl X Y => ?_)
  refine g_iload_n X dX1_tellPast_0 rfl rfl ?_
  refine g_bipush X kB_60 dX1_tellPast_1 rfl ?_
  refine g_imul X dX1_tellPast_3 rfl ?_
  refine g_istore_n X [some (.ref (w.1 g)), some (.int x1), some (.int (x1 * 60))] dX1_tellPast_4 (Nat.le_of_ble_eq_true rfl) rfl rfl rfl ?_
  refine g_aload_n X dX1_tellPast_5 rfl rfl ?_
  refine gf_RX1_46 hg X dX1_tellPast_6 rfl ?_
  refine g_iload_n X dX1_tellPast_9 rfl rfl ?_
  refine g_iconst X kI_0 dX1_tellPast_10 rfl ?_
  obtain ⟨c1, h⟩ := ck_e h
  refine g_iast X (ga_11 hg).1 (ga_11 hg).2.1 (ga_11 hg).2.2 (ib_e c1) dX1_tellPast_11 rfl (fun σ2 e3 => ?_)
  replace h := lE_c e3 h
  refine g_aload_n X dX1_tellPast_12 rfl rfl ?_
  refine gf_RX1_49 hg X dX1_tellPast_13 rfl ?_
  refine g_iload_n X dX1_tellPast_16 rfl rfl ?_
  refine g_lconst X kL_0 dX1_tellPast_17 rfl ?_
  obtain ⟨c4, h⟩ := ck_e h
  refine g_last X (ga_12 hg).1 (ga_12 hg).2.1 (ga_12 hg).2.2 (ib_e c4) dX1_tellPast_18 rfl (fun σ5 e6 => ?_)
  replace h := lE_c e6 h
  refine g_iconst X kI_1 dX1_tellPast_19 rfl ?_
  refine g_istore_n X [some (.ref (w.1 g)), some (.int x1), some (.int (x1 * 60)), some (.int 1)] dX1_tellPast_20 (Nat.le_of_ble_eq_true rfl) rfl rfl rfl ?_
  exact ok_Game_tellPast_l21 X Y hg σ5 h

theorem dX1_isHeld_0 : decode cX1_isHeld 0 = .ok (.aload_n 0, 1) := by decide +kernel
theorem dX1_isHeld_1 : decode cX1_isHeld 1 = .ok (.getfield 15, 3) := by decide +kernel
theorem dX1_isHeld_4 : decode cX1_isHeld 4 = .ok (.iload_n 1, 1) := by decide +kernel
theorem dX1_isHeld_5 : decode cX1_isHeld 5 = .ok (.iaload, 1) := by decide +kernel
theorem dX1_isHeld_6 : decode cX1_isHeld 6 = .ok (.iconst 2, 1) := by decide +kernel
theorem dX1_isHeld_7 : decode cX1_isHeld 7 = .ok (.if_icmp .eq 13, 3) := by decide +kernel
theorem dX1_isHeld_10 : decode cX1_isHeld 10 = .ok (.aload_n 0, 1) := by decide +kernel
theorem dX1_isHeld_11 : decode cX1_isHeld 11 = .ok (.getfield 15, 3) := by decide +kernel
theorem dX1_isHeld_14 : decode cX1_isHeld 14 = .ok (.iload_n 1, 1) := by decide +kernel
theorem dX1_isHeld_15 : decode cX1_isHeld 15 = .ok (.iaload, 1) := by decide +kernel
theorem dX1_isHeld_16 : decode cX1_isHeld 16 = .ok (.iconst 3, 1) := by decide +kernel
theorem dX1_isHeld_17 : decode cX1_isHeld 17 = .ok (.if_icmp .ne 7, 3) := by decide +kernel
theorem dX1_isHeld_20 : decode cX1_isHeld 20 = .ok (.iconst 1, 1) := by decide +kernel
theorem dX1_isHeld_21 : decode cX1_isHeld 21 = .ok (.goto 4, 3) := by decide +kernel
theorem dX1_isHeld_24 : decode cX1_isHeld 24 = .ok (.iconst 0, 1) := by decide +kernel
theorem dX1_isHeld_25 : decode cX1_isHeld 25 = .ok (.ireturn, 1) := by decide +kernel
def f_Game_isHeld_b20 (g : Nat) (σ : St) : Option (Int32 × St) :=
  some (1, σ)
set_option maxRecDepth 4000 in
theorem ok_Game_isHeld_b20 {E : gE} {w : wT} {σ' : St} {r : Int32} (X : gC E w cX1_isHeld 2 RX1 1) (Y : gQ E w (some .boolean) (some (.int r)) σ') {g : Nat} (hg : isG g = true) (σ : St) (h : f_Game_isHeld_b20 g σ = some (r, σ')) : gW E w 2 σ 20 [] [] := by
  unfold f_Game_isHeld_b20 at h
  refine g_iconst X kI_1 dX1_isHeld_20 rfl ?_
  refine g_goto X dX1_isHeld_21 (tgt := 25) rfl ?_
  obtain ⟨rfl, rfl⟩ := rt_e h
  exact g_zret X Y rfl dX1_isHeld_25

def f_Game_isHeld (g : Nat) (x1 : Int32) (σ : St) : Option (Int32 × St) :=
  ck (isG g) <| ck (ib x1 60) <| if (rI σ (g + 1) x1) = 2 then (f_Game_isHeld_b20 g σ) else (ck (ib x1 60) <| if (rI σ (g + 1) x1) = 3 then (f_Game_isHeld_b20 g σ) else (some (0, σ)))
set_option maxRecDepth 4000 in
theorem ok_Game_isHeld {w : wT} (hi : wInj w) {l : Launch} {g : Nat} {x1 : Int32} {σ σ' : St} {r : Int32} (h : f_Game_isHeld g x1 σ = some (r, σ')) : gM w l yX1_isHeld cX1_isHeld 2 (some .boolean) 1 [.ref (w.1 g), .int x1] σ (some (.int r)) σ' := by
  unfold f_Game_isHeld at h
  obtain ⟨hg, h⟩ := ck_e h
  refine gM_of hi (by decide) [some (.ref (w.1 g)), some (.int x1)] rfl (Nat.le_of_ble_eq_true rfl) (fun E hl X Y => ?_)
  refine g_aload_n X dX1_isHeld_0 rfl rfl ?_
  refine gf_RX1_15 hg X dX1_isHeld_1 rfl ?_
  refine g_iload_n X dX1_isHeld_4 rfl rfl ?_
  obtain ⟨c1, h⟩ := ck_e h
  refine g_iald X (ga_1 hg).1 (ga_1 hg).2.1 (ga_1 hg).2.2 (ib_e c1) dX1_isHeld_5 rfl ?_
  refine g_iconst X kI_2 dX1_isHeld_6 rfl ?_
  refine g_icmp_eq X dX1_isHeld_7 (tgt := 20) rfl rfl (fun c2 => ?_) (fun c2 => ?_)
  · replace h := if_t c2 h
    exact g_le (lle_0) (ok_Game_isHeld_b20 X Y hg σ h)
  · replace h := if_f c2 h
    refine g_aload_n X dX1_isHeld_10 rfl rfl ?_
    refine gf_RX1_15 hg X dX1_isHeld_11 rfl ?_
    refine g_iload_n X dX1_isHeld_14 rfl rfl ?_
    obtain ⟨c3, h⟩ := ck_e h
    refine g_iald X (ga_1 hg).1 (ga_1 hg).2.1 (ga_1 hg).2.2 (ib_e c3) dX1_isHeld_15 rfl ?_
    refine g_iconst X kI_3 dX1_isHeld_16 rfl ?_
    refine g_icmp_ne X dX1_isHeld_17 (tgt := 24) rfl rfl (fun c4 => ?_) (fun c4 => ?_)
    · replace h := if_f c4 h
      refine g_iconst X kI_0 dX1_isHeld_24 rfl ?_
      obtain ⟨rfl, rfl⟩ := rt_e h
      exact g_zret X Y rfl dX1_isHeld_25
    · replace h := if_t c4 h
      exact g_le (lle_0) (ok_Game_isHeld_b20 X Y hg σ h)

theorem dX1_finish_0 : decode cX1_finish 0 = .ok (.aload_n 0, 1) := by decide +kernel
theorem dX1_finish_1 : decode cX1_finish 1 = .ok (.getfield 9, 3) := by decide +kernel
theorem dX1_finish_4 : decode cX1_finish 4 = .ok (.iconst 1, 1) := by decide +kernel
theorem dX1_finish_5 : decode cX1_finish 5 = .ok (.isub, 1) := by decide +kernel
theorem dX1_finish_6 : decode cX1_finish 6 = .ok (.istore_n 1, 1) := by decide +kernel
theorem dX1_finish_7 : decode cX1_finish 7 = .ok (.iload_n 1, 1) := by decide +kernel
theorem dX1_finish_8 : decode cX1_finish 8 = .ok (.ifCond .le 29, 3) := by decide +kernel
theorem dX1_finish_11 : decode cX1_finish 11 = .ok (.aload_n 0, 1) := by decide +kernel
theorem dX1_finish_12 : decode cX1_finish 12 = .ok (.getfield 43, 3) := by decide +kernel
theorem dX1_finish_15 : decode cX1_finish 15 = .ok (.aload_n 0, 1) := by decide +kernel
theorem dX1_finish_16 : decode cX1_finish 16 = .ok (.getfield 28, 3) := by decide +kernel
theorem dX1_finish_19 : decode cX1_finish 19 = .ok (.iload_n 1, 1) := by decide +kernel
theorem dX1_finish_20 : decode cX1_finish 20 = .ok (.iaload, 1) := by decide +kernel
theorem dX1_finish_21 : decode cX1_finish 21 = .ok (.dup2, 1) := by decide +kernel
theorem dX1_finish_22 : decode cX1_finish 22 = .ok (.iaload, 1) := by decide +kernel
theorem dX1_finish_23 : decode cX1_finish 23 = .ok (.aload_n 0, 1) := by decide +kernel
theorem dX1_finish_24 : decode cX1_finish 24 = .ok (.getfield 43, 3) := by decide +kernel
theorem dX1_finish_27 : decode cX1_finish 27 = .ok (.iload_n 1, 1) := by decide +kernel
theorem dX1_finish_28 : decode cX1_finish 28 = .ok (.iaload, 1) := by decide +kernel
theorem dX1_finish_29 : decode cX1_finish 29 = .ok (.iadd, 1) := by decide +kernel
theorem dX1_finish_30 : decode cX1_finish 30 = .ok (.iastore, 1) := by decide +kernel
theorem dX1_finish_31 : decode cX1_finish 31 = .ok (.iinc 1 (-1), 3) := by decide +kernel
theorem dX1_finish_34 : decode cX1_finish 34 = .ok (.goto (-27), 3) := by decide +kernel
theorem dX1_finish_37 : decode cX1_finish 37 = .ok (.aload_n 0, 1) := by decide +kernel
theorem dX1_finish_38 : decode cX1_finish 38 = .ok (.iconst 0, 1) := by decide +kernel
theorem dX1_finish_39 : decode cX1_finish 39 = .ok (.invokevirtual 76, 3) := by decide +kernel
theorem dX1_finish_42 : decode cX1_finish 42 = .ok (.aload_n 0, 1) := by decide +kernel
theorem dX1_finish_43 : decode cX1_finish 43 = .ok (.iconst 1, 1) := by decide +kernel
theorem dX1_finish_44 : decode cX1_finish 44 = .ok (.invokevirtual 76, 3) := by decide +kernel
theorem dX1_finish_47 : decode cX1_finish 47 = .ok (.iconst 0, 1) := by decide +kernel
theorem dX1_finish_48 : decode cX1_finish 48 = .ok (.istore_n 1, 1) := by decide +kernel
theorem dX1_finish_49 : decode cX1_finish 49 = .ok (.iload_n 1, 1) := by decide +kernel
theorem dX1_finish_50 : decode cX1_finish 50 = .ok (.aload_n 0, 1) := by decide +kernel
theorem dX1_finish_51 : decode cX1_finish 51 = .ok (.getfield 9, 3) := by decide +kernel
theorem dX1_finish_54 : decode cX1_finish 54 = .ok (.if_icmp .ge 71, 3) := by decide +kernel
theorem dX1_finish_57 : decode cX1_finish 57 = .ok (.aload_n 0, 1) := by decide +kernel
theorem dX1_finish_58 : decode cX1_finish 58 = .ok (.iload_n 1, 1) := by decide +kernel
theorem dX1_finish_59 : decode cX1_finish 59 = .ok (.invokevirtual 80, 3) := by decide +kernel
theorem dX1_finish_62 : decode cX1_finish 62 = .ok (.ifCond .eq 57, 3) := by decide +kernel
theorem dX1_finish_65 : decode cX1_finish 65 = .ok (.aload_n 0, 1) := by decide +kernel
theorem dX1_finish_66 : decode cX1_finish 66 = .ok (.getfield 15, 3) := by decide +kernel
theorem dX1_finish_69 : decode cX1_finish 69 = .ok (.iload_n 1, 1) := by decide +kernel
theorem dX1_finish_70 : decode cX1_finish 70 = .ok (.iaload, 1) := by decide +kernel
theorem dX1_finish_71 : decode cX1_finish 71 = .ok (.iconst 2, 1) := by decide +kernel
theorem dX1_finish_72 : decode cX1_finish 72 = .ok (.isub, 1) := by decide +kernel
theorem dX1_finish_73 : decode cX1_finish 73 = .ok (.istore_n 2, 1) := by decide +kernel
theorem dX1_finish_74 : decode cX1_finish 74 = .ok (.aload_n 0, 1) := by decide +kernel
theorem dX1_finish_75 : decode cX1_finish 75 = .ok (.getfield 49, 3) := by decide +kernel
theorem dX1_finish_78 : decode cX1_finish 78 = .ok (.iload_n 2, 1) := by decide +kernel
theorem dX1_finish_79 : decode cX1_finish 79 = .ok (.bipush 60, 2) := by decide +kernel
theorem dX1_finish_81 : decode cX1_finish 81 = .ok (.imul, 1) := by decide +kernel
theorem dX1_finish_82 : decode cX1_finish 82 = .ok (.aload_n 0, 1) := by decide +kernel
theorem dX1_finish_83 : decode cX1_finish 83 = .ok (.getfield 62, 3) := by decide +kernel
theorem dX1_finish_86 : decode cX1_finish 86 = .ok (.aload_n 0, 1) := by decide +kernel
theorem dX1_finish_87 : decode cX1_finish 87 = .ok (.getfield 22, 3) := by decide +kernel
theorem dX1_finish_90 : decode cX1_finish 90 = .ok (.iload_n 1, 1) := by decide +kernel
theorem dX1_finish_91 : decode cX1_finish 91 = .ok (.iaload, 1) := by decide +kernel
theorem dX1_finish_92 : decode cX1_finish 92 = .ok (.iaload, 1) := by decide +kernel
theorem dX1_finish_93 : decode cX1_finish 93 = .ok (.iadd, 1) := by decide +kernel
theorem dX1_finish_94 : decode cX1_finish 94 = .ok (.laload, 1) := by decide +kernel
theorem dX1_finish_95 : decode cX1_finish 95 = .ok (.lstore_n 3, 1) := by decide +kernel
theorem dX1_finish_96 : decode cX1_finish 96 = .ok (.aload_n 0, 1) := by decide +kernel
theorem dX1_finish_97 : decode cX1_finish 97 = .ok (.getfield 49, 3) := by decide +kernel
theorem dX1_finish_100 : decode cX1_finish 100 = .ok (.iload_n 2, 1) := by decide +kernel
theorem dX1_finish_101 : decode cX1_finish 101 = .ok (.bipush 60, 2) := by decide +kernel
theorem dX1_finish_103 : decode cX1_finish 103 = .ok (.imul, 1) := by decide +kernel
theorem dX1_finish_104 : decode cX1_finish 104 = .ok (.iload_n 1, 1) := by decide +kernel
theorem dX1_finish_105 : decode cX1_finish 105 = .ok (.iadd, 1) := by decide +kernel
theorem dX1_finish_106 : decode cX1_finish 106 = .ok (.laload, 1) := by decide +kernel
theorem dX1_finish_107 : decode cX1_finish 107 = .ok (.lload_n 3, 1) := by decide +kernel
theorem dX1_finish_108 : decode cX1_finish 108 = .ok (.lcmp, 1) := by decide +kernel
theorem dX1_finish_109 : decode cX1_finish 109 = .ok (.ifCond .eq 10, 3) := by decide +kernel
theorem dX1_finish_112 : decode cX1_finish 112 = .ok (.aload_n 0, 1) := by decide +kernel
theorem dX1_finish_113 : decode cX1_finish 113 = .ok (.getfield 65, 3) := by decide +kernel
theorem dX1_finish_116 : decode cX1_finish 116 = .ok (.iload_n 2, 1) := by decide +kernel
theorem dX1_finish_117 : decode cX1_finish 117 = .ok (.iconst 1, 1) := by decide +kernel
theorem dX1_finish_118 : decode cX1_finish 118 = .ok (.bastore, 1) := by decide +kernel
theorem dX1_finish_119 : decode cX1_finish 119 = .ok (.iinc 1 1, 3) := by decide +kernel
theorem dX1_finish_122 : decode cX1_finish 122 = .ok (.goto (-73), 3) := by decide +kernel
theorem dX1_finish_125 : decode cX1_finish 125 = .ok (.return_, 1) := by decide +kernel
def f_Game_finish_b119 (g : Nat) (k49 : Int32 → St → Option St) (x1 : Int32) (σ : St) : Option St :=
  k49 (x1 + 1) σ
set_option maxRecDepth 4000 in
theorem ok_Game_finish_b119 {E : gE} {w : wT} {σ' : St} (X : gC E w cX1_finish 5 RX1 2) (Y : gQ E w none none σ') {g : Nat} (hg : isG g = true) {k49 : Int32 → St → Option St} (hk49 : ∀ (x1 : Int32) (σ : St), k49 x1 σ = some σ' → gW E w 5 σ 49 [some (.ref (w.1 g)), some (.int x1)] []) {x1 : Int32} (σ : St) (h : f_Game_finish_b119 g k49 x1 σ = some σ') : gW E w 5 σ 119 [some (.ref (w.1 g)), some (.int x1)] [] := by
  unfold f_Game_finish_b119 at h
  refine g_iinc X [some (.ref (w.1 g)), some (.int (x1 + 1))] dX1_finish_119 rfl (ii_1 x1) (Nat.le_of_ble_eq_true rfl) rfl rfl rfl ?_
  refine g_goto X dX1_finish_122 (tgt := 49) rfl ?_
  exact hk49 (x1 + 1) σ h

def f_Game_finish_b49 (g : Nat) (k49 : Int32 → St → Option St) (x1 : Int32) (σ : St) : Option St :=
  if (rF σ (g + 10)) ≤ x1 then (some σ) else (bd (f_Game_isHeld g x1 σ) fun r4 σ3 => if r4 = 0 then (f_Game_finish_b119 g k49 x1 σ3) else (ck (ib x1 60) <| ck (ib x1 60) <| ck (ib (rI σ3 (g + 3) x1) 10) <| ck (ib ((((rI σ3 (g + 1) x1) - 2) * 60) + (rI σ3 (g + 16) (rI σ3 (g + 3) x1))) 120) <| ck (ib ((((rI σ3 (g + 1) x1) - 2) * 60) + x1) 120) <| if (rL σ3 (g + 12) ((((rI σ3 (g + 1) x1) - 2) * 60) + x1)) = (rL σ3 (g + 12) ((((rI σ3 (g + 1) x1) - 2) * 60) + (rI σ3 (g + 16) (rI σ3 (g + 3) x1)))) then (f_Game_finish_b119 g k49 x1 σ3) else (ck (ib ((rI σ3 (g + 1) x1) - 2) 2) <| lE (stA σ3 (g + 17) ((rI σ3 (g + 1) x1) - 2).toNatClampNeg (vp_nar .boolean 1)) fun σ13 => f_Game_finish_b119 g k49 x1 σ13)))
set_option maxRecDepth 4000 in
theorem ok_Game_finish_b49 {E : gE} {w : wT} {σ' : St} (X : gC E w cX1_finish 5 RX1 2) (Y : gQ E w none none σ') {g : Nat} (hg : isG g = true) {k49 : Int32 → St → Option St} (hk49 : ∀ (x1 : Int32) (σ : St), k49 x1 σ = some σ' → gW E w 5 σ 49 [some (.ref (w.1 g)), some (.int x1)] []) {x1 : Int32} (σ : St) (h : f_Game_finish_b49 g k49 x1 σ = some σ') : gW E w 5 σ 49 [some (.ref (w.1 g)), some (.int x1)] [] := by
  unfold f_Game_finish_b49 at h
  refine g_iload_n X dX1_finish_49 rfl rfl ?_
  refine g_aload_n X dX1_finish_50 rfl rfl ?_
  refine gf_RX1_9 hg X dX1_finish_51 rfl ?_
  refine g_icmp_ge X dX1_finish_54 (tgt := 125) rfl rfl (fun c1 => ?_) (fun c1 => ?_)
  · replace h := if_t c1 h
    obtain rfl := rv_e h
    exact g_vret X Y dX1_finish_125
  · replace h := if_f c1 h
    refine g_aload_n X dX1_finish_57 rfl rfl ?_
    refine g_iload_n X dX1_finish_58 rfl rfl ?_
    obtain ⟨r4, σ3, h2, h⟩ := bd_e h
    refine g_callVI X [.int x1] (ok_Game_isHeld X.inj h2) my_yX1_isHeld mi_yX1_isHeld ms_yX1_isHeld ml_RX1_80 (go_ hg).1 (go_ hg).2.1 (go_ hg).2.2 (by decide) rfl dX1_finish_59 (Nat.le_of_ble_eq_true rfl) rfl rfl ?_
    refine g_if_eq X dX1_finish_62 (tgt := 119) rfl rfl (fun c5 => ?_) (fun c5 => ?_)
    · replace h := if_t c5 h
      exact ok_Game_finish_b119 X Y hg hk49 σ3 h
    · replace h := if_f c5 h
      refine g_aload_n X dX1_finish_65 rfl rfl ?_
      refine gf_RX1_15 hg X dX1_finish_66 rfl ?_
      refine g_iload_n X dX1_finish_69 rfl rfl ?_
      obtain ⟨c6, h⟩ := ck_e h
      refine g_iald X (ga_1 hg).1 (ga_1 hg).2.1 (ga_1 hg).2.2 (ib_e c6) dX1_finish_70 rfl ?_
      refine g_iconst X kI_2 dX1_finish_71 rfl ?_
      refine g_isub X dX1_finish_72 rfl ?_
      refine g_istore_n X [some (.ref (w.1 g)), some (.int x1), some (.int ((rI σ3 (g + 1) x1) - 2))] dX1_finish_73 (Nat.le_of_ble_eq_true rfl) rfl rfl rfl ?_
      refine g_aload_n X dX1_finish_74 rfl rfl ?_
      refine gf_RX1_49 hg X dX1_finish_75 rfl ?_
      refine g_iload_n X dX1_finish_78 rfl rfl ?_
      refine g_bipush X kB_60 dX1_finish_79 rfl ?_
      refine g_imul X dX1_finish_81 rfl ?_
      refine g_aload_n X dX1_finish_82 rfl rfl ?_
      refine gf_RX1_62 hg X dX1_finish_83 rfl ?_
      refine g_aload_n X dX1_finish_86 rfl rfl ?_
      refine gf_RX1_22 hg X dX1_finish_87 rfl ?_
      refine g_iload_n X dX1_finish_90 rfl rfl ?_
      obtain ⟨c7, h⟩ := ck_e h
      refine g_iald X (ga_3 hg).1 (ga_3 hg).2.1 (ga_3 hg).2.2 (ib_e c7) dX1_finish_91 rfl ?_
      obtain ⟨c8, h⟩ := ck_e h
      refine g_iald X (ga_16 hg).1 (ga_16 hg).2.1 (ga_16 hg).2.2 (ib_e c8) dX1_finish_92 rfl ?_
      refine g_iadd X dX1_finish_93 rfl ?_
      obtain ⟨c9, h⟩ := ck_e h
      refine g_lald X (ga_12 hg).1 (ga_12 hg).2.1 (ga_12 hg).2.2 (ib_e c9) dX1_finish_94 rfl ?_
      refine g_lstore_n X [some (.ref (w.1 g)), some (.int x1), some (.int ((rI σ3 (g + 1) x1) - 2)), some (.long (rL σ3 (g + 12) ((((rI σ3 (g + 1) x1) - 2) * 60) + (rI σ3 (g + 16) (rI σ3 (g + 3) x1))))), none] dX1_finish_95 (Nat.le_of_ble_eq_true rfl) rfl rfl rfl ?_
      refine g_aload_n X dX1_finish_96 rfl rfl ?_
      refine gf_RX1_49 hg X dX1_finish_97 rfl ?_
      refine g_iload_n X dX1_finish_100 rfl rfl ?_
      refine g_bipush X kB_60 dX1_finish_101 rfl ?_
      refine g_imul X dX1_finish_103 rfl ?_
      refine g_iload_n X dX1_finish_104 rfl rfl ?_
      refine g_iadd X dX1_finish_105 rfl ?_
      obtain ⟨c10, h⟩ := ck_e h
      refine g_lald X (ga_12 hg).1 (ga_12 hg).2.1 (ga_12 hg).2.2 (ib_e c10) dX1_finish_106 rfl ?_
      refine g_lload_n X dX1_finish_107 rfl rfl ?_
      refine g_lcmp_eq X dX1_finish_108 rfl dX1_finish_109 (tgt := 119) rfl rfl (fun c11 => ?_) (fun c11 => ?_)
      · replace h := if_t c11 h
        exact g_le (lle_s (lle_s (lle_0))) (ok_Game_finish_b119 X Y hg hk49 σ3 h)
      · replace h := if_f c11 h
        refine g_aload_n X dX1_finish_112 rfl rfl ?_
        refine gf_RX1_65 hg X dX1_finish_113 rfl ?_
        refine g_iload_n X dX1_finish_116 rfl rfl ?_
        refine g_iconst X kI_1 dX1_finish_117 rfl ?_
        obtain ⟨c12, h⟩ := ck_e h
        refine g_zast X (ga_17 hg).1 (ga_17 hg).2.1 (ga_17 hg).2.2 (ib_e c12) dX1_finish_118 rfl (fun σ13 e14 => ?_)
        replace h := lE_c e14 h
        exact g_le (lle_s (lle_s (lle_0))) (ok_Game_finish_b119 X Y hg hk49 σ13 h)
def f_Game_finish_l49 (g : Nat) : Int32 → St → Option St := lp (fun _ _ => none) (f_Game_finish_b49 g) FU
theorem ok_Game_finish_l49 {E : gE} {w : wT} {σ' : St} (X : gC E w cX1_finish 5 RX1 2) (Y : gQ E w none none σ') {g : Nat} (hg : isG g = true) {x1 : Int32} (σ : St) (h : f_Game_finish_l49 g x1 σ = some σ') : gW E w 5 σ 49 [some (.ref (w.1 g)), some (.int x1)] [] :=
  lp_ind (P := fun (k : Int32 → St → Option St) => ∀ (x1 : Int32) (σ : St), k x1 σ = some σ' → gW E w 5 σ 49 [some (.ref (w.1 g)), some (.int x1)] []) (fun _ _ hh => nn hh) (fun k hk x1 σ  hh => ok_Game_finish_b49 X Y hg hk σ hh) FU x1 σ  h

def f_Game_finish_b7 (g : Nat) (k7 : Int32 → St → Option St) (x1 : Int32) (σ : St) : Option St :=
  if x1 ≤ 0 then (bv (f_Game_tellPast g 0 σ) fun σ3 => bv (f_Game_tellPast g 1 σ3) fun σ5 => f_Game_finish_l49 g 0 σ5) else (ck (ib x1 60) <| ck (ib (rI σ (g + 5) x1) 60) <| ck (ib x1 60) <| ck (ib (rI σ (g + 5) x1) 60) <| lE (stA σ (g + 10) (rI σ (g + 5) x1).toNatClampNeg ((rI σ (g + 10) (rI σ (g + 5) x1)) + (rI σ (g + 10) x1))) fun σ10 => k7 (x1 + (-1)) σ10)
set_option maxRecDepth 4000 in
theorem ok_Game_finish_b7 {E : gE} {w : wT} {σ' : St} (X : gC E w cX1_finish 5 RX1 2) (Y : gQ E w none none σ') {g : Nat} (hg : isG g = true) {k7 : Int32 → St → Option St} (hk7 : ∀ (x1 : Int32) (σ : St), k7 x1 σ = some σ' → gW E w 5 σ 7 [some (.ref (w.1 g)), some (.int x1)] []) {x1 : Int32} (σ : St) (h : f_Game_finish_b7 g k7 x1 σ = some σ') : gW E w 5 σ 7 [some (.ref (w.1 g)), some (.int x1)] [] := by
  unfold f_Game_finish_b7 at h
  refine g_iload_n X dX1_finish_7 rfl rfl ?_
  refine g_if_le X dX1_finish_8 (tgt := 37) rfl rfl (fun c1 => ?_) (fun c1 => ?_)
  · replace h := if_t c1 h
    refine g_aload_n X dX1_finish_37 rfl rfl ?_
    refine g_iconst X kI_0 dX1_finish_38 rfl ?_
    obtain ⟨σ3, h2, h⟩ := bv_e h
    refine g_callVV X [.int 0] (ok_Game_tellPast X.inj h2) my_yX1_tellPast mi_yX1_tellPast ms_yX1_tellPast ml_RX1_76 (go_ hg).1 (go_ hg).2.1 (go_ hg).2.2 (by decide) rfl dX1_finish_39 (Nat.le_of_ble_eq_true rfl) rfl rfl ?_
    refine g_aload_n X dX1_finish_42 rfl rfl ?_
    refine g_iconst X kI_1 dX1_finish_43 rfl ?_
    obtain ⟨σ5, h4, h⟩ := bv_e h
    refine g_callVV X [.int 1] (ok_Game_tellPast X.inj h4) my_yX1_tellPast mi_yX1_tellPast ms_yX1_tellPast ml_RX1_76 (go_ hg).1 (go_ hg).2.1 (go_ hg).2.2 (by decide) rfl dX1_finish_44 (Nat.le_of_ble_eq_true rfl) rfl rfl ?_
    refine g_iconst X kI_0 dX1_finish_47 rfl ?_
    refine g_istore_n X [some (.ref (w.1 g)), some (.int 0)] dX1_finish_48 (Nat.le_of_ble_eq_true rfl) rfl rfl rfl ?_
    exact ok_Game_finish_l49 X Y hg σ5 h
  · replace h := if_f c1 h
    refine g_aload_n X dX1_finish_11 rfl rfl ?_
    refine gf_RX1_43 hg X dX1_finish_12 rfl ?_
    refine g_aload_n X dX1_finish_15 rfl rfl ?_
    refine gf_RX1_28 hg X dX1_finish_16 rfl ?_
    refine g_iload_n X dX1_finish_19 rfl rfl ?_
    obtain ⟨c6, h⟩ := ck_e h
    refine g_iald X (ga_5 hg).1 (ga_5 hg).2.1 (ga_5 hg).2.2 (ib_e c6) dX1_finish_20 rfl ?_
    refine g_dup2 X dX1_finish_21 rfl rfl rfl ?_
    obtain ⟨c7, h⟩ := ck_e h
    refine g_iald X (ga_10 hg).1 (ga_10 hg).2.1 (ga_10 hg).2.2 (ib_e c7) dX1_finish_22 rfl ?_
    refine g_aload_n X dX1_finish_23 rfl rfl ?_
    refine gf_RX1_43 hg X dX1_finish_24 rfl ?_
    refine g_iload_n X dX1_finish_27 rfl rfl ?_
    obtain ⟨c8, h⟩ := ck_e h
    refine g_iald X (ga_10 hg).1 (ga_10 hg).2.1 (ga_10 hg).2.2 (ib_e c8) dX1_finish_28 rfl ?_
    refine g_iadd X dX1_finish_29 rfl ?_
    obtain ⟨c9, h⟩ := ck_e h
    refine g_iast X (ga_10 hg).1 (ga_10 hg).2.1 (ga_10 hg).2.2 (ib_e c9) dX1_finish_30 rfl (fun σ10 e11 => ?_)
    replace h := lE_c e11 h
    refine g_iinc X [some (.ref (w.1 g)), some (.int (x1 + (-1)))] dX1_finish_31 rfl (ii_m1 x1) (Nat.le_of_ble_eq_true rfl) rfl rfl rfl ?_
    refine g_goto X dX1_finish_34 (tgt := 7) rfl ?_
    exact hk7 (x1 + (-1)) σ10 h
def f_Game_finish_l7 (g : Nat) : Int32 → St → Option St := lp (fun _ _ => none) (f_Game_finish_b7 g) FU
theorem ok_Game_finish_l7 {E : gE} {w : wT} {σ' : St} (X : gC E w cX1_finish 5 RX1 2) (Y : gQ E w none none σ') {g : Nat} (hg : isG g = true) {x1 : Int32} (σ : St) (h : f_Game_finish_l7 g x1 σ = some σ') : gW E w 5 σ 7 [some (.ref (w.1 g)), some (.int x1)] [] :=
  lp_ind (P := fun (k : Int32 → St → Option St) => ∀ (x1 : Int32) (σ : St), k x1 σ = some σ' → gW E w 5 σ 7 [some (.ref (w.1 g)), some (.int x1)] []) (fun _ _ hh => nn hh) (fun k hk x1 σ  hh => ok_Game_finish_b7 X Y hg hk σ hh) FU x1 σ  h

def f_Game_finish (g : Nat) (σ : St) : Option St :=
  ck (isG g) <| f_Game_finish_l7 g ((rF σ (g + 10)) - 1) σ
set_option maxRecDepth 4000 in
theorem ok_Game_finish {w : wT} (hi : wInj w) {l : Launch} {g : Nat} {σ σ' : St} (h : f_Game_finish g σ = some σ') : gM w l yX1_finish cX1_finish 5 none 2 [.ref (w.1 g)] σ none σ' := by
  unfold f_Game_finish at h
  obtain ⟨hg, h⟩ := ck_e h
  refine gM_of hi (by decide) [some (.ref (w.1 g))] rfl (Nat.le_of_ble_eq_true rfl) (fun E hl X Y => ?_)
  refine g_aload_n X dX1_finish_0 rfl rfl ?_
  refine gf_RX1_9 hg X dX1_finish_1 rfl ?_
  refine g_iconst X kI_1 dX1_finish_4 rfl ?_
  refine g_isub X dX1_finish_5 rfl ?_
  refine g_istore_n X [some (.ref (w.1 g)), some (.int ((rF σ (g + 10)) - 1))] dX1_finish_6 (Nat.le_of_ble_eq_true rfl) rfl rfl rfl ?_
  exact ok_Game_finish_l7 X Y hg σ h

theorem dX4_readText_0 : decode cX4_readText 0 = .ok (.aload_n 2, 1) := by decide +kernel
theorem dX4_readText_1 : decode cX4_readText 1 = .ok (.invokevirtual 18, 3) := by decide +kernel
theorem dX4_readText_4 : decode cX4_readText 4 = .ok (.aload_n 1, 1) := by decide +kernel
theorem dX4_readText_5 : decode cX4_readText 5 = .ok (.invokevirtual 23, 3) := by decide +kernel
theorem dX4_readText_8 : decode cX4_readText 8 = .ok (.aload_n 0, 1) := by decide +kernel
theorem dX4_readText_9 : decode cX4_readText 9 = .ok (.aload_n 1, 1) := by decide +kernel
theorem dX4_readText_10 : decode cX4_readText 10 = .ok (.aload_n 2, 1) := by decide +kernel
theorem dX4_readText_11 : decode cX4_readText 11 = .ok (.ldc 28, 2) := by decide +kernel
theorem dX4_readText_13 : decode cX4_readText 13 = .ok (.iconst 0, 1) := by decide +kernel
theorem dX4_readText_14 : decode cX4_readText 14 = .ok (.iconst 0, 1) := by decide +kernel
theorem dX4_readText_15 : decode cX4_readText 15 = .ok (.invokevirtual 29, 3) := by decide +kernel
theorem dX4_readText_18 : decode cX4_readText 18 = .ok (.ifCond .ne 5, 3) := by decide +kernel
theorem dX4_readText_21 : decode cX4_readText 21 = .ok (.iconst 0, 1) := by decide +kernel
theorem dX4_readText_22 : decode cX4_readText 22 = .ok (.ireturn, 1) := by decide +kernel
theorem dX4_readText_23 : decode cX4_readText 23 = .ok (.aload_n 1, 1) := by decide +kernel
theorem dX4_readText_24 : decode cX4_readText 24 = .ok (.getfield 33, 3) := by decide +kernel
theorem dX4_readText_27 : decode cX4_readText 27 = .ok (.iconst 5, 1) := by decide +kernel
theorem dX4_readText_28 : decode cX4_readText 28 = .ok (.if_icmp .eq 10, 3) := by decide +kernel
theorem dX4_readText_31 : decode cX4_readText 31 = .ok (.aload_n 0, 1) := by decide +kernel
theorem dX4_readText_32 : decode cX4_readText 32 = .ok (.aload_n 1, 1) := by decide +kernel
theorem dX4_readText_33 : decode cX4_readText 33 = .ok (.iconst 1, 1) := by decide +kernel
theorem dX4_readText_34 : decode cX4_readText 34 = .ok (.invokevirtual 36, 3) := by decide +kernel
theorem dX4_readText_37 : decode cX4_readText 37 = .ok (.ireturn, 1) := by decide +kernel
theorem dX4_readText_38 : decode cX4_readText 38 = .ok (.aload_n 1, 1) := by decide +kernel
theorem dX4_readText_39 : decode cX4_readText 39 = .ok (.invokevirtual 40, 3) := by decide +kernel
theorem dX4_readText_42 : decode cX4_readText 42 = .ok (.aload_n 1, 1) := by decide +kernel
theorem dX4_readText_43 : decode cX4_readText 43 = .ok (.getfield 33, 3) := by decide +kernel
theorem dX4_readText_46 : decode cX4_readText 46 = .ok (.bipush 6, 2) := by decide +kernel
theorem dX4_readText_48 : decode cX4_readText 48 = .ok (.if_icmp .eq 10, 3) := by decide +kernel
theorem dX4_readText_51 : decode cX4_readText 51 = .ok (.aload_n 0, 1) := by decide +kernel
theorem dX4_readText_52 : decode cX4_readText 52 = .ok (.aload_n 1, 1) := by decide +kernel
theorem dX4_readText_53 : decode cX4_readText 53 = .ok (.iconst 1, 1) := by decide +kernel
theorem dX4_readText_54 : decode cX4_readText 54 = .ok (.invokevirtual 36, 3) := by decide +kernel
theorem dX4_readText_57 : decode cX4_readText 57 = .ok (.ireturn, 1) := by decide +kernel
theorem dX4_readText_58 : decode cX4_readText 58 = .ok (.aload_n 2, 1) := by decide +kernel
theorem dX4_readText_59 : decode cX4_readText 59 = .ok (.invokevirtual 43, 3) := by decide +kernel
theorem dX4_readText_62 : decode cX4_readText 62 = .ok (.iconst 1, 1) := by decide +kernel
theorem dX4_readText_63 : decode cX4_readText 63 = .ok (.ireturn, 1) := by decide +kernel
def f_Reader_readText (g : Nat) (σ : St) : Option (Int32 × St) :=
  ck (isG g) <| bv (f_Game_empty g σ) fun σ2 => bv (f_Tape_rewind σ2) fun σ4 => bd (f_Reader_readPlaceR 12 g ((-1000000)) 0 0 σ4) fun r7 σ6 => if r7 = 0 then (some (0, σ6)) else (if (rF σ6 3) = 5 then (bv (f_Tape_step σ6) fun σ11 => if (rF σ11 3) = 6 then (bv (f_Game_finish g σ11) fun σ14 => some (1, σ14)) else (bd (f_Reader_fail 1 σ11) fun r17 σ16 => ck (isB r17) <| some (r17, σ16))) else (bd (f_Reader_fail 1 σ6) fun r21 σ20 => ck (isB r21) <| some (r21, σ20)))
set_option maxRecDepth 4000 in
theorem ok_Reader_readText {w : wT} (hi : wInj w) {l : Launch} {g : Nat} {σ σ' : St} {r : Int32} (h : f_Reader_readText g σ = some (r, σ')) : gM w l yX4_readText cX4_readText 3 (some .boolean) 45 [.ref (w.1 3), .ref (w.1 2), .ref (w.1 g)] σ (some (.int r)) σ' := by
  unfold f_Reader_readText at h
  obtain ⟨hg, h⟩ := ck_e h
  refine gM_of hi (by decide) [some (.ref (w.1 3)), some (.ref (w.1 2)), some (.ref (w.1 g))] rfl (Nat.le_of_ble_eq_true rfl) (fun E hl X Y => ?_)
  refine g_aload_n X dX4_readText_0 rfl rfl ?_
  obtain ⟨σ2, h1, h⟩ := bv_e h
  refine g_callVV X [] (ok_Game_empty X.inj h1) my_yX1_empty mi_yX1_empty ms_yX1_empty ml_RX4_18 (go_ hg).1 (go_ hg).2.1 (go_ hg).2.2 (by decide) rfl dX4_readText_1 (Nat.le_of_ble_eq_true rfl) rfl rfl ?_
  refine g_aload_n X dX4_readText_4 rfl rfl ?_
  obtain ⟨σ4, h3, h⟩ := bv_e h
  refine g_callVV X [] (ok_Tape_rewind X.inj h3) my_yX7_rewind mi_yX7_rewind ms_yX7_rewind ml_RX4_23 (by decide) rfl rfl (by decide) rfl dX4_readText_5 (Nat.le_of_ble_eq_true rfl) rfl rfl ?_
  refine g_aload_n X dX4_readText_8 rfl rfl ?_
  refine g_aload_n X dX4_readText_9 rfl rfl ?_
  refine g_aload_n X dX4_readText_10 rfl rfl ?_
  refine g_ldc X dX4_readText_11 kc_RX4_28 rfl ?_
  refine g_iconst X kI_0 dX4_readText_13 rfl ?_
  refine g_iconst X kI_0 dX4_readText_14 rfl ?_
  obtain ⟨r7, σ6, h5, h⟩ := bd_e h
  refine g_callVI X [.ref (w.1 2), .ref (w.1 g), .int ((-1000000)), .int 0, .int 0] (ok_Reader_readPlaceR X.inj 12 h5) my_yX4_readPlace mi_yX4_readPlace ms_yX4_readPlace ml_RX4_29 (by decide) rfl rfl (by decide) rfl dX4_readText_15 (Nat.le_of_ble_eq_true rfl) rfl rfl ?_
  refine g_if_ne X dX4_readText_18 (tgt := 23) rfl rfl (fun c8 => ?_) (fun c8 => ?_)
  · replace h := if_f c8 h
    refine g_aload_n X dX4_readText_23 rfl rfl ?_
    refine gf_RX4_33 X dX4_readText_24 rfl ?_
    refine g_iconst X kI_5 dX4_readText_27 rfl ?_
    refine g_icmp_eq X dX4_readText_28 (tgt := 38) rfl rfl (fun c9 => ?_) (fun c9 => ?_)
    · replace h := if_t c9 h
      refine g_aload_n X dX4_readText_38 rfl rfl ?_
      obtain ⟨σ11, h10, h⟩ := bv_e h
      refine g_callVV X [] (ok_Tape_step X.inj h10) my_yX7_step mi_yX7_step ms_yX7_step ml_RX4_40 (by decide) rfl rfl (by decide) rfl dX4_readText_39 (Nat.le_of_ble_eq_true rfl) rfl rfl ?_
      refine g_aload_n X dX4_readText_42 rfl rfl ?_
      refine gf_RX4_33 X dX4_readText_43 rfl ?_
      refine g_bipush X kB_6 dX4_readText_46 rfl ?_
      refine g_icmp_eq X dX4_readText_48 (tgt := 58) rfl rfl (fun c12 => ?_) (fun c12 => ?_)
      · replace h := if_t c12 h
        refine g_aload_n X dX4_readText_58 rfl rfl ?_
        obtain ⟨σ14, h13, h⟩ := bv_e h
        refine g_callVV X [] (ok_Game_finish X.inj h13) my_yX1_finish mi_yX1_finish ms_yX1_finish ml_RX4_43 (go_ hg).1 (go_ hg).2.1 (go_ hg).2.2 (by decide) rfl dX4_readText_59 (Nat.le_of_ble_eq_true rfl) rfl rfl ?_
        refine g_iconst X kI_1 dX4_readText_62 rfl ?_
        obtain ⟨rfl, rfl⟩ := rt_e h
        exact g_zret X Y rfl dX4_readText_63
      · replace h := if_f c12 h
        refine g_aload_n X dX4_readText_51 rfl rfl ?_
        refine g_aload_n X dX4_readText_52 rfl rfl ?_
        refine g_iconst X kI_1 dX4_readText_53 rfl ?_
        obtain ⟨r17, σ16, h15, h⟩ := bd_e h
        refine g_callVI X [.ref (w.1 2), .int 1] (ok_Reader_fail X.inj h15) my_yX4_fail mi_yX4_fail ms_yX4_fail ml_RX4_36 (by decide) rfl rfl (by decide) rfl dX4_readText_54 (Nat.le_of_ble_eq_true rfl) rfl rfl ?_
        obtain ⟨c18, h⟩ := ck_e h
        obtain ⟨rfl, rfl⟩ := rt_e h
        exact g_zret X Y (isB_e c18) dX4_readText_57
    · replace h := if_f c9 h
      refine g_aload_n X dX4_readText_31 rfl rfl ?_
      refine g_aload_n X dX4_readText_32 rfl rfl ?_
      refine g_iconst X kI_1 dX4_readText_33 rfl ?_
      obtain ⟨r21, σ20, h19, h⟩ := bd_e h
      refine g_callVI X [.ref (w.1 2), .int 1] (ok_Reader_fail X.inj h19) my_yX4_fail mi_yX4_fail ms_yX4_fail ml_RX4_36 (by decide) rfl rfl (by decide) rfl dX4_readText_34 (Nat.le_of_ble_eq_true rfl) rfl rfl ?_
      obtain ⟨c22, h⟩ := ck_e h
      obtain ⟨rfl, rfl⟩ := rt_e h
      exact g_zret X Y (isB_e c22) dX4_readText_37
  · replace h := if_t c8 h
    refine g_iconst X kI_0 dX4_readText_21 rfl ?_
    obtain ⟨rfl, rfl⟩ := rt_e h
    exact g_zret X Y rfl dX4_readText_22

theorem dX3_give_0 : decode cX3_give 0 = .ok (.aload_n 0, 1) := by decide +kernel
theorem dX3_give_1 : decode cX3_give 1 = .ok (.getfield 9, 3) := by decide +kernel
theorem dX3_give_4 : decode cX3_give 4 = .ok (.iload_n 1, 1) := by decide +kernel
theorem dX3_give_5 : decode cX3_give 5 = .ok (.iconst 3, 1) := by decide +kernel
theorem dX3_give_6 : decode cX3_give 6 = .ok (.imul, 1) := by decide +kernel
theorem dX3_give_7 : decode cX3_give 7 = .ok (.iload_n 2, 1) := by decide +kernel
theorem dX3_give_8 : decode cX3_give 8 = .ok (.iadd, 1) := by decide +kernel
theorem dX3_give_9 : decode cX3_give 9 = .ok (.iload_n 3, 1) := by decide +kernel
theorem dX3_give_10 : decode cX3_give 10 = .ok (.iastore, 1) := by decide +kernel
theorem dX3_give_11 : decode cX3_give 11 = .ok (.return_, 1) := by decide +kernel
def f_Plan_give (q : Nat) (x1 : Int32) (x2 : Int32) (x3 : Int32) (σ : St) : Option St :=
  ck (isP q) <| ck (ib ((x1 * 3) + x2) 30) <| lE (stA σ (q + 47) ((x1 * 3) + x2).toNatClampNeg x3) fun σ2 => some σ2
set_option maxRecDepth 4000 in
theorem ok_Plan_give {w : wT} (hi : wInj w) {l : Launch} {q : Nat} {x1 : Int32} {x2 : Int32} {x3 : Int32} {σ σ' : St} (h : f_Plan_give q x1 x2 x3 σ = some σ') : gM w l yX3_give cX3_give 4 none 1 [.ref (w.1 q), .int x1, .int x2, .int x3] σ none σ' := by
  unfold f_Plan_give at h
  obtain ⟨hq, h⟩ := ck_e h
  refine gM_of hi (by decide) [some (.ref (w.1 q)), some (.int x1), some (.int x2), some (.int x3)] rfl (Nat.le_of_ble_eq_true rfl) (fun E hl X Y => ?_)
  refine g_aload_n X dX3_give_0 rfl rfl ?_
  refine gf_RX3_9 hq X dX3_give_1 rfl ?_
  refine g_iload_n X dX3_give_4 rfl rfl ?_
  refine g_iconst X kI_3 dX3_give_5 rfl ?_
  refine g_imul X dX3_give_6 rfl ?_
  refine g_iload_n X dX3_give_7 rfl rfl ?_
  refine g_iadd X dX3_give_8 rfl ?_
  refine g_iload_n X dX3_give_9 rfl rfl ?_
  obtain ⟨c1, h⟩ := ck_e h
  refine g_iast X (pa_47 hq).1 (pa_47 hq).2.1 (pa_47 hq).2.2 (ib_e c1) dX3_give_10 rfl (fun σ2 e3 => ?_)
  replace h := lE_c e3 h
  obtain rfl := rv_e h
  exact g_vret X Y dX3_give_11

theorem dX3_giveAllTo_0 : decode cX3_giveAllTo 0 = .ok (.iconst 0, 1) := by decide +kernel
theorem dX3_giveAllTo_1 : decode cX3_giveAllTo 1 = .ok (.istore_n 3, 1) := by decide +kernel
theorem dX3_giveAllTo_2 : decode cX3_giveAllTo 2 = .ok (.iload_n 3, 1) := by decide +kernel
theorem dX3_giveAllTo_3 : decode cX3_giveAllTo 3 = .ok (.iconst 3, 1) := by decide +kernel
theorem dX3_giveAllTo_4 : decode cX3_giveAllTo 4 = .ok (.if_icmp .ge 26, 3) := by decide +kernel
theorem dX3_giveAllTo_7 : decode cX3_giveAllTo 7 = .ok (.aload_n 0, 1) := by decide +kernel
theorem dX3_giveAllTo_8 : decode cX3_giveAllTo 8 = .ok (.iload_n 1, 1) := by decide +kernel
theorem dX3_giveAllTo_9 : decode cX3_giveAllTo 9 = .ok (.iload_n 3, 1) := by decide +kernel
theorem dX3_giveAllTo_10 : decode cX3_giveAllTo 10 = .ok (.iload_n 3, 1) := by decide +kernel
theorem dX3_giveAllTo_11 : decode cX3_giveAllTo 11 = .ok (.iload_n 2, 1) := by decide +kernel
theorem dX3_giveAllTo_12 : decode cX3_giveAllTo 12 = .ok (.if_icmp .ne 8, 3) := by decide +kernel
theorem dX3_giveAllTo_15 : decode cX3_giveAllTo 15 = .ok (.bipush 12, 2) := by decide +kernel
theorem dX3_giveAllTo_17 : decode cX3_giveAllTo 17 = .ok (.goto 4, 3) := by decide +kernel
theorem dX3_giveAllTo_20 : decode cX3_giveAllTo 20 = .ok (.iconst 0, 1) := by decide +kernel
theorem dX3_giveAllTo_21 : decode cX3_giveAllTo 21 = .ok (.invokevirtual 19, 3) := by decide +kernel
theorem dX3_giveAllTo_24 : decode cX3_giveAllTo 24 = .ok (.iinc 3 1, 3) := by decide +kernel
theorem dX3_giveAllTo_27 : decode cX3_giveAllTo 27 = .ok (.goto (-25), 3) := by decide +kernel
theorem dX3_giveAllTo_30 : decode cX3_giveAllTo 30 = .ok (.return_, 1) := by decide +kernel
def f_Plan_giveAllTo_b21 (q : Nat) (k2 : Int32 → Int32 → Int32 → St → Option St) (x1 : Int32) (x2 : Int32) (x3 : Int32) (xs1 : Int32) (xs2 : Int32) (xs3 : Int32) (σ : St) : Option St :=
  bv (f_Plan_give q xs1 xs2 xs3 σ) fun σ2 => k2 x1 x2 (x3 + 1) σ2
set_option maxRecDepth 4000 in
theorem ok_Plan_giveAllTo_b21 {E : gE} {w : wT} {σ' : St} (X : gC E w cX3_giveAllTo 4 RX3 2) (Y : gQ E w none none σ') {q : Nat} (hq : isP q = true) {k2 : Int32 → Int32 → Int32 → St → Option St} (hk2 : ∀ (x1 : Int32) (x2 : Int32) (x3 : Int32) (σ : St), k2 x1 x2 x3 σ = some σ' → gW E w 4 σ 2 [some (.ref (w.1 q)), some (.int x1), some (.int x2), some (.int x3)] []) {x1 : Int32} {x2 : Int32} {x3 : Int32} {xs1 : Int32} {xs2 : Int32} {xs3 : Int32} (σ : St) (h : f_Plan_giveAllTo_b21 q k2 x1 x2 x3 xs1 xs2 xs3 σ = some σ') : gW E w 4 σ 21 [some (.ref (w.1 q)), some (.int x1), some (.int x2), some (.int x3)] [.int xs3, .int xs2, .int xs1, .ref (w.1 q)] := by
  unfold f_Plan_giveAllTo_b21 at h
  obtain ⟨σ2, h1, h⟩ := bv_e h
  refine g_callVV X [.int xs1, .int xs2, .int xs3] (ok_Plan_give X.inj h1) my_yX3_give mi_yX3_give ms_yX3_give ml_RX3_19 (po_ hq).1 (po_ hq).2.1 (po_ hq).2.2 (by decide) rfl dX3_giveAllTo_21 (Nat.le_of_ble_eq_true rfl) rfl rfl ?_
  refine g_iinc X [some (.ref (w.1 q)), some (.int x1), some (.int x2), some (.int (x3 + 1))] dX3_giveAllTo_24 rfl (ii_1 x3) (Nat.le_of_ble_eq_true rfl) rfl rfl rfl ?_
  refine g_goto X dX3_giveAllTo_27 (tgt := 2) rfl ?_
  exact hk2 x1 x2 (x3 + 1) σ2 h

def f_Plan_giveAllTo_b2 (q : Nat) (k2 : Int32 → Int32 → Int32 → St → Option St) (x1 : Int32) (x2 : Int32) (x3 : Int32) (σ : St) : Option St :=
  if (3 : Int32) ≤ x3 then (some σ) else (if x3 = x2 then (f_Plan_giveAllTo_b21 q k2 x1 x2 x3 x1 x3 12 σ) else (f_Plan_giveAllTo_b21 q k2 x1 x2 x3 x1 x3 0 σ))
set_option maxRecDepth 4000 in
theorem ok_Plan_giveAllTo_b2 {E : gE} {w : wT} {σ' : St} (X : gC E w cX3_giveAllTo 4 RX3 2) (Y : gQ E w none none σ') {q : Nat} (hq : isP q = true) {k2 : Int32 → Int32 → Int32 → St → Option St} (hk2 : ∀ (x1 : Int32) (x2 : Int32) (x3 : Int32) (σ : St), k2 x1 x2 x3 σ = some σ' → gW E w 4 σ 2 [some (.ref (w.1 q)), some (.int x1), some (.int x2), some (.int x3)] []) {x1 : Int32} {x2 : Int32} {x3 : Int32} (σ : St) (h : f_Plan_giveAllTo_b2 q k2 x1 x2 x3 σ = some σ') : gW E w 4 σ 2 [some (.ref (w.1 q)), some (.int x1), some (.int x2), some (.int x3)] [] := by
  unfold f_Plan_giveAllTo_b2 at h
  refine g_iload_n X dX3_giveAllTo_2 rfl rfl ?_
  refine g_iconst X kI_3 dX3_giveAllTo_3 rfl ?_
  refine g_icmp_ge X dX3_giveAllTo_4 (tgt := 30) rfl rfl (fun c1 => ?_) (fun c1 => ?_)
  · replace h := if_t c1 h
    obtain rfl := rv_e h
    exact g_vret X Y dX3_giveAllTo_30
  · replace h := if_f c1 h
    refine g_aload_n X dX3_giveAllTo_7 rfl rfl ?_
    refine g_iload_n X dX3_giveAllTo_8 rfl rfl ?_
    refine g_iload_n X dX3_giveAllTo_9 rfl rfl ?_
    refine g_iload_n X dX3_giveAllTo_10 rfl rfl ?_
    refine g_iload_n X dX3_giveAllTo_11 rfl rfl ?_
    refine g_icmp_ne X dX3_giveAllTo_12 (tgt := 20) rfl rfl (fun c2 => ?_) (fun c2 => ?_)
    · replace h := if_f c2 h
      refine g_iconst X kI_0 dX3_giveAllTo_20 rfl ?_
      exact ok_Plan_giveAllTo_b21 X Y hq hk2 σ h
    · replace h := if_t c2 h
      refine g_bipush X kB_12 dX3_giveAllTo_15 rfl ?_
      refine g_goto X dX3_giveAllTo_17 (tgt := 21) rfl ?_
      exact ok_Plan_giveAllTo_b21 X Y hq hk2 σ h
def f_Plan_giveAllTo_l2 (q : Nat) : Int32 → Int32 → Int32 → St → Option St := lp (fun _ _ _ _ => none) (f_Plan_giveAllTo_b2 q) FU
theorem ok_Plan_giveAllTo_l2 {E : gE} {w : wT} {σ' : St} (X : gC E w cX3_giveAllTo 4 RX3 2) (Y : gQ E w none none σ') {q : Nat} (hq : isP q = true) {x1 : Int32} {x2 : Int32} {x3 : Int32} (σ : St) (h : f_Plan_giveAllTo_l2 q x1 x2 x3 σ = some σ') : gW E w 4 σ 2 [some (.ref (w.1 q)), some (.int x1), some (.int x2), some (.int x3)] [] :=
  lp_ind (P := fun (k : Int32 → Int32 → Int32 → St → Option St) => ∀ (x1 : Int32) (x2 : Int32) (x3 : Int32) (σ : St), k x1 x2 x3 σ = some σ' → gW E w 4 σ 2 [some (.ref (w.1 q)), some (.int x1), some (.int x2), some (.int x3)] []) (fun _ _ _ _ hh => nn hh) (fun k hk x1 x2 x3 σ  hh => ok_Plan_giveAllTo_b2 X Y hq hk σ hh) FU x1 x2 x3 σ  h

def f_Plan_giveAllTo (q : Nat) (x1 : Int32) (x2 : Int32) (σ : St) : Option St :=
  ck (isP q) <| f_Plan_giveAllTo_l2 q x1 x2 0 σ
set_option maxRecDepth 4000 in
theorem ok_Plan_giveAllTo {w : wT} (hi : wInj w) {l : Launch} {q : Nat} {x1 : Int32} {x2 : Int32} {σ σ' : St} (h : f_Plan_giveAllTo q x1 x2 σ = some σ') : gM w l yX3_giveAllTo cX3_giveAllTo 4 none 2 [.ref (w.1 q), .int x1, .int x2] σ none σ' := by
  unfold f_Plan_giveAllTo at h
  obtain ⟨hq, h⟩ := ck_e h
  refine gM_of hi (by decide) [some (.ref (w.1 q)), some (.int x1), some (.int x2)] rfl (Nat.le_of_ble_eq_true rfl) (fun E hl X Y => ?_)
  refine g_iconst X kI_0 dX3_giveAllTo_0 rfl ?_
  refine g_istore_n X [some (.ref (w.1 q)), some (.int x1), some (.int x2), some (.int 0)] dX3_giveAllTo_1 (Nat.le_of_ble_eq_true rfl) rfl rfl rfl ?_
  exact ok_Plan_giveAllTo_l2 X Y hq σ h

theorem dX3_begin_0 : decode cX3_begin 0 = .ok (.iconst 0, 1) := by decide +kernel
theorem dX3_begin_1 : decode cX3_begin 1 = .ok (.istore_n 1, 1) := by decide +kernel
theorem dX3_begin_2 : decode cX3_begin 2 = .ok (.iload_n 1, 1) := by decide +kernel
theorem dX3_begin_3 : decode cX3_begin 3 = .ok (.bipush 10, 2) := by decide +kernel
theorem dX3_begin_5 : decode cX3_begin 5 = .ok (.if_icmp .ge 15, 3) := by decide +kernel
theorem dX3_begin_8 : decode cX3_begin 8 = .ok (.aload_n 0, 1) := by decide +kernel
theorem dX3_begin_9 : decode cX3_begin 9 = .ok (.iload_n 1, 1) := by decide +kernel
theorem dX3_begin_10 : decode cX3_begin 10 = .ok (.iconst 0, 1) := by decide +kernel
theorem dX3_begin_11 : decode cX3_begin 11 = .ok (.invokevirtual 15, 3) := by decide +kernel
theorem dX3_begin_14 : decode cX3_begin 14 = .ok (.iinc 1 1, 3) := by decide +kernel
theorem dX3_begin_17 : decode cX3_begin 17 = .ok (.goto (-15), 3) := by decide +kernel
theorem dX3_begin_20 : decode cX3_begin 20 = .ok (.return_, 1) := by decide +kernel
def f_Plan_begin_b2 (q : Nat) (k2 : Int32 → St → Option St) (x1 : Int32) (σ : St) : Option St :=
  if (10 : Int32) ≤ x1 then (some σ) else (bv (f_Plan_giveAllTo q x1 0 σ) fun σ3 => k2 (x1 + 1) σ3)
set_option maxRecDepth 4000 in
theorem ok_Plan_begin_b2 {E : gE} {w : wT} {σ' : St} (X : gC E w cX3_begin 2 RX3 3) (Y : gQ E w none none σ') {q : Nat} (hq : isP q = true) {k2 : Int32 → St → Option St} (hk2 : ∀ (x1 : Int32) (σ : St), k2 x1 σ = some σ' → gW E w 2 σ 2 [some (.ref (w.1 q)), some (.int x1)] []) {x1 : Int32} (σ : St) (h : f_Plan_begin_b2 q k2 x1 σ = some σ') : gW E w 2 σ 2 [some (.ref (w.1 q)), some (.int x1)] [] := by
  unfold f_Plan_begin_b2 at h
  refine g_iload_n X dX3_begin_2 rfl rfl ?_
  refine g_bipush X kB_10 dX3_begin_3 rfl ?_
  refine g_icmp_ge X dX3_begin_5 (tgt := 20) rfl rfl (fun c1 => ?_) (fun c1 => ?_)
  · replace h := if_t c1 h
    obtain rfl := rv_e h
    exact g_vret X Y dX3_begin_20
  · replace h := if_f c1 h
    refine g_aload_n X dX3_begin_8 rfl rfl ?_
    refine g_iload_n X dX3_begin_9 rfl rfl ?_
    refine g_iconst X kI_0 dX3_begin_10 rfl ?_
    obtain ⟨σ3, h2, h⟩ := bv_e h
    refine g_callVV X [.int x1, .int 0] (ok_Plan_giveAllTo X.inj h2) my_yX3_giveAllTo mi_yX3_giveAllTo ms_yX3_giveAllTo ml_RX3_15 (po_ hq).1 (po_ hq).2.1 (po_ hq).2.2 (by decide) rfl dX3_begin_11 (Nat.le_of_ble_eq_true rfl) rfl rfl ?_
    refine g_iinc X [some (.ref (w.1 q)), some (.int (x1 + 1))] dX3_begin_14 rfl (ii_1 x1) (Nat.le_of_ble_eq_true rfl) rfl rfl rfl ?_
    refine g_goto X dX3_begin_17 (tgt := 2) rfl ?_
    exact hk2 (x1 + 1) σ3 h
def f_Plan_begin_l2 (q : Nat) : Int32 → St → Option St := lp (fun _ _ => none) (f_Plan_begin_b2 q) FU
theorem ok_Plan_begin_l2 {E : gE} {w : wT} {σ' : St} (X : gC E w cX3_begin 2 RX3 3) (Y : gQ E w none none σ') {q : Nat} (hq : isP q = true) {x1 : Int32} (σ : St) (h : f_Plan_begin_l2 q x1 σ = some σ') : gW E w 2 σ 2 [some (.ref (w.1 q)), some (.int x1)] [] :=
  lp_ind (P := fun (k : Int32 → St → Option St) => ∀ (x1 : Int32) (σ : St), k x1 σ = some σ' → gW E w 2 σ 2 [some (.ref (w.1 q)), some (.int x1)] []) (fun _ _ hh => nn hh) (fun k hk x1 σ  hh => ok_Plan_begin_b2 X Y hq hk σ hh) FU x1 σ  h

def f_Plan_begin (q : Nat) (σ : St) : Option St :=
  ck (isP q) <| f_Plan_begin_l2 q 0 σ
set_option maxRecDepth 4000 in
theorem ok_Plan_begin {w : wT} (hi : wInj w) {l : Launch} {q : Nat} {σ σ' : St} (h : f_Plan_begin q σ = some σ') : gM w l yX3_begin cX3_begin 2 none 3 [.ref (w.1 q)] σ none σ' := by
  unfold f_Plan_begin at h
  obtain ⟨hq, h⟩ := ck_e h
  refine gM_of hi (by decide) [some (.ref (w.1 q))] rfl (Nat.le_of_ble_eq_true rfl) (fun E hl X Y => ?_)
  refine g_iconst X kI_0 dX3_begin_0 rfl ?_
  refine g_istore_n X [some (.ref (w.1 q)), some (.int 0)] dX3_begin_1 (Nat.le_of_ble_eq_true rfl) rfl rfl rfl ?_
  exact ok_Plan_begin_l2 X Y hq σ h

theorem dJ7_fill_d0a16_0 : decode cJ7_fill_d0a16 0 = .ok (.iconst 0, 1) := by decide +kernel
theorem dJ7_fill_d0a16_1 : decode cJ7_fill_d0a16 1 = .ok (.istore_n 3, 1) := by decide +kernel
theorem dJ7_fill_d0a16_2 : decode cJ7_fill_d0a16 2 = .ok (.aload_n 0, 1) := by decide +kernel
theorem dJ7_fill_d0a16_3 : decode cJ7_fill_d0a16 3 = .ok (.arraylength, 1) := by decide +kernel
theorem dJ7_fill_d0a16_4 : decode cJ7_fill_d0a16 4 = .ok (.istore 4, 2) := by decide +kernel
theorem dJ7_fill_d0a16_6 : decode cJ7_fill_d0a16 6 = .ok (.iload_n 3, 1) := by decide +kernel
theorem dJ7_fill_d0a16_7 : decode cJ7_fill_d0a16 7 = .ok (.iload 4, 2) := by decide +kernel
theorem dJ7_fill_d0a16_9 : decode cJ7_fill_d0a16 9 = .ok (.if_icmp .ge 13, 3) := by decide +kernel
theorem dJ7_fill_d0a16_12 : decode cJ7_fill_d0a16 12 = .ok (.aload_n 0, 1) := by decide +kernel
theorem dJ7_fill_d0a16_13 : decode cJ7_fill_d0a16 13 = .ok (.iload_n 3, 1) := by decide +kernel
theorem dJ7_fill_d0a16_14 : decode cJ7_fill_d0a16 14 = .ok (.lload_n 1, 1) := by decide +kernel
theorem dJ7_fill_d0a16_15 : decode cJ7_fill_d0a16 15 = .ok (.lastore, 1) := by decide +kernel
theorem dJ7_fill_d0a16_16 : decode cJ7_fill_d0a16 16 = .ok (.iinc 3 1, 3) := by decide +kernel
theorem dJ7_fill_d0a16_19 : decode cJ7_fill_d0a16 19 = .ok (.goto (-13), 3) := by decide +kernel
theorem dJ7_fill_d0a16_22 : decode cJ7_fill_d0a16 22 = .ok (.return_, 1) := by decide +kernel
def f_Ar_fillJ_b6 (a : Nat) (k6 : Int64 → Int32 → Int32 → St → Option St) (x1 : Int64) (x3 : Int32) (x4 : Int32) (σ : St) : Option St :=
  if x4 ≤ x3 then (some σ) else (ck (ib x3 (ln a)) <| lE (stL σ a x3.toNatClampNeg x1) fun σ3 => k6 x1 (x3 + 1) x4 σ3)
set_option maxRecDepth 4000 in
theorem ok_Ar_fillJ_b6 {E : gE} {w : wT} {σ' : St} (X : gC E w cJ7_fill_d0a16 5 RJ7 1) (Y : gQ E w none none σ') {a : Nat} (ha : isJ a = true) {k6 : Int64 → Int32 → Int32 → St → Option St} (hk6 : ∀ (x1 : Int64) (x3 : Int32) (x4 : Int32) (σ : St), k6 x1 x3 x4 σ = some σ' → gW E w 5 σ 6 [some (.ref (w.1 a)), some (.long x1), none, some (.int x3), some (.int x4)] []) {x1 : Int64} {x3 : Int32} {x4 : Int32} (σ : St) (h : f_Ar_fillJ_b6 a k6 x1 x3 x4 σ = some σ') : gW E w 5 σ 6 [some (.ref (w.1 a)), some (.long x1), none, some (.int x3), some (.int x4)] [] := by
  unfold f_Ar_fillJ_b6 at h
  refine g_iload_n X dJ7_fill_d0a16_6 rfl rfl ?_
  refine g_iload X dJ7_fill_d0a16_7 rfl rfl ?_
  refine g_icmp_ge X dJ7_fill_d0a16_9 (tgt := 22) rfl rfl (fun c1 => ?_) (fun c1 => ?_)
  · replace h := if_t c1 h
    obtain rfl := rv_e h
    exact g_vret X Y dJ7_fill_d0a16_22
  · replace h := if_f c1 h
    refine g_aload_n X dJ7_fill_d0a16_12 rfl rfl ?_
    refine g_iload_n X dJ7_fill_d0a16_13 rfl rfl ?_
    refine g_lload_n X dJ7_fill_d0a16_14 rfl rfl ?_
    obtain ⟨c2, h⟩ := ck_e h
    refine g_last X (isJ_e ha).1 (isJ_e ha).2.1 (isJ_e ha).2.2 (ib_e c2) dJ7_fill_d0a16_15 rfl (fun σ3 e4 => ?_)
    replace h := lE_c e4 h
    refine g_iinc X [some (.ref (w.1 a)), some (.long x1), none, some (.int (x3 + 1)), some (.int x4)] dJ7_fill_d0a16_16 rfl (ii_1 x3) (Nat.le_of_ble_eq_true rfl) rfl rfl rfl ?_
    refine g_goto X dJ7_fill_d0a16_19 (tgt := 6) rfl ?_
    exact hk6 x1 (x3 + 1) x4 σ3 h
def f_Ar_fillJ_l6 (a : Nat) : Int64 → Int32 → Int32 → St → Option St := lp (fun _ _ _ _ => none) (f_Ar_fillJ_b6 a) FU
theorem ok_Ar_fillJ_l6 {E : gE} {w : wT} {σ' : St} (X : gC E w cJ7_fill_d0a16 5 RJ7 1) (Y : gQ E w none none σ') {a : Nat} (ha : isJ a = true) {x1 : Int64} {x3 : Int32} {x4 : Int32} (σ : St) (h : f_Ar_fillJ_l6 a x1 x3 x4 σ = some σ') : gW E w 5 σ 6 [some (.ref (w.1 a)), some (.long x1), none, some (.int x3), some (.int x4)] [] :=
  lp_ind (P := fun (k : Int64 → Int32 → Int32 → St → Option St) => ∀ (x1 : Int64) (x3 : Int32) (x4 : Int32) (σ : St), k x1 x3 x4 σ = some σ' → gW E w 5 σ 6 [some (.ref (w.1 a)), some (.long x1), none, some (.int x3), some (.int x4)] []) (fun _ _ _ _ hh => nn hh) (fun k hk x1 x3 x4 σ  hh => ok_Ar_fillJ_b6 X Y ha hk σ hh) FU x1 x3 x4 σ  h

def f_Ar_fillJ (a : Nat) (x1 : Int64) (σ : St) : Option St :=
  ck (isJ a) <| f_Ar_fillJ_l6 a x1 0 (Int32.ofNat (ln a)) σ
set_option maxRecDepth 4000 in
theorem ok_Ar_fillJ {w : wT} (hi : wInj w) {l : Launch} {a : Nat} {x1 : Int64} {σ σ' : St} (h : f_Ar_fillJ a x1 σ = some σ') : gM w l yJ7_fill_d0a16 cJ7_fill_d0a16 5 none 1 [.ref (w.1 a), .long x1] σ none σ' := by
  unfold f_Ar_fillJ at h
  obtain ⟨ha, h⟩ := ck_e h
  refine gM_of hi (by decide) [some (.ref (w.1 a)), some (.long x1), none] rfl (Nat.le_of_ble_eq_true rfl) (fun E hl X Y => ?_)
  refine g_iconst X kI_0 dJ7_fill_d0a16_0 rfl ?_
  refine g_istore_n X [some (.ref (w.1 a)), some (.long x1), none, some (.int 0)] dJ7_fill_d0a16_1 (Nat.le_of_ble_eq_true rfl) rfl rfl rfl ?_
  refine g_aload_n X dJ7_fill_d0a16_2 rfl rfl ?_
  refine g_alenL X (isJ_e ha).1 (isJ_e ha).2.1 rfl dJ7_fill_d0a16_3 rfl ?_
  refine g_istore X [some (.ref (w.1 a)), some (.long x1), none, some (.int 0), some (.int (Int32.ofNat (ln a)))] dJ7_fill_d0a16_4 (Nat.le_of_ble_eq_true rfl) rfl rfl rfl ?_
  exact ok_Ar_fillJ_l6 X Y ha σ h

theorem dX2_begin_0 : decode cX2_begin 0 = .ok (.aload_n 0, 1) := by decide +kernel
theorem dX2_begin_1 : decode cX2_begin 1 = .ok (.iconst 0, 1) := by decide +kernel
theorem dX2_begin_2 : decode cX2_begin 2 = .ok (.putfield 9, 3) := by decide +kernel
theorem dX2_begin_5 : decode cX2_begin 5 = .ok (.aload_n 0, 1) := by decide +kernel
theorem dX2_begin_6 : decode cX2_begin 6 = .ok (.getfield 19, 3) := by decide +kernel
theorem dX2_begin_9 : decode cX2_begin 9 = .ok (.lconst 0, 1) := by decide +kernel
theorem dX2_begin_10 : decode cX2_begin 10 = .ok (.invokestatic 36, 3) := by decide +kernel
theorem dX2_begin_13 : decode cX2_begin 13 = .ok (.aload_n 0, 1) := by decide +kernel
theorem dX2_begin_14 : decode cX2_begin 14 = .ok (.getfield 23, 3) := by decide +kernel
theorem dX2_begin_17 : decode cX2_begin 17 = .ok (.lconst 0, 1) := by decide +kernel
theorem dX2_begin_18 : decode cX2_begin 18 = .ok (.invokestatic 36, 3) := by decide +kernel
theorem dX2_begin_21 : decode cX2_begin 21 = .ok (.return_, 1) := by decide +kernel
def f_History_begin (σ : St) : Option St :=
  lE (stF σ 11 0) fun σ1 => bv (f_Ar_fillJ 59 0 σ1) fun σ4 => bv (f_Ar_fillJ 60 0 σ4) fun σ6 => some σ6
set_option maxRecDepth 4000 in
theorem ok_History_begin {w : wT} (hi : wInj w) {l : Launch} {σ σ' : St} (h : f_History_begin σ = some σ') : gM w l yX2_begin cX2_begin 1 none 2 [.ref (w.1 7)] σ none σ' := by
  unfold f_History_begin at h
  refine gM_of hi (by decide) [some (.ref (w.1 7))] rfl (Nat.le_of_ble_eq_true rfl) (fun E hl X Y => ?_)
  refine g_aload_n X dX2_begin_0 rfl rfl ?_
  refine g_iconst X kI_0 dX2_begin_1 rfl ?_
  refine gp_RX2_9 X dX2_begin_2 rfl (fun σ1 e2 => ?_)
  replace h := lE_c e2 h
  refine g_aload_n X dX2_begin_5 rfl rfl ?_
  refine gf_RX2_19 X dX2_begin_6 rfl ?_
  refine g_lconst X kL_0 dX2_begin_9 rfl ?_
  obtain ⟨σ4, h3, h⟩ := bv_e h
  refine g_callSV X [.ref (w.1 59), .long 0] (ok_Ar_fillJ X.inj h3) my_yJ7_fill_d0a16 mt_yJ7_fill_d0a16 ml_RX2_36 (by decide) rfl dX2_begin_10 (Nat.le_of_ble_eq_true rfl) rfl rfl ?_
  refine g_aload_n X dX2_begin_13 rfl rfl ?_
  refine gf_RX2_23 X dX2_begin_14 rfl ?_
  refine g_lconst X kL_0 dX2_begin_17 rfl ?_
  obtain ⟨σ6, h5, h⟩ := bv_e h
  refine g_callSV X [.ref (w.1 60), .long 0] (ok_Ar_fillJ X.inj h5) my_yJ7_fill_d0a16 mt_yJ7_fill_d0a16 ml_RX2_36 (by decide) rfl dX2_begin_18 (Nat.le_of_ble_eq_true rfl) rfl rfl ?_
  obtain rfl := rv_e h
  exact g_vret X Y dX2_begin_21

theorem dX8_game_0 : decode cX8_game 0 = .ok (.aload_n 0, 1) := by decide +kernel
theorem dX8_game_1 : decode cX8_game 1 = .ok (.getfield 26, 3) := by decide +kernel
theorem dX8_game_4 : decode cX8_game 4 = .ok (.aload_n 0, 1) := by decide +kernel
theorem dX8_game_5 : decode cX8_game 5 = .ok (.getfield 19, 3) := by decide +kernel
theorem dX8_game_8 : decode cX8_game 8 = .ok (.aload_n 0, 1) := by decide +kernel
theorem dX8_game_9 : decode cX8_game 9 = .ok (.getfield 69, 3) := by decide +kernel
theorem dX8_game_12 : decode cX8_game 12 = .ok (.invokevirtual 129, 3) := by decide +kernel
theorem dX8_game_15 : decode cX8_game 15 = .ok (.istore_n 1, 1) := by decide +kernel
theorem dX8_game_16 : decode cX8_game 16 = .ok (.aload_n 0, 1) := by decide +kernel
theorem dX8_game_17 : decode cX8_game 17 = .ok (.getfield 19, 3) := by decide +kernel
theorem dX8_game_20 : decode cX8_game 20 = .ok (.iconst 0, 1) := by decide +kernel
theorem dX8_game_21 : decode cX8_game 21 = .ok (.putfield 120, 3) := by decide +kernel
theorem dX8_game_24 : decode cX8_game 24 = .ok (.iload_n 1, 1) := by decide +kernel
theorem dX8_game_25 : decode cX8_game 25 = .ok (.ifCond .ne 27, 3) := by decide +kernel
theorem dX8_game_28 : decode cX8_game 28 = .ok (.aload_n 0, 1) := by decide +kernel
theorem dX8_game_29 : decode cX8_game 29 = .ok (.aload_n 0, 1) := by decide +kernel
theorem dX8_game_30 : decode cX8_game 30 = .ok (.getfield 26, 3) := by decide +kernel
theorem dX8_game_33 : decode cX8_game 33 = .ok (.getfield 133, 3) := by decide +kernel
theorem dX8_game_36 : decode cX8_game 36 = .ok (.putfield 72, 3) := by decide +kernel
theorem dX8_game_39 : decode cX8_game 39 = .ok (.ldc2_w 136, 3) := by decide +kernel
theorem dX8_game_42 : decode cX8_game 42 = .ok (.aload_n 0, 1) := by decide +kernel
theorem dX8_game_43 : decode cX8_game 43 = .ok (.getfield 26, 3) := by decide +kernel
theorem dX8_game_46 : decode cX8_game 46 = .ok (.getfield 138, 3) := by decide +kernel
theorem dX8_game_49 : decode cX8_game 49 = .ok (.i2l, 1) := by decide +kernel
theorem dX8_game_50 : decode cX8_game 50 = .ok (.lsub, 1) := by decide +kernel
theorem dX8_game_51 : decode cX8_game 51 = .ok (.lreturn, 1) := by decide +kernel
theorem dX8_game_52 : decode cX8_game 52 = .ok (.aload_n 0, 1) := by decide +kernel
theorem dX8_game_53 : decode cX8_game 53 = .ok (.getfield 65, 3) := by decide +kernel
theorem dX8_game_56 : decode cX8_game 56 = .ok (.astore_n 2, 1) := by decide +kernel
theorem dX8_game_57 : decode cX8_game 57 = .ok (.aload_n 0, 1) := by decide +kernel
theorem dX8_game_58 : decode cX8_game 58 = .ok (.aload_n 0, 1) := by decide +kernel
theorem dX8_game_59 : decode cX8_game 59 = .ok (.getfield 69, 3) := by decide +kernel
theorem dX8_game_62 : decode cX8_game 62 = .ok (.putfield 65, 3) := by decide +kernel
theorem dX8_game_65 : decode cX8_game 65 = .ok (.aload_n 0, 1) := by decide +kernel
theorem dX8_game_66 : decode cX8_game 66 = .ok (.aload_n 2, 1) := by decide +kernel
theorem dX8_game_67 : decode cX8_game 67 = .ok (.putfield 69, 3) := by decide +kernel
theorem dX8_game_70 : decode cX8_game 70 = .ok (.aload_n 0, 1) := by decide +kernel
theorem dX8_game_71 : decode cX8_game 71 = .ok (.getfield 33, 3) := by decide +kernel
theorem dX8_game_74 : decode cX8_game 74 = .ok (.invokevirtual 141, 3) := by decide +kernel
theorem dX8_game_77 : decode cX8_game 77 = .ok (.aload_n 0, 1) := by decide +kernel
theorem dX8_game_78 : decode cX8_game 78 = .ok (.getfield 47, 3) := by decide +kernel
theorem dX8_game_81 : decode cX8_game 81 = .ok (.invokevirtual 144, 3) := by decide +kernel
theorem dX8_game_84 : decode cX8_game 84 = .ok (.aload_n 0, 1) := by decide +kernel
theorem dX8_game_85 : decode cX8_game 85 = .ok (.getfield 65, 3) := by decide +kernel
theorem dX8_game_88 : decode cX8_game 88 = .ok (.getfield 145, 3) := by decide +kernel
theorem dX8_game_91 : decode cX8_game 91 = .ok (.i2l, 1) := by decide +kernel
theorem dX8_game_92 : decode cX8_game 92 = .ok (.lreturn, 1) := by decide +kernel
def f_HG_game (σ : St) : Option (Int64 × St) :=
  bd (f_Reader_readText (rR σ 1) σ) fun r3 σ2 => lE (stF σ2 2 0) fun σ4 => if r3 = 0 then (lE (stF σ4 0 (rF σ4 7)) fun σ16 => some (((-9000000000000000100)) - ((rF σ16 8).toInt64), σ16)) else (lE (stR σ4 0 (rR σ4 1)) fun σ7 => lE (stR σ7 1 (rR σ4 0)) fun σ9 => bv (f_Plan_begin 4 σ9) fun σ12 => bv (f_History_begin σ12) fun σ14 => ck (isG (rR σ14 0)) <| some ((rF σ14 ((rR σ14 0) + 10)).toInt64, σ14))
set_option maxRecDepth 4000 in
theorem ok_HG_game {w : wT} (hi : wInj w) {l : Launch} {σ σ' : St} {r : Int64} (h : f_HG_game σ = some (r, σ')) : gM w l yX8_game cX8_game 3 (some .long) 46 [.ref (w.1 0)] σ (some (.long r)) σ' := by
  unfold f_HG_game at h
  refine gM_of hi (by decide) [some (.ref (w.1 0))] rfl (Nat.le_of_ble_eq_true rfl) (fun E hl X Y => ?_)
  refine g_aload_n X dX8_game_0 rfl rfl ?_
  refine gf_RX8_26 X dX8_game_1 rfl ?_
  refine g_aload_n X dX8_game_4 rfl rfl ?_
  refine gf_RX8_19 X dX8_game_5 rfl ?_
  refine g_aload_n X dX8_game_8 rfl rfl ?_
  refine gf_RX8_69 X dX8_game_9 rfl ?_
  obtain ⟨r3, σ2, h1, h⟩ := bd_e h
  refine g_callVI X [.ref (w.1 2), .ref (w.1 (rR σ 1))] (ok_Reader_readText X.inj h1) my_yX4_readText mi_yX4_readText ms_yX4_readText ml_RX8_129 (by decide) rfl rfl (by decide) rfl dX8_game_12 (Nat.le_of_ble_eq_true rfl) rfl rfl ?_
  refine g_istore_n X [some (.ref (w.1 0)), some (.int r3)] dX8_game_15 (Nat.le_of_ble_eq_true rfl) rfl rfl rfl ?_
  refine g_aload_n X dX8_game_16 rfl rfl ?_
  refine gf_RX8_19 X dX8_game_17 rfl ?_
  refine g_iconst X kI_0 dX8_game_20 rfl ?_
  refine gp_RX8_120 X dX8_game_21 rfl (fun σ4 e5 => ?_)
  replace h := lE_c e5 h
  refine g_iload_n X dX8_game_24 rfl rfl ?_
  refine g_if_ne X dX8_game_25 (tgt := 52) rfl rfl (fun c6 => ?_) (fun c6 => ?_)
  · replace h := if_f c6 h
    refine g_aload_n X dX8_game_52 rfl rfl ?_
    refine gf_RX8_65 X dX8_game_53 rfl ?_
    refine g_astore_n X [some (.ref (w.1 0)), some (.int r3), some (.ref (w.1 (rR σ4 0)))] dX8_game_56 (Nat.le_of_ble_eq_true rfl) rfl rfl rfl ?_
    refine g_aload_n X dX8_game_57 rfl rfl ?_
    refine g_aload_n X dX8_game_58 rfl rfl ?_
    refine gf_RX8_69 X dX8_game_59 rfl ?_
    refine gp_RX8_65 X dX8_game_62 rfl (fun σ7 e8 => ?_)
    replace h := lE_c e8 h
    refine g_aload_n X dX8_game_65 rfl rfl ?_
    refine g_aload_n X dX8_game_66 rfl rfl ?_
    refine gp_RX8_69 X dX8_game_67 rfl (fun σ9 e10 => ?_)
    replace h := lE_c e10 h
    refine g_aload_n X dX8_game_70 rfl rfl ?_
    refine gf_RX8_33 X dX8_game_71 rfl ?_
    obtain ⟨σ12, h11, h⟩ := bv_e h
    refine g_callVV X [] (ok_Plan_begin X.inj h11) my_yX3_begin mi_yX3_begin ms_yX3_begin ml_RX8_141 (po_ (by decide : isP 4 = true)).1 (po_ (by decide : isP 4 = true)).2.1 (po_ (by decide : isP 4 = true)).2.2 (by decide) rfl dX8_game_74 (Nat.le_of_ble_eq_true rfl) rfl rfl ?_
    refine g_aload_n X dX8_game_77 rfl rfl ?_
    refine gf_RX8_47 X dX8_game_78 rfl ?_
    obtain ⟨σ14, h13, h⟩ := bv_e h
    refine g_callVV X [] (ok_History_begin X.inj h13) my_yX2_begin mi_yX2_begin ms_yX2_begin ml_RX8_144 (by decide) rfl rfl (by decide) rfl dX8_game_81 (Nat.le_of_ble_eq_true rfl) rfl rfl ?_
    refine g_aload_n X dX8_game_84 rfl rfl ?_
    refine gf_RX8_65 X dX8_game_85 rfl ?_
    obtain ⟨c15, h⟩ := ck_e h
    refine gf_RX8_145 c15 X dX8_game_88 rfl ?_
    refine g_i2l X dX8_game_91 rfl ?_
    obtain ⟨rfl, rfl⟩ := rt_e h
    exact g_lret X Y dX8_game_92
  · replace h := if_t c6 h
    refine g_aload_n X dX8_game_28 rfl rfl ?_
    refine g_aload_n X dX8_game_29 rfl rfl ?_
    refine gf_RX8_26 X dX8_game_30 rfl ?_
    refine gf_RX8_133 X dX8_game_33 rfl ?_
    refine gp_RX8_72 X dX8_game_36 rfl (fun σ16 e17 => ?_)
    replace h := lE_c e17 h
    refine g_ldc2 X dX8_game_39 kc_RX8_136 rfl ?_
    refine g_aload_n X dX8_game_42 rfl rfl ?_
    refine gf_RX8_26 X dX8_game_43 rfl ?_
    refine gf_RX8_138 X dX8_game_46 rfl ?_
    refine g_i2l X dX8_game_49 rfl ?_
    refine g_lsub X dX8_game_50 rfl ?_
    obtain ⟨rfl, rfl⟩ := rt_e h
    exact g_lret X Y dX8_game_51

theorem dX8_fault_0 : decode cX8_fault 0 = .ok (.aload_n 0, 1) := by decide +kernel
theorem dX8_fault_1 : decode cX8_fault 1 = .ok (.getfield 72, 3) := by decide +kernel
theorem dX8_fault_4 : decode cX8_fault 4 = .ok (.ireturn, 1) := by decide +kernel
def f_HG_fault (σ : St) : Option (Int32 × St) :=
  some (rF σ 0, σ)
set_option maxRecDepth 4000 in
theorem ok_HG_fault {w : wT} (hi : wInj w) {l : Launch} {σ σ' : St} {r : Int32} (h : f_HG_fault σ = some (r, σ')) : gM w l yX8_fault cX8_fault 1 (some .int) 1 [.ref (w.1 0)] σ (some (.int r)) σ' := by
  unfold f_HG_fault at h
  refine gM_of hi (by decide) [some (.ref (w.1 0))] rfl (Nat.le_of_ble_eq_true rfl) (fun E hl X Y => ?_)
  refine g_aload_n X dX8_fault_0 rfl rfl ?_
  refine gf_RX8_72 X dX8_fault_1 rfl ?_
  obtain ⟨rfl, rfl⟩ := rt_e h
  exact g_iret X Y dX8_fault_4

theorem dX8_isPlace_0 : decode cX8_isPlace 0 = .ok (.iload_n 1, 1) := by decide +kernel
theorem dX8_isPlace_1 : decode cX8_isPlace 1 = .ok (.ifCond .lt 18, 3) := by decide +kernel
theorem dX8_isPlace_4 : decode cX8_isPlace 4 = .ok (.iload_n 1, 1) := by decide +kernel
theorem dX8_isPlace_5 : decode cX8_isPlace 5 = .ok (.aload_n 0, 1) := by decide +kernel
theorem dX8_isPlace_6 : decode cX8_isPlace 6 = .ok (.getfield 65, 3) := by decide +kernel
theorem dX8_isPlace_9 : decode cX8_isPlace 9 = .ok (.getfield 145, 3) := by decide +kernel
theorem dX8_isPlace_12 : decode cX8_isPlace 12 = .ok (.if_icmp .ge 7, 3) := by decide +kernel
theorem dX8_isPlace_15 : decode cX8_isPlace 15 = .ok (.iconst 1, 1) := by decide +kernel
theorem dX8_isPlace_16 : decode cX8_isPlace 16 = .ok (.goto 4, 3) := by decide +kernel
theorem dX8_isPlace_19 : decode cX8_isPlace 19 = .ok (.iconst 0, 1) := by decide +kernel
theorem dX8_isPlace_20 : decode cX8_isPlace 20 = .ok (.ireturn, 1) := by decide +kernel
def f_HG_isPlace (x1 : Int32) (σ : St) : Option (Int32 × St) :=
  if x1 < 0 then (some (0, σ)) else (ck (isG (rR σ 0)) <| if (rF σ ((rR σ 0) + 10)) ≤ x1 then (some (0, σ)) else (some (1, σ)))
set_option maxRecDepth 4000 in
theorem ok_HG_isPlace {w : wT} (hi : wInj w) {l : Launch} {x1 : Int32} {σ σ' : St} {r : Int32} (h : f_HG_isPlace x1 σ = some (r, σ')) : gM w l yX8_isPlace cX8_isPlace 2 (some .boolean) 1 [.ref (w.1 0), .int x1] σ (some (.int r)) σ' := by
  unfold f_HG_isPlace at h
  refine gM_of hi (by decide) [some (.ref (w.1 0)), some (.int x1)] rfl (Nat.le_of_ble_eq_true rfl) (fun E hl X Y => ?_)
  refine g_iload_n X dX8_isPlace_0 rfl rfl ?_
  refine g_if_lt X dX8_isPlace_1 (tgt := 19) rfl rfl (fun c1 => ?_) (fun c1 => ?_)
  · replace h := if_t c1 h
    refine g_iconst X kI_0 dX8_isPlace_19 rfl ?_
    obtain ⟨rfl, rfl⟩ := rt_e h
    exact g_zret X Y rfl dX8_isPlace_20
  · replace h := if_f c1 h
    refine g_iload_n X dX8_isPlace_4 rfl rfl ?_
    refine g_aload_n X dX8_isPlace_5 rfl rfl ?_
    refine gf_RX8_65 X dX8_isPlace_6 rfl ?_
    obtain ⟨c2, h⟩ := ck_e h
    refine gf_RX8_145 c2 X dX8_isPlace_9 rfl ?_
    refine g_icmp_ge X dX8_isPlace_12 (tgt := 19) rfl rfl (fun c3 => ?_) (fun c3 => ?_)
    · replace h := if_t c3 h
      refine g_iconst X kI_0 dX8_isPlace_19 rfl ?_
      obtain ⟨rfl, rfl⟩ := rt_e h
      exact g_zret X Y rfl dX8_isPlace_20
    · replace h := if_f c3 h
      refine g_iconst X kI_1 dX8_isPlace_15 rfl ?_
      refine g_goto X dX8_isPlace_16 (tgt := 20) rfl ?_
      obtain ⟨rfl, rfl⟩ := rt_e h
      exact g_zret X Y rfl dX8_isPlace_20

theorem dX8_place_0 : decode cX8_place 0 = .ok (.aload_n 0, 1) := by decide +kernel
theorem dX8_place_1 : decode cX8_place 1 = .ok (.iload_n 1, 1) := by decide +kernel
theorem dX8_place_2 : decode cX8_place 2 = .ok (.invokevirtual 148, 3) := by decide +kernel
theorem dX8_place_5 : decode cX8_place 5 = .ok (.ifCond .ne 7, 3) := by decide +kernel
theorem dX8_place_8 : decode cX8_place 8 = .ok (.ldc2_w 83, 3) := by decide +kernel
theorem dX8_place_11 : decode cX8_place 11 = .ok (.lreturn, 1) := by decide +kernel
theorem dX8_place_12 : decode cX8_place 12 = .ok (.iload_n 2, 1) := by decide +kernel
theorem dX8_place_13 : decode cX8_place 13 = .ok (.tableswitch 105 0 5 #[39, 50, 61, 72, 83, 94], 39) := by decide +kernel
theorem dX8_place_52 : decode cX8_place 52 = .ok (.aload_n 0, 1) := by decide +kernel
theorem dX8_place_53 : decode cX8_place 53 = .ok (.getfield 65, 3) := by decide +kernel
theorem dX8_place_56 : decode cX8_place 56 = .ok (.getfield 151, 3) := by decide +kernel
theorem dX8_place_59 : decode cX8_place 59 = .ok (.iload_n 1, 1) := by decide +kernel
theorem dX8_place_60 : decode cX8_place 60 = .ok (.iaload, 1) := by decide +kernel
theorem dX8_place_61 : decode cX8_place 61 = .ok (.i2l, 1) := by decide +kernel
theorem dX8_place_62 : decode cX8_place 62 = .ok (.lreturn, 1) := by decide +kernel
theorem dX8_place_63 : decode cX8_place 63 = .ok (.aload_n 0, 1) := by decide +kernel
theorem dX8_place_64 : decode cX8_place 64 = .ok (.getfield 65, 3) := by decide +kernel
theorem dX8_place_67 : decode cX8_place 67 = .ok (.getfield 154, 3) := by decide +kernel
theorem dX8_place_70 : decode cX8_place 70 = .ok (.iload_n 1, 1) := by decide +kernel
theorem dX8_place_71 : decode cX8_place 71 = .ok (.iaload, 1) := by decide +kernel
theorem dX8_place_72 : decode cX8_place 72 = .ok (.i2l, 1) := by decide +kernel
theorem dX8_place_73 : decode cX8_place 73 = .ok (.lreturn, 1) := by decide +kernel
theorem dX8_place_74 : decode cX8_place 74 = .ok (.aload_n 0, 1) := by decide +kernel
theorem dX8_place_75 : decode cX8_place 75 = .ok (.getfield 65, 3) := by decide +kernel
theorem dX8_place_78 : decode cX8_place 78 = .ok (.getfield 157, 3) := by decide +kernel
theorem dX8_place_81 : decode cX8_place 81 = .ok (.iload_n 1, 1) := by decide +kernel
theorem dX8_place_82 : decode cX8_place 82 = .ok (.iaload, 1) := by decide +kernel
theorem dX8_place_83 : decode cX8_place 83 = .ok (.i2l, 1) := by decide +kernel
theorem dX8_place_84 : decode cX8_place 84 = .ok (.lreturn, 1) := by decide +kernel
theorem dX8_place_85 : decode cX8_place 85 = .ok (.aload_n 0, 1) := by decide +kernel
theorem dX8_place_86 : decode cX8_place 86 = .ok (.getfield 65, 3) := by decide +kernel
theorem dX8_place_89 : decode cX8_place 89 = .ok (.getfield 160, 3) := by decide +kernel
theorem dX8_place_92 : decode cX8_place 92 = .ok (.iload_n 1, 1) := by decide +kernel
theorem dX8_place_93 : decode cX8_place 93 = .ok (.iaload, 1) := by decide +kernel
theorem dX8_place_94 : decode cX8_place 94 = .ok (.i2l, 1) := by decide +kernel
theorem dX8_place_95 : decode cX8_place 95 = .ok (.lreturn, 1) := by decide +kernel
theorem dX8_place_96 : decode cX8_place 96 = .ok (.aload_n 0, 1) := by decide +kernel
theorem dX8_place_97 : decode cX8_place 97 = .ok (.getfield 65, 3) := by decide +kernel
theorem dX8_place_100 : decode cX8_place 100 = .ok (.getfield 163, 3) := by decide +kernel
theorem dX8_place_103 : decode cX8_place 103 = .ok (.iload_n 1, 1) := by decide +kernel
theorem dX8_place_104 : decode cX8_place 104 = .ok (.iaload, 1) := by decide +kernel
theorem dX8_place_105 : decode cX8_place 105 = .ok (.i2l, 1) := by decide +kernel
theorem dX8_place_106 : decode cX8_place 106 = .ok (.lreturn, 1) := by decide +kernel
theorem dX8_place_107 : decode cX8_place 107 = .ok (.aload_n 0, 1) := by decide +kernel
theorem dX8_place_108 : decode cX8_place 108 = .ok (.getfield 65, 3) := by decide +kernel
theorem dX8_place_111 : decode cX8_place 111 = .ok (.getfield 166, 3) := by decide +kernel
theorem dX8_place_114 : decode cX8_place 114 = .ok (.iload_n 1, 1) := by decide +kernel
theorem dX8_place_115 : decode cX8_place 115 = .ok (.iaload, 1) := by decide +kernel
theorem dX8_place_116 : decode cX8_place 116 = .ok (.i2l, 1) := by decide +kernel
theorem dX8_place_117 : decode cX8_place 117 = .ok (.lreturn, 1) := by decide +kernel
theorem dX8_place_118 : decode cX8_place 118 = .ok (.ldc2_w 83, 3) := by decide +kernel
theorem dX8_place_121 : decode cX8_place 121 = .ok (.lreturn, 1) := by decide +kernel
def f_HG_place (x1 : Int32) (x2 : Int32) (σ : St) : Option (Int64 × St) :=
  bd (f_HG_isPlace x1 σ) fun r3 σ2 => if r3 = 0 then (some ((-9000000000000000001), σ2)) else (if x2 = 0 then (ck (isG (rR σ2 0)) <| ck (ib x1 60) <| some ((rI σ2 ((rR σ2 0) + 1) x1).toInt64, σ2)) else if x2 = 1 then (ck (isG (rR σ2 0)) <| ck (ib x1 60) <| some ((rI σ2 ((rR σ2 0) + 2) x1).toInt64, σ2)) else if x2 = 2 then (ck (isG (rR σ2 0)) <| ck (ib x1 60) <| some ((rI σ2 ((rR σ2 0) + 3) x1).toInt64, σ2)) else if x2 = 3 then (ck (isG (rR σ2 0)) <| ck (ib x1 60) <| some ((rI σ2 ((rR σ2 0) + 4) x1).toInt64, σ2)) else if x2 = 4 then (ck (isG (rR σ2 0)) <| ck (ib x1 60) <| some ((rI σ2 ((rR σ2 0) + 5) x1).toInt64, σ2)) else if x2 = 5 then (ck (isG (rR σ2 0)) <| ck (ib x1 60) <| some ((rI σ2 ((rR σ2 0) + 6) x1).toInt64, σ2)) else (some ((-9000000000000000001), σ2)))
set_option maxRecDepth 4000 in
theorem ok_HG_place {w : wT} (hi : wInj w) {l : Launch} {x1 : Int32} {x2 : Int32} {σ σ' : St} {r : Int64} (h : f_HG_place x1 x2 σ = some (r, σ')) : gM w l yX8_place cX8_place 3 (some .long) 2 [.ref (w.1 0), .int x1, .int x2] σ (some (.long r)) σ' := by
  unfold f_HG_place at h
  refine gM_of hi (by decide) [some (.ref (w.1 0)), some (.int x1), some (.int x2)] rfl (Nat.le_of_ble_eq_true rfl) (fun E hl X Y => ?_)
  refine g_aload_n X dX8_place_0 rfl rfl ?_
  refine g_iload_n X dX8_place_1 rfl rfl ?_
  obtain ⟨r3, σ2, h1, h⟩ := bd_e h
  refine g_callVI X [.int x1] (ok_HG_isPlace X.inj h1) my_yX8_isPlace mi_yX8_isPlace ms_yX8_isPlace ml_RX8_148 (by decide) rfl rfl (by decide) rfl dX8_place_2 (Nat.le_of_ble_eq_true rfl) rfl rfl ?_
  refine g_if_ne X dX8_place_5 (tgt := 12) rfl rfl (fun c4 => ?_) (fun c4 => ?_)
  · replace h := if_f c4 h
    refine g_iload_n X dX8_place_12 rfl rfl ?_
    by_cases c5 : x2 = 0
    · replace h := if_t c5 h
      refine g_tin X dX8_place_13 (by rw [c5]; decide) (by rw [c5]; decide) (off := 39) (by rw [c5]; rfl) (tgt := 52) rfl ?_
      refine g_aload_n X dX8_place_52 rfl rfl ?_
      refine gf_RX8_65 X dX8_place_53 rfl ?_
      obtain ⟨c6, h⟩ := ck_e h
      refine gf_RX8_151 c6 X dX8_place_56 rfl ?_
      refine g_iload_n X dX8_place_59 rfl rfl ?_
      obtain ⟨c7, h⟩ := ck_e h
      refine g_iald X (ga_1 c6).1 (ga_1 c6).2.1 (ga_1 c6).2.2 (ib_e c7) dX8_place_60 rfl ?_
      refine g_i2l X dX8_place_61 rfl ?_
      obtain ⟨rfl, rfl⟩ := rt_e h
      exact g_lret X Y dX8_place_62
    · replace h := if_f c5 h
      by_cases c8 : x2 = 1
      · replace h := if_t c8 h
        refine g_tin X dX8_place_13 (by rw [c8]; decide) (by rw [c8]; decide) (off := 50) (by rw [c8]; rfl) (tgt := 63) rfl ?_
        refine g_aload_n X dX8_place_63 rfl rfl ?_
        refine gf_RX8_65 X dX8_place_64 rfl ?_
        obtain ⟨c9, h⟩ := ck_e h
        refine gf_RX8_154 c9 X dX8_place_67 rfl ?_
        refine g_iload_n X dX8_place_70 rfl rfl ?_
        obtain ⟨c10, h⟩ := ck_e h
        refine g_iald X (ga_2 c9).1 (ga_2 c9).2.1 (ga_2 c9).2.2 (ib_e c10) dX8_place_71 rfl ?_
        refine g_i2l X dX8_place_72 rfl ?_
        obtain ⟨rfl, rfl⟩ := rt_e h
        exact g_lret X Y dX8_place_73
      · replace h := if_f c8 h
        by_cases c11 : x2 = 2
        · replace h := if_t c11 h
          refine g_tin X dX8_place_13 (by rw [c11]; decide) (by rw [c11]; decide) (off := 61) (by rw [c11]; rfl) (tgt := 74) rfl ?_
          refine g_aload_n X dX8_place_74 rfl rfl ?_
          refine gf_RX8_65 X dX8_place_75 rfl ?_
          obtain ⟨c12, h⟩ := ck_e h
          refine gf_RX8_157 c12 X dX8_place_78 rfl ?_
          refine g_iload_n X dX8_place_81 rfl rfl ?_
          obtain ⟨c13, h⟩ := ck_e h
          refine g_iald X (ga_3 c12).1 (ga_3 c12).2.1 (ga_3 c12).2.2 (ib_e c13) dX8_place_82 rfl ?_
          refine g_i2l X dX8_place_83 rfl ?_
          obtain ⟨rfl, rfl⟩ := rt_e h
          exact g_lret X Y dX8_place_84
        · replace h := if_f c11 h
          by_cases c14 : x2 = 3
          · replace h := if_t c14 h
            refine g_tin X dX8_place_13 (by rw [c14]; decide) (by rw [c14]; decide) (off := 72) (by rw [c14]; rfl) (tgt := 85) rfl ?_
            refine g_aload_n X dX8_place_85 rfl rfl ?_
            refine gf_RX8_65 X dX8_place_86 rfl ?_
            obtain ⟨c15, h⟩ := ck_e h
            refine gf_RX8_160 c15 X dX8_place_89 rfl ?_
            refine g_iload_n X dX8_place_92 rfl rfl ?_
            obtain ⟨c16, h⟩ := ck_e h
            refine g_iald X (ga_4 c15).1 (ga_4 c15).2.1 (ga_4 c15).2.2 (ib_e c16) dX8_place_93 rfl ?_
            refine g_i2l X dX8_place_94 rfl ?_
            obtain ⟨rfl, rfl⟩ := rt_e h
            exact g_lret X Y dX8_place_95
          · replace h := if_f c14 h
            by_cases c17 : x2 = 4
            · replace h := if_t c17 h
              refine g_tin X dX8_place_13 (by rw [c17]; decide) (by rw [c17]; decide) (off := 83) (by rw [c17]; rfl) (tgt := 96) rfl ?_
              refine g_aload_n X dX8_place_96 rfl rfl ?_
              refine gf_RX8_65 X dX8_place_97 rfl ?_
              obtain ⟨c18, h⟩ := ck_e h
              refine gf_RX8_163 c18 X dX8_place_100 rfl ?_
              refine g_iload_n X dX8_place_103 rfl rfl ?_
              obtain ⟨c19, h⟩ := ck_e h
              refine g_iald X (ga_5 c18).1 (ga_5 c18).2.1 (ga_5 c18).2.2 (ib_e c19) dX8_place_104 rfl ?_
              refine g_i2l X dX8_place_105 rfl ?_
              obtain ⟨rfl, rfl⟩ := rt_e h
              exact g_lret X Y dX8_place_106
            · replace h := if_f c17 h
              by_cases c20 : x2 = 5
              · replace h := if_t c20 h
                refine g_tin X dX8_place_13 (by rw [c20]; decide) (by rw [c20]; decide) (off := 94) (by rw [c20]; rfl) (tgt := 107) rfl ?_
                refine g_aload_n X dX8_place_107 rfl rfl ?_
                refine gf_RX8_65 X dX8_place_108 rfl ?_
                obtain ⟨c21, h⟩ := ck_e h
                refine gf_RX8_166 c21 X dX8_place_111 rfl ?_
                refine g_iload_n X dX8_place_114 rfl rfl ?_
                obtain ⟨c22, h⟩ := ck_e h
                refine g_iald X (ga_6 c21).1 (ga_6 c21).2.1 (ga_6 c21).2.2 (ib_e c22) dX8_place_115 rfl ?_
                refine g_i2l X dX8_place_116 rfl ?_
                obtain ⟨rfl, rfl⟩ := rt_e h
                exact g_lret X Y dX8_place_117
              · replace h := if_f c20 h
                refine g_tout X dX8_place_13 (swo (fun z z1 z2 => ?_)) (tgt := 118) rfl ?_
                · have zz : z = 0 ∨ z = 1 ∨ z = 2 ∨ z = 3 ∨ z = 4 ∨ z = 5 := by omega
                  rcases zz with rfl | rfl | rfl | rfl | rfl | rfl
                  · exact sw1 c5 rfl
                  · exact sw1 c8 rfl
                  · exact sw1 c11 rfl
                  · exact sw1 c14 rfl
                  · exact sw1 c17 rfl
                  · exact sw1 c20 rfl
                ·
                  refine g_ldc2 X dX8_place_118 kc_RX8_83 rfl ?_
                  obtain ⟨rfl, rfl⟩ := rt_e h
                  exact g_lret X Y dX8_place_121
  · replace h := if_t c4 h
    refine g_ldc2 X dX8_place_8 kc_RX8_83 rfl ?_
    obtain ⟨rfl, rfl⟩ := rt_e h
    exact g_lret X Y dX8_place_11

theorem dX8_seen_0 : decode cX8_seen 0 = .ok (.iload_n 1, 1) := by decide +kernel
theorem dX8_seen_1 : decode cX8_seen 1 = .ok (.ifCond .lt 9, 3) := by decide +kernel
theorem dX8_seen_4 : decode cX8_seen 4 = .ok (.iload_n 1, 1) := by decide +kernel
theorem dX8_seen_5 : decode cX8_seen 5 = .ok (.bipush 10, 2) := by decide +kernel
theorem dX8_seen_7 : decode cX8_seen 7 = .ok (.if_icmp .lt 7, 3) := by decide +kernel
theorem dX8_seen_10 : decode cX8_seen 10 = .ok (.ldc2_w 83, 3) := by decide +kernel
theorem dX8_seen_13 : decode cX8_seen 13 = .ok (.lreturn, 1) := by decide +kernel
theorem dX8_seen_14 : decode cX8_seen 14 = .ok (.iload_n 2, 1) := by decide +kernel
theorem dX8_seen_15 : decode cX8_seen 15 = .ok (.tableswitch 58 0 2 #[25, 36, 47], 25) := by decide +kernel
theorem dX8_seen_40 : decode cX8_seen 40 = .ok (.aload_n 0, 1) := by decide +kernel
theorem dX8_seen_41 : decode cX8_seen 41 = .ok (.getfield 65, 3) := by decide +kernel
theorem dX8_seen_44 : decode cX8_seen 44 = .ok (.getfield 169, 3) := by decide +kernel
theorem dX8_seen_47 : decode cX8_seen 47 = .ok (.iload_n 1, 1) := by decide +kernel
theorem dX8_seen_48 : decode cX8_seen 48 = .ok (.iaload, 1) := by decide +kernel
theorem dX8_seen_49 : decode cX8_seen 49 = .ok (.i2l, 1) := by decide +kernel
theorem dX8_seen_50 : decode cX8_seen 50 = .ok (.lreturn, 1) := by decide +kernel
theorem dX8_seen_51 : decode cX8_seen 51 = .ok (.aload_n 0, 1) := by decide +kernel
theorem dX8_seen_52 : decode cX8_seen 52 = .ok (.getfield 65, 3) := by decide +kernel
theorem dX8_seen_55 : decode cX8_seen 55 = .ok (.getfield 172, 3) := by decide +kernel
theorem dX8_seen_58 : decode cX8_seen 58 = .ok (.iload_n 1, 1) := by decide +kernel
theorem dX8_seen_59 : decode cX8_seen 59 = .ok (.iaload, 1) := by decide +kernel
theorem dX8_seen_60 : decode cX8_seen 60 = .ok (.i2l, 1) := by decide +kernel
theorem dX8_seen_61 : decode cX8_seen 61 = .ok (.lreturn, 1) := by decide +kernel
theorem dX8_seen_62 : decode cX8_seen 62 = .ok (.aload_n 0, 1) := by decide +kernel
theorem dX8_seen_63 : decode cX8_seen 63 = .ok (.getfield 65, 3) := by decide +kernel
theorem dX8_seen_66 : decode cX8_seen 66 = .ok (.getfield 175, 3) := by decide +kernel
theorem dX8_seen_69 : decode cX8_seen 69 = .ok (.iload_n 1, 1) := by decide +kernel
theorem dX8_seen_70 : decode cX8_seen 70 = .ok (.iaload, 1) := by decide +kernel
theorem dX8_seen_71 : decode cX8_seen 71 = .ok (.i2l, 1) := by decide +kernel
theorem dX8_seen_72 : decode cX8_seen 72 = .ok (.lreturn, 1) := by decide +kernel
theorem dX8_seen_73 : decode cX8_seen 73 = .ok (.ldc2_w 83, 3) := by decide +kernel
theorem dX8_seen_76 : decode cX8_seen 76 = .ok (.lreturn, 1) := by decide +kernel
def f_HG_seen (x1 : Int32) (x2 : Int32) (σ : St) : Option (Int64 × St) :=
  if x1 < 0 then (some ((-9000000000000000001), σ)) else (if x1 < 10 then (if x2 = 0 then (ck (isG (rR σ 0)) <| ck (ib x1 10) <| some ((rI σ ((rR σ 0) + 13) x1).toInt64, σ)) else if x2 = 1 then (ck (isG (rR σ 0)) <| ck (ib x1 10) <| some ((rI σ ((rR σ 0) + 14) x1).toInt64, σ)) else if x2 = 2 then (ck (isG (rR σ 0)) <| ck (ib x1 10) <| some ((rI σ ((rR σ 0) + 15) x1).toInt64, σ)) else (some ((-9000000000000000001), σ))) else (some ((-9000000000000000001), σ)))
set_option maxRecDepth 4000 in
theorem ok_HG_seen {w : wT} (hi : wInj w) {l : Launch} {x1 : Int32} {x2 : Int32} {σ σ' : St} {r : Int64} (h : f_HG_seen x1 x2 σ = some (r, σ')) : gM w l yX8_seen cX8_seen 3 (some .long) 1 [.ref (w.1 0), .int x1, .int x2] σ (some (.long r)) σ' := by
  unfold f_HG_seen at h
  refine gM_of hi (by decide) [some (.ref (w.1 0)), some (.int x1), some (.int x2)] rfl (Nat.le_of_ble_eq_true rfl) (fun E hl X Y => ?_)
  refine g_iload_n X dX8_seen_0 rfl rfl ?_
  refine g_if_lt X dX8_seen_1 (tgt := 10) rfl rfl (fun c1 => ?_) (fun c1 => ?_)
  · replace h := if_t c1 h
    refine g_ldc2 X dX8_seen_10 kc_RX8_83 rfl ?_
    obtain ⟨rfl, rfl⟩ := rt_e h
    exact g_lret X Y dX8_seen_13
  · replace h := if_f c1 h
    refine g_iload_n X dX8_seen_4 rfl rfl ?_
    refine g_bipush X kB_10 dX8_seen_5 rfl ?_
    refine g_icmp_lt X dX8_seen_7 (tgt := 14) rfl rfl (fun c2 => ?_) (fun c2 => ?_)
    · replace h := if_t c2 h
      refine g_iload_n X dX8_seen_14 rfl rfl ?_
      by_cases c3 : x2 = 0
      · replace h := if_t c3 h
        refine g_tin X dX8_seen_15 (by rw [c3]; decide) (by rw [c3]; decide) (off := 25) (by rw [c3]; rfl) (tgt := 40) rfl ?_
        refine g_aload_n X dX8_seen_40 rfl rfl ?_
        refine gf_RX8_65 X dX8_seen_41 rfl ?_
        obtain ⟨c4, h⟩ := ck_e h
        refine gf_RX8_169 c4 X dX8_seen_44 rfl ?_
        refine g_iload_n X dX8_seen_47 rfl rfl ?_
        obtain ⟨c5, h⟩ := ck_e h
        refine g_iald X (ga_13 c4).1 (ga_13 c4).2.1 (ga_13 c4).2.2 (ib_e c5) dX8_seen_48 rfl ?_
        refine g_i2l X dX8_seen_49 rfl ?_
        obtain ⟨rfl, rfl⟩ := rt_e h
        exact g_lret X Y dX8_seen_50
      · replace h := if_f c3 h
        by_cases c6 : x2 = 1
        · replace h := if_t c6 h
          refine g_tin X dX8_seen_15 (by rw [c6]; decide) (by rw [c6]; decide) (off := 36) (by rw [c6]; rfl) (tgt := 51) rfl ?_
          refine g_aload_n X dX8_seen_51 rfl rfl ?_
          refine gf_RX8_65 X dX8_seen_52 rfl ?_
          obtain ⟨c7, h⟩ := ck_e h
          refine gf_RX8_172 c7 X dX8_seen_55 rfl ?_
          refine g_iload_n X dX8_seen_58 rfl rfl ?_
          obtain ⟨c8, h⟩ := ck_e h
          refine g_iald X (ga_14 c7).1 (ga_14 c7).2.1 (ga_14 c7).2.2 (ib_e c8) dX8_seen_59 rfl ?_
          refine g_i2l X dX8_seen_60 rfl ?_
          obtain ⟨rfl, rfl⟩ := rt_e h
          exact g_lret X Y dX8_seen_61
        · replace h := if_f c6 h
          by_cases c9 : x2 = 2
          · replace h := if_t c9 h
            refine g_tin X dX8_seen_15 (by rw [c9]; decide) (by rw [c9]; decide) (off := 47) (by rw [c9]; rfl) (tgt := 62) rfl ?_
            refine g_aload_n X dX8_seen_62 rfl rfl ?_
            refine gf_RX8_65 X dX8_seen_63 rfl ?_
            obtain ⟨c10, h⟩ := ck_e h
            refine gf_RX8_175 c10 X dX8_seen_66 rfl ?_
            refine g_iload_n X dX8_seen_69 rfl rfl ?_
            obtain ⟨c11, h⟩ := ck_e h
            refine g_iald X (ga_15 c10).1 (ga_15 c10).2.1 (ga_15 c10).2.2 (ib_e c11) dX8_seen_70 rfl ?_
            refine g_i2l X dX8_seen_71 rfl ?_
            obtain ⟨rfl, rfl⟩ := rt_e h
            exact g_lret X Y dX8_seen_72
          · replace h := if_f c9 h
            refine g_tout X dX8_seen_15 (swo (fun z z1 z2 => ?_)) (tgt := 73) rfl ?_
            · have zz : z = 0 ∨ z = 1 ∨ z = 2 := by omega
              rcases zz with rfl | rfl | rfl
              · exact sw1 c3 rfl
              · exact sw1 c6 rfl
              · exact sw1 c9 rfl
            ·
              refine g_ldc2 X dX8_seen_73 kc_RX8_83 rfl ?_
              obtain ⟨rfl, rfl⟩ := rt_e h
              exact g_lret X Y dX8_seen_76
    · replace h := if_f c2 h
      refine g_ldc2 X dX8_seen_10 kc_RX8_83 rfl ?_
      obtain ⟨rfl, rfl⟩ := rt_e h
      exact g_lret X Y dX8_seen_13

theorem dX8_isPlayer_0 : decode cX8_isPlayer 0 = .ok (.iload_n 0, 1) := by decide +kernel
theorem dX8_isPlayer_1 : decode cX8_isPlayer 1 = .ok (.ifCond .eq 8, 3) := by decide +kernel
theorem dX8_isPlayer_4 : decode cX8_isPlayer 4 = .ok (.iload_n 0, 1) := by decide +kernel
theorem dX8_isPlayer_5 : decode cX8_isPlayer 5 = .ok (.iconst 1, 1) := by decide +kernel
theorem dX8_isPlayer_6 : decode cX8_isPlayer 6 = .ok (.if_icmp .ne 7, 3) := by decide +kernel
theorem dX8_isPlayer_9 : decode cX8_isPlayer 9 = .ok (.iconst 1, 1) := by decide +kernel
theorem dX8_isPlayer_10 : decode cX8_isPlayer 10 = .ok (.goto 4, 3) := by decide +kernel
theorem dX8_isPlayer_13 : decode cX8_isPlayer 13 = .ok (.iconst 0, 1) := by decide +kernel
theorem dX8_isPlayer_14 : decode cX8_isPlayer 14 = .ok (.ireturn, 1) := by decide +kernel
def f_HG_isPlayer_b9 (σ : St) : Option (Int32 × St) :=
  some (1, σ)
set_option maxRecDepth 4000 in
theorem ok_HG_isPlayer_b9 {E : gE} {w : wT} {σ' : St} {r : Int32} (X : gC E w cX8_isPlayer 1 RX8 1) (Y : gQ E w (some .boolean) (some (.int r)) σ') (σ : St) (h : f_HG_isPlayer_b9 σ = some (r, σ')) : gW E w 1 σ 9 [] [] := by
  unfold f_HG_isPlayer_b9 at h
  refine g_iconst X kI_1 dX8_isPlayer_9 rfl ?_
  refine g_goto X dX8_isPlayer_10 (tgt := 14) rfl ?_
  obtain ⟨rfl, rfl⟩ := rt_e h
  exact g_zret X Y rfl dX8_isPlayer_14

def f_HG_isPlayer (x0 : Int32) (σ : St) : Option (Int32 × St) :=
  if x0 = 0 then (f_HG_isPlayer_b9 σ) else (if x0 = 1 then (f_HG_isPlayer_b9 σ) else (some (0, σ)))
set_option maxRecDepth 4000 in
theorem ok_HG_isPlayer {w : wT} (hi : wInj w) {l : Launch} {x0 : Int32} {σ σ' : St} {r : Int32} (h : f_HG_isPlayer x0 σ = some (r, σ')) : gM w l yX8_isPlayer cX8_isPlayer 1 (some .boolean) 1 [.int x0] σ (some (.int r)) σ' := by
  unfold f_HG_isPlayer at h
  refine gM_of hi (by decide) [some (.int x0)] rfl (Nat.le_of_ble_eq_true rfl) (fun E hl X Y => ?_)
  refine g_iload_n X dX8_isPlayer_0 rfl rfl ?_
  refine g_if_eq X dX8_isPlayer_1 (tgt := 9) rfl rfl (fun c1 => ?_) (fun c1 => ?_)
  · replace h := if_t c1 h
    exact g_le (lle_0) (ok_HG_isPlayer_b9 X Y σ h)
  · replace h := if_f c1 h
    refine g_iload_n X dX8_isPlayer_4 rfl rfl ?_
    refine g_iconst X kI_1 dX8_isPlayer_5 rfl ?_
    refine g_icmp_ne X dX8_isPlayer_6 (tgt := 13) rfl rfl (fun c2 => ?_) (fun c2 => ?_)
    · replace h := if_f c2 h
      refine g_iconst X kI_0 dX8_isPlayer_13 rfl ?_
      obtain ⟨rfl, rfl⟩ := rt_e h
      exact g_zret X Y rfl dX8_isPlayer_14
    · replace h := if_t c2 h
      exact g_le (lle_0) (ok_HG_isPlayer_b9 X Y σ h)

theorem dX8_forgets_0 : decode cX8_forgets 0 = .ok (.iload_n 1, 1) := by decide +kernel
theorem dX8_forgets_1 : decode cX8_forgets 1 = .ok (.invokestatic 178, 3) := by decide +kernel
theorem dX8_forgets_4 : decode cX8_forgets 4 = .ok (.ifCond .ne 7, 3) := by decide +kernel
theorem dX8_forgets_7 : decode cX8_forgets 7 = .ok (.ldc2_w 83, 3) := by decide +kernel
theorem dX8_forgets_10 : decode cX8_forgets 10 = .ok (.lreturn, 1) := by decide +kernel
theorem dX8_forgets_11 : decode cX8_forgets 11 = .ok (.aload_n 0, 1) := by decide +kernel
theorem dX8_forgets_12 : decode cX8_forgets 12 = .ok (.getfield 65, 3) := by decide +kernel
theorem dX8_forgets_15 : decode cX8_forgets 15 = .ok (.getfield 181, 3) := by decide +kernel
theorem dX8_forgets_18 : decode cX8_forgets 18 = .ok (.iload_n 1, 1) := by decide +kernel
theorem dX8_forgets_19 : decode cX8_forgets 19 = .ok (.baload, 1) := by decide +kernel
theorem dX8_forgets_20 : decode cX8_forgets 20 = .ok (.ifCond .eq 7, 3) := by decide +kernel
theorem dX8_forgets_23 : decode cX8_forgets 23 = .ok (.lconst 1, 1) := by decide +kernel
theorem dX8_forgets_24 : decode cX8_forgets 24 = .ok (.goto 4, 3) := by decide +kernel
theorem dX8_forgets_27 : decode cX8_forgets 27 = .ok (.lconst 0, 1) := by decide +kernel
theorem dX8_forgets_28 : decode cX8_forgets 28 = .ok (.lreturn, 1) := by decide +kernel
def f_HG_forgets (x1 : Int32) (σ : St) : Option (Int64 × St) :=
  bd (f_HG_isPlayer x1 σ) fun r3 σ2 => if r3 = 0 then (some ((-9000000000000000001), σ2)) else (ck (isG (rR σ2 0)) <| ck (ib x1 2) <| if (rI σ2 ((rR σ2 0) + 17) x1) = 0 then (some (0, σ2)) else (some (1, σ2)))
set_option maxRecDepth 4000 in
theorem ok_HG_forgets {w : wT} (hi : wInj w) {l : Launch} {x1 : Int32} {σ σ' : St} {r : Int64} (h : f_HG_forgets x1 σ = some (r, σ')) : gM w l yX8_forgets cX8_forgets 2 (some .long) 2 [.ref (w.1 0), .int x1] σ (some (.long r)) σ' := by
  unfold f_HG_forgets at h
  refine gM_of hi (by decide) [some (.ref (w.1 0)), some (.int x1)] rfl (Nat.le_of_ble_eq_true rfl) (fun E hl X Y => ?_)
  refine g_iload_n X dX8_forgets_0 rfl rfl ?_
  obtain ⟨r3, σ2, h1, h⟩ := bd_e h
  refine g_callSI X [.int x1] (ok_HG_isPlayer X.inj h1) my_yX8_isPlayer mt_yX8_isPlayer ml_RX8_178 (by decide) rfl dX8_forgets_1 (Nat.le_of_ble_eq_true rfl) rfl rfl ?_
  refine g_if_ne X dX8_forgets_4 (tgt := 11) rfl rfl (fun c4 => ?_) (fun c4 => ?_)
  · replace h := if_f c4 h
    refine g_aload_n X dX8_forgets_11 rfl rfl ?_
    refine gf_RX8_65 X dX8_forgets_12 rfl ?_
    obtain ⟨c5, h⟩ := ck_e h
    refine gf_RX8_181 c5 X dX8_forgets_15 rfl ?_
    refine g_iload_n X dX8_forgets_18 rfl rfl ?_
    obtain ⟨c6, h⟩ := ck_e h
    refine g_zald X (ga_17 c5).1 (ga_17 c5).2.1 (ga_17 c5).2.2 (ib_e c6) dX8_forgets_19 rfl ?_
    refine g_if_eq X dX8_forgets_20 (tgt := 27) rfl rfl (fun c7 => ?_) (fun c7 => ?_)
    · replace h := if_t c7 h
      refine g_lconst X kL_0 dX8_forgets_27 rfl ?_
      obtain ⟨rfl, rfl⟩ := rt_e h
      exact g_lret X Y dX8_forgets_28
    · replace h := if_f c7 h
      refine g_lconst X kL_1 dX8_forgets_23 rfl ?_
      refine g_goto X dX8_forgets_24 (tgt := 28) rfl ?_
      obtain ⟨rfl, rfl⟩ := rt_e h
      exact g_lret X Y dX8_forgets_28
  · replace h := if_t c4 h
    refine g_ldc2 X dX8_forgets_7 kc_RX8_83 rfl ?_
    obtain ⟨rfl, rfl⟩ := rt_e h
    exact g_lret X Y dX8_forgets_10

theorem dX8_isSet_0 : decode cX8_isSet 0 = .ok (.iload_n 1, 1) := by decide +kernel
theorem dX8_isSet_1 : decode cX8_isSet 1 = .ok (.ifCond .lt 25, 3) := by decide +kernel
theorem dX8_isSet_4 : decode cX8_isSet 4 = .ok (.iload_n 1, 1) := by decide +kernel
theorem dX8_isSet_5 : decode cX8_isSet 5 = .ok (.bipush 10, 2) := by decide +kernel
theorem dX8_isSet_7 : decode cX8_isSet 7 = .ok (.if_icmp .ge 19, 3) := by decide +kernel
theorem dX8_isSet_10 : decode cX8_isSet 10 = .ok (.aload_n 0, 1) := by decide +kernel
theorem dX8_isSet_11 : decode cX8_isSet 11 = .ok (.getfield 65, 3) := by decide +kernel
theorem dX8_isSet_14 : decode cX8_isSet 14 = .ok (.getfield 175, 3) := by decide +kernel
theorem dX8_isSet_17 : decode cX8_isSet 17 = .ok (.iload_n 1, 1) := by decide +kernel
theorem dX8_isSet_18 : decode cX8_isSet 18 = .ok (.iaload, 1) := by decide +kernel
theorem dX8_isSet_19 : decode cX8_isSet 19 = .ok (.ifCond .le 7, 3) := by decide +kernel
theorem dX8_isSet_22 : decode cX8_isSet 22 = .ok (.iconst 1, 1) := by decide +kernel
theorem dX8_isSet_23 : decode cX8_isSet 23 = .ok (.goto 4, 3) := by decide +kernel
theorem dX8_isSet_26 : decode cX8_isSet 26 = .ok (.iconst 0, 1) := by decide +kernel
theorem dX8_isSet_27 : decode cX8_isSet 27 = .ok (.ireturn, 1) := by decide +kernel
def f_HG_isSet (x1 : Int32) (σ : St) : Option (Int32 × St) :=
  if x1 < 0 then (some (0, σ)) else (if (10 : Int32) ≤ x1 then (some (0, σ)) else (ck (isG (rR σ 0)) <| ck (ib x1 10) <| if (rI σ ((rR σ 0) + 15) x1) ≤ 0 then (some (0, σ)) else (some (1, σ))))
set_option maxRecDepth 4000 in
theorem ok_HG_isSet {w : wT} (hi : wInj w) {l : Launch} {x1 : Int32} {σ σ' : St} {r : Int32} (h : f_HG_isSet x1 σ = some (r, σ')) : gM w l yX8_isSet cX8_isSet 2 (some .boolean) 1 [.ref (w.1 0), .int x1] σ (some (.int r)) σ' := by
  unfold f_HG_isSet at h
  refine gM_of hi (by decide) [some (.ref (w.1 0)), some (.int x1)] rfl (Nat.le_of_ble_eq_true rfl) (fun E hl X Y => ?_)
  refine g_iload_n X dX8_isSet_0 rfl rfl ?_
  refine g_if_lt X dX8_isSet_1 (tgt := 26) rfl rfl (fun c1 => ?_) (fun c1 => ?_)
  · replace h := if_t c1 h
    refine g_iconst X kI_0 dX8_isSet_26 rfl ?_
    obtain ⟨rfl, rfl⟩ := rt_e h
    exact g_zret X Y rfl dX8_isSet_27
  · replace h := if_f c1 h
    refine g_iload_n X dX8_isSet_4 rfl rfl ?_
    refine g_bipush X kB_10 dX8_isSet_5 rfl ?_
    refine g_icmp_ge X dX8_isSet_7 (tgt := 26) rfl rfl (fun c2 => ?_) (fun c2 => ?_)
    · replace h := if_t c2 h
      refine g_iconst X kI_0 dX8_isSet_26 rfl ?_
      obtain ⟨rfl, rfl⟩ := rt_e h
      exact g_zret X Y rfl dX8_isSet_27
    · replace h := if_f c2 h
      refine g_aload_n X dX8_isSet_10 rfl rfl ?_
      refine gf_RX8_65 X dX8_isSet_11 rfl ?_
      obtain ⟨c3, h⟩ := ck_e h
      refine gf_RX8_175 c3 X dX8_isSet_14 rfl ?_
      refine g_iload_n X dX8_isSet_17 rfl rfl ?_
      obtain ⟨c4, h⟩ := ck_e h
      refine g_iald X (ga_15 c3).1 (ga_15 c3).2.1 (ga_15 c3).2.2 (ib_e c4) dX8_isSet_18 rfl ?_
      refine g_if_le X dX8_isSet_19 (tgt := 26) rfl rfl (fun c5 => ?_) (fun c5 => ?_)
      · replace h := if_t c5 h
        refine g_iconst X kI_0 dX8_isSet_26 rfl ?_
        obtain ⟨rfl, rfl⟩ := rt_e h
        exact g_zret X Y rfl dX8_isSet_27
      · replace h := if_f c5 h
        refine g_iconst X kI_1 dX8_isSet_22 rfl ?_
        refine g_goto X dX8_isSet_23 (tgt := 27) rfl ?_
        obtain ⟨rfl, rfl⟩ := rt_e h
        exact g_zret X Y rfl dX8_isSet_27

theorem dX5_itemAt_0 : decode cX5_itemAt 0 = .ok (.aload_n 0, 1) := by decide +kernel
theorem dX5_itemAt_1 : decode cX5_itemAt 1 = .ok (.getfield 18, 3) := by decide +kernel
theorem dX5_itemAt_4 : decode cX5_itemAt 4 = .ok (.iload_n 1, 1) := by decide +kernel
theorem dX5_itemAt_5 : decode cX5_itemAt 5 = .ok (.bipush 40, 2) := by decide +kernel
theorem dX5_itemAt_7 : decode cX5_itemAt 7 = .ok (.imul, 1) := by decide +kernel
theorem dX5_itemAt_8 : decode cX5_itemAt 8 = .ok (.iload_n 2, 1) := by decide +kernel
theorem dX5_itemAt_9 : decode cX5_itemAt 9 = .ok (.iadd, 1) := by decide +kernel
theorem dX5_itemAt_10 : decode cX5_itemAt 10 = .ok (.iaload, 1) := by decide +kernel
theorem dX5_itemAt_11 : decode cX5_itemAt 11 = .ok (.ireturn, 1) := by decide +kernel
def f_Shelf_itemAt (x1 : Int32) (x2 : Int32) (σ : St) : Option (Int32 × St) :=
  ck (ib ((x1 * 40) + x2) 320) <| some (rI σ 49 ((x1 * 40) + x2), σ)
set_option maxRecDepth 4000 in
theorem ok_Shelf_itemAt {w : wT} (hi : wInj w) {l : Launch} {x1 : Int32} {x2 : Int32} {σ σ' : St} {r : Int32} (h : f_Shelf_itemAt x1 x2 σ = some (r, σ')) : gM w l yX5_itemAt cX5_itemAt 3 (some .int) 1 [.ref (w.1 1), .int x1, .int x2] σ (some (.int r)) σ' := by
  unfold f_Shelf_itemAt at h
  refine gM_of hi (by decide) [some (.ref (w.1 1)), some (.int x1), some (.int x2)] rfl (Nat.le_of_ble_eq_true rfl) (fun E hl X Y => ?_)
  refine g_aload_n X dX5_itemAt_0 rfl rfl ?_
  refine gf_RX5_18 X dX5_itemAt_1 rfl ?_
  refine g_iload_n X dX5_itemAt_4 rfl rfl ?_
  refine g_bipush X kB_40 dX5_itemAt_5 rfl ?_
  refine g_imul X dX5_itemAt_7 rfl ?_
  refine g_iload_n X dX5_itemAt_8 rfl rfl ?_
  refine g_iadd X dX5_itemAt_9 rfl ?_
  obtain ⟨c1, h⟩ := ck_e h
  refine g_iald X ar_49.1 ar_49.2.1 ar_49.2.2 (ib_e c1) dX5_itemAt_10 rfl ?_
  obtain ⟨rfl, rfl⟩ := rt_e h
  exact g_iret X Y dX5_itemAt_11

theorem dX5_hasShares_0 : decode cX5_hasShares 0 = .ok (.iconst 0, 1) := by decide +kernel
theorem dX5_hasShares_1 : decode cX5_hasShares 1 = .ok (.istore 4, 2) := by decide +kernel
theorem dX5_hasShares_3 : decode cX5_hasShares 3 = .ok (.iconst 0, 1) := by decide +kernel
theorem dX5_hasShares_4 : decode cX5_hasShares 4 = .ok (.istore 5, 2) := by decide +kernel
theorem dX5_hasShares_6 : decode cX5_hasShares 6 = .ok (.iload 5, 2) := by decide +kernel
theorem dX5_hasShares_8 : decode cX5_hasShares 8 = .ok (.iload_n 3, 1) := by decide +kernel
theorem dX5_hasShares_9 : decode cX5_hasShares 9 = .ok (.if_icmp .ge 41, 3) := by decide +kernel
theorem dX5_hasShares_12 : decode cX5_hasShares 12 = .ok (.aload_n 0, 1) := by decide +kernel
theorem dX5_hasShares_13 : decode cX5_hasShares 13 = .ok (.iload_n 1, 1) := by decide +kernel
theorem dX5_hasShares_14 : decode cX5_hasShares 14 = .ok (.iload_n 2, 1) := by decide +kernel
theorem dX5_hasShares_15 : decode cX5_hasShares 15 = .ok (.iload 5, 2) := by decide +kernel
theorem dX5_hasShares_17 : decode cX5_hasShares 17 = .ok (.iadd, 1) := by decide +kernel
theorem dX5_hasShares_18 : decode cX5_hasShares 18 = .ok (.invokevirtual 38, 3) := by decide +kernel
theorem dX5_hasShares_21 : decode cX5_hasShares 21 = .ok (.istore 6, 2) := by decide +kernel
theorem dX5_hasShares_23 : decode cX5_hasShares 23 = .ok (.iload 6, 2) := by decide +kernel
theorem dX5_hasShares_25 : decode cX5_hasShares 25 = .ok (.ifCond .lt 10, 3) := by decide +kernel
theorem dX5_hasShares_28 : decode cX5_hasShares 28 = .ok (.iload 6, 2) := by decide +kernel
theorem dX5_hasShares_30 : decode cX5_hasShares 30 = .ok (.bipush 12, 2) := by decide +kernel
theorem dX5_hasShares_32 : decode cX5_hasShares 32 = .ok (.if_icmp .le 5, 3) := by decide +kernel
theorem dX5_hasShares_35 : decode cX5_hasShares 35 = .ok (.iconst 0, 1) := by decide +kernel
theorem dX5_hasShares_36 : decode cX5_hasShares 36 = .ok (.ireturn, 1) := by decide +kernel
theorem dX5_hasShares_37 : decode cX5_hasShares 37 = .ok (.iload 4, 2) := by decide +kernel
theorem dX5_hasShares_39 : decode cX5_hasShares 39 = .ok (.iload 6, 2) := by decide +kernel
theorem dX5_hasShares_41 : decode cX5_hasShares 41 = .ok (.iadd, 1) := by decide +kernel
theorem dX5_hasShares_42 : decode cX5_hasShares 42 = .ok (.istore 4, 2) := by decide +kernel
theorem dX5_hasShares_44 : decode cX5_hasShares 44 = .ok (.iinc 5 1, 3) := by decide +kernel
theorem dX5_hasShares_47 : decode cX5_hasShares 47 = .ok (.goto (-41), 3) := by decide +kernel
theorem dX5_hasShares_50 : decode cX5_hasShares 50 = .ok (.iload 4, 2) := by decide +kernel
theorem dX5_hasShares_52 : decode cX5_hasShares 52 = .ok (.bipush 12, 2) := by decide +kernel
theorem dX5_hasShares_54 : decode cX5_hasShares 54 = .ok (.if_icmp .ne 7, 3) := by decide +kernel
theorem dX5_hasShares_57 : decode cX5_hasShares 57 = .ok (.iconst 1, 1) := by decide +kernel
theorem dX5_hasShares_58 : decode cX5_hasShares 58 = .ok (.goto 4, 3) := by decide +kernel
theorem dX5_hasShares_61 : decode cX5_hasShares 61 = .ok (.iconst 0, 1) := by decide +kernel
theorem dX5_hasShares_62 : decode cX5_hasShares 62 = .ok (.ireturn, 1) := by decide +kernel
def f_Shelf_hasShares_b6 (k6 : Int32 → Int32 → Int32 → Int32 → Int32 → St → Option (Int32 × St)) (x1 : Int32) (x2 : Int32) (x3 : Int32) (x4 : Int32) (x5 : Int32) (σ : St) : Option (Int32 × St) :=
  if x3 ≤ x5 then (if x4 = 12 then (some (1, σ)) else (some (0, σ))) else (bd (f_Shelf_itemAt x1 (x2 + x5) σ) fun r5 σ4 => if r5 < 0 then (some (0, σ4)) else (if r5 ≤ 12 then (k6 x1 x2 x3 (x4 + r5) (x5 + 1) σ4) else (some (0, σ4))))
set_option maxRecDepth 4000 in
theorem ok_Shelf_hasShares_b6 {E : gE} {w : wT} {σ' : St} {r : Int32} (X : gC E w cX5_hasShares 7 RX5 2) (Y : gQ E w (some .boolean) (some (.int r)) σ') {k6 : Int32 → Int32 → Int32 → Int32 → Int32 → St → Option (Int32 × St)} (hk6 : ∀ (x1 : Int32) (x2 : Int32) (x3 : Int32) (x4 : Int32) (x5 : Int32) (σ : St), k6 x1 x2 x3 x4 x5 σ = some (r, σ') → gW E w 7 σ 6 [some (.ref (w.1 1)), some (.int x1), some (.int x2), some (.int x3), some (.int x4), some (.int x5)] []) {x1 : Int32} {x2 : Int32} {x3 : Int32} {x4 : Int32} {x5 : Int32} (σ : St) (h : f_Shelf_hasShares_b6 k6 x1 x2 x3 x4 x5 σ = some (r, σ')) : gW E w 7 σ 6 [some (.ref (w.1 1)), some (.int x1), some (.int x2), some (.int x3), some (.int x4), some (.int x5)] [] := by
  unfold f_Shelf_hasShares_b6 at h
  refine g_iload X dX5_hasShares_6 rfl rfl ?_
  refine g_iload_n X dX5_hasShares_8 rfl rfl ?_
  refine g_icmp_ge X dX5_hasShares_9 (tgt := 50) rfl rfl (fun c1 => ?_) (fun c1 => ?_)
  · replace h := if_t c1 h
    refine g_iload X dX5_hasShares_50 rfl rfl ?_
    refine g_bipush X kB_12 dX5_hasShares_52 rfl ?_
    refine g_icmp_ne X dX5_hasShares_54 (tgt := 61) rfl rfl (fun c2 => ?_) (fun c2 => ?_)
    · replace h := if_f c2 h
      refine g_iconst X kI_0 dX5_hasShares_61 rfl ?_
      obtain ⟨rfl, rfl⟩ := rt_e h
      exact g_zret X Y rfl dX5_hasShares_62
    · replace h := if_t c2 h
      refine g_iconst X kI_1 dX5_hasShares_57 rfl ?_
      refine g_goto X dX5_hasShares_58 (tgt := 62) rfl ?_
      obtain ⟨rfl, rfl⟩ := rt_e h
      exact g_zret X Y rfl dX5_hasShares_62
  · replace h := if_f c1 h
    refine g_aload_n X dX5_hasShares_12 rfl rfl ?_
    refine g_iload_n X dX5_hasShares_13 rfl rfl ?_
    refine g_iload_n X dX5_hasShares_14 rfl rfl ?_
    refine g_iload X dX5_hasShares_15 rfl rfl ?_
    refine g_iadd X dX5_hasShares_17 rfl ?_
    obtain ⟨r5, σ4, h3, h⟩ := bd_e h
    refine g_callVI X [.int x1, .int (x2 + x5)] (ok_Shelf_itemAt X.inj h3) my_yX5_itemAt mi_yX5_itemAt ms_yX5_itemAt ml_RX5_38 (by decide) rfl rfl (by decide) rfl dX5_hasShares_18 (Nat.le_of_ble_eq_true rfl) rfl rfl ?_
    refine g_istore X [some (.ref (w.1 1)), some (.int x1), some (.int x2), some (.int x3), some (.int x4), some (.int x5), some (.int r5)] dX5_hasShares_21 (Nat.le_of_ble_eq_true rfl) rfl rfl rfl ?_
    refine g_iload X dX5_hasShares_23 rfl rfl ?_
    refine g_if_lt X dX5_hasShares_25 (tgt := 35) rfl rfl (fun c6 => ?_) (fun c6 => ?_)
    · replace h := if_t c6 h
      refine g_iconst X kI_0 dX5_hasShares_35 rfl ?_
      obtain ⟨rfl, rfl⟩ := rt_e h
      exact g_zret X Y rfl dX5_hasShares_36
    · replace h := if_f c6 h
      refine g_iload X dX5_hasShares_28 rfl rfl ?_
      refine g_bipush X kB_12 dX5_hasShares_30 rfl ?_
      refine g_icmp_le X dX5_hasShares_32 (tgt := 37) rfl rfl (fun c7 => ?_) (fun c7 => ?_)
      · replace h := if_t c7 h
        refine g_iload X dX5_hasShares_37 rfl rfl ?_
        refine g_iload X dX5_hasShares_39 rfl rfl ?_
        refine g_iadd X dX5_hasShares_41 rfl ?_
        refine g_istore X [some (.ref (w.1 1)), some (.int x1), some (.int x2), some (.int x3), some (.int (x4 + r5)), some (.int x5), some (.int r5)] dX5_hasShares_42 (Nat.le_of_ble_eq_true rfl) rfl rfl rfl ?_
        refine g_iinc X [some (.ref (w.1 1)), some (.int x1), some (.int x2), some (.int x3), some (.int (x4 + r5)), some (.int (x5 + 1)), some (.int r5)] dX5_hasShares_44 rfl (ii_1 x5) (Nat.le_of_ble_eq_true rfl) rfl rfl rfl ?_
        refine g_goto X dX5_hasShares_47 (tgt := 6) rfl ?_
        exact g_le (lle_s (lle_s (lle_s (lle_s (lle_s (lle_s (lle_0))))))) (hk6 x1 x2 x3 (x4 + r5) (x5 + 1) σ4 h)
      · replace h := if_f c7 h
        refine g_iconst X kI_0 dX5_hasShares_35 rfl ?_
        obtain ⟨rfl, rfl⟩ := rt_e h
        exact g_zret X Y rfl dX5_hasShares_36
def f_Shelf_hasShares_l6 : Int32 → Int32 → Int32 → Int32 → Int32 → St → Option (Int32 × St) := lp (fun _ _ _ _ _ _ => none) (f_Shelf_hasShares_b6) FU
theorem ok_Shelf_hasShares_l6 {E : gE} {w : wT} {σ' : St} {r : Int32} (X : gC E w cX5_hasShares 7 RX5 2) (Y : gQ E w (some .boolean) (some (.int r)) σ') {x1 : Int32} {x2 : Int32} {x3 : Int32} {x4 : Int32} {x5 : Int32} (σ : St) (h : f_Shelf_hasShares_l6 x1 x2 x3 x4 x5 σ = some (r, σ')) : gW E w 7 σ 6 [some (.ref (w.1 1)), some (.int x1), some (.int x2), some (.int x3), some (.int x4), some (.int x5)] [] :=
  lp_ind (P := fun (k : Int32 → Int32 → Int32 → Int32 → Int32 → St → Option (Int32 × St)) => ∀ (x1 : Int32) (x2 : Int32) (x3 : Int32) (x4 : Int32) (x5 : Int32) (σ : St), k x1 x2 x3 x4 x5 σ = some (r, σ') → gW E w 7 σ 6 [some (.ref (w.1 1)), some (.int x1), some (.int x2), some (.int x3), some (.int x4), some (.int x5)] []) (fun _ _ _ _ _ _ hh => nn hh) (fun k hk x1 x2 x3 x4 x5 σ  hh => ok_Shelf_hasShares_b6 X Y hk σ hh) FU x1 x2 x3 x4 x5 σ  h

def f_Shelf_hasShares (x1 : Int32) (x2 : Int32) (x3 : Int32) (σ : St) : Option (Int32 × St) :=
  f_Shelf_hasShares_l6 x1 x2 x3 0 0 σ
set_option maxRecDepth 4000 in
theorem ok_Shelf_hasShares {w : wT} (hi : wInj w) {l : Launch} {x1 : Int32} {x2 : Int32} {x3 : Int32} {σ σ' : St} {r : Int32} (h : f_Shelf_hasShares x1 x2 x3 σ = some (r, σ')) : gM w l yX5_hasShares cX5_hasShares 7 (some .boolean) 2 [.ref (w.1 1), .int x1, .int x2, .int x3] σ (some (.int r)) σ' := by
  unfold f_Shelf_hasShares at h
  refine gM_of hi (by decide) [some (.ref (w.1 1)), some (.int x1), some (.int x2), some (.int x3)] rfl (Nat.le_of_ble_eq_true rfl) (fun E hl X Y => ?_)
  refine g_iconst X kI_0 dX5_hasShares_0 rfl ?_
  refine g_istore X [some (.ref (w.1 1)), some (.int x1), some (.int x2), some (.int x3), some (.int 0)] dX5_hasShares_1 (Nat.le_of_ble_eq_true rfl) rfl rfl rfl ?_
  refine g_iconst X kI_0 dX5_hasShares_3 rfl ?_
  refine g_istore X [some (.ref (w.1 1)), some (.int x1), some (.int x2), some (.int x3), some (.int 0), some (.int 0)] dX5_hasShares_4 (Nat.le_of_ble_eq_true rfl) rfl rfl rfl ?_
  exact ok_Shelf_hasShares_l6 X Y σ h

theorem dX8_mix_0 : decode cX8_mix 0 = .ok (.aload_n 0, 1) := by decide +kernel
theorem dX8_mix_1 : decode cX8_mix 1 = .ok (.iload_n 1, 1) := by decide +kernel
theorem dX8_mix_2 : decode cX8_mix 2 = .ok (.invokevirtual 185, 3) := by decide +kernel
theorem dX8_mix_5 : decode cX8_mix 5 = .ok (.ifCond .eq 10, 3) := by decide +kernel
theorem dX8_mix_8 : decode cX8_mix 8 = .ok (.iload_n 2, 1) := by decide +kernel
theorem dX8_mix_9 : decode cX8_mix 9 = .ok (.invokestatic 79, 3) := by decide +kernel
theorem dX8_mix_12 : decode cX8_mix 12 = .ok (.ifCond .ne 7, 3) := by decide +kernel
theorem dX8_mix_15 : decode cX8_mix 15 = .ok (.ldc2_w 83, 3) := by decide +kernel
theorem dX8_mix_18 : decode cX8_mix 18 = .ok (.lreturn, 1) := by decide +kernel
theorem dX8_mix_19 : decode cX8_mix 19 = .ok (.aload_n 0, 1) := by decide +kernel
theorem dX8_mix_20 : decode cX8_mix 20 = .ok (.getfield 12, 3) := by decide +kernel
theorem dX8_mix_23 : decode cX8_mix 23 = .ok (.iload_n 2, 1) := by decide +kernel
theorem dX8_mix_24 : decode cX8_mix 24 = .ok (.invokevirtual 97, 3) := by decide +kernel
theorem dX8_mix_27 : decode cX8_mix 27 = .ok (.ifCond .eq 9, 3) := by decide +kernel
theorem dX8_mix_30 : decode cX8_mix 30 = .ok (.aload_n 0, 1) := by decide +kernel
theorem dX8_mix_31 : decode cX8_mix 31 = .ok (.iconst 1, 1) := by decide +kernel
theorem dX8_mix_32 : decode cX8_mix 32 = .ok (.invokevirtual 85, 3) := by decide +kernel
theorem dX8_mix_35 : decode cX8_mix 35 = .ok (.lreturn, 1) := by decide +kernel
theorem dX8_mix_36 : decode cX8_mix 36 = .ok (.aload_n 0, 1) := by decide +kernel
theorem dX8_mix_37 : decode cX8_mix 37 = .ok (.getfield 65, 3) := by decide +kernel
theorem dX8_mix_40 : decode cX8_mix 40 = .ok (.getfield 172, 3) := by decide +kernel
theorem dX8_mix_43 : decode cX8_mix 43 = .ok (.iload_n 1, 1) := by decide +kernel
theorem dX8_mix_44 : decode cX8_mix 44 = .ok (.iaload, 1) := by decide +kernel
theorem dX8_mix_45 : decode cX8_mix 45 = .ok (.istore 4, 2) := by decide +kernel
theorem dX8_mix_47 : decode cX8_mix 47 = .ok (.aload_n 0, 1) := by decide +kernel
theorem dX8_mix_48 : decode cX8_mix 48 = .ok (.getfield 12, 3) := by decide +kernel
theorem dX8_mix_51 : decode cX8_mix 51 = .ok (.iload_n 2, 1) := by decide +kernel
theorem dX8_mix_52 : decode cX8_mix 52 = .ok (.iload_n 3, 1) := by decide +kernel
theorem dX8_mix_53 : decode cX8_mix 53 = .ok (.iload 4, 2) := by decide +kernel
theorem dX8_mix_55 : decode cX8_mix 55 = .ok (.invokevirtual 100, 3) := by decide +kernel
theorem dX8_mix_58 : decode cX8_mix 58 = .ok (.ifCond .ne 9, 3) := by decide +kernel
theorem dX8_mix_61 : decode cX8_mix 61 = .ok (.aload_n 0, 1) := by decide +kernel
theorem dX8_mix_62 : decode cX8_mix 62 = .ok (.iconst 2, 1) := by decide +kernel
theorem dX8_mix_63 : decode cX8_mix 63 = .ok (.invokevirtual 85, 3) := by decide +kernel
theorem dX8_mix_66 : decode cX8_mix 66 = .ok (.lreturn, 1) := by decide +kernel
theorem dX8_mix_67 : decode cX8_mix 67 = .ok (.aload_n 0, 1) := by decide +kernel
theorem dX8_mix_68 : decode cX8_mix 68 = .ok (.getfield 12, 3) := by decide +kernel
theorem dX8_mix_71 : decode cX8_mix 71 = .ok (.iload_n 2, 1) := by decide +kernel
theorem dX8_mix_72 : decode cX8_mix 72 = .ok (.iload_n 3, 1) := by decide +kernel
theorem dX8_mix_73 : decode cX8_mix 73 = .ok (.iload 4, 2) := by decide +kernel
theorem dX8_mix_75 : decode cX8_mix 75 = .ok (.invokevirtual 188, 3) := by decide +kernel
theorem dX8_mix_78 : decode cX8_mix 78 = .ok (.ifCond .ne 7, 3) := by decide +kernel
theorem dX8_mix_81 : decode cX8_mix 81 = .ok (.ldc2_w 83, 3) := by decide +kernel
theorem dX8_mix_84 : decode cX8_mix 84 = .ok (.lreturn, 1) := by decide +kernel
theorem dX8_mix_85 : decode cX8_mix 85 = .ok (.iconst 0, 1) := by decide +kernel
theorem dX8_mix_86 : decode cX8_mix 86 = .ok (.istore 5, 2) := by decide +kernel
theorem dX8_mix_88 : decode cX8_mix 88 = .ok (.iload 5, 2) := by decide +kernel
theorem dX8_mix_90 : decode cX8_mix 90 = .ok (.iload 4, 2) := by decide +kernel
theorem dX8_mix_92 : decode cX8_mix 92 = .ok (.if_icmp .ge 31, 3) := by decide +kernel
theorem dX8_mix_95 : decode cX8_mix 95 = .ok (.aload_n 0, 1) := by decide +kernel
theorem dX8_mix_96 : decode cX8_mix 96 = .ok (.getfield 33, 3) := by decide +kernel
theorem dX8_mix_99 : decode cX8_mix 99 = .ok (.iload_n 1, 1) := by decide +kernel
theorem dX8_mix_100 : decode cX8_mix 100 = .ok (.iload 5, 2) := by decide +kernel
theorem dX8_mix_102 : decode cX8_mix 102 = .ok (.aload_n 0, 1) := by decide +kernel
theorem dX8_mix_103 : decode cX8_mix 103 = .ok (.getfield 12, 3) := by decide +kernel
theorem dX8_mix_106 : decode cX8_mix 106 = .ok (.iload_n 2, 1) := by decide +kernel
theorem dX8_mix_107 : decode cX8_mix 107 = .ok (.iload_n 3, 1) := by decide +kernel
theorem dX8_mix_108 : decode cX8_mix 108 = .ok (.iload 5, 2) := by decide +kernel
theorem dX8_mix_110 : decode cX8_mix 110 = .ok (.iadd, 1) := by decide +kernel
theorem dX8_mix_111 : decode cX8_mix 111 = .ok (.invokevirtual 191, 3) := by decide +kernel
theorem dX8_mix_114 : decode cX8_mix 114 = .ok (.invokevirtual 195, 3) := by decide +kernel
theorem dX8_mix_117 : decode cX8_mix 117 = .ok (.iinc 5 1, 3) := by decide +kernel
theorem dX8_mix_120 : decode cX8_mix 120 = .ok (.goto (-32), 3) := by decide +kernel
theorem dX8_mix_123 : decode cX8_mix 123 = .ok (.aload_n 0, 1) := by decide +kernel
theorem dX8_mix_124 : decode cX8_mix 124 = .ok (.lconst 1, 1) := by decide +kernel
theorem dX8_mix_125 : decode cX8_mix 125 = .ok (.invokevirtual 93, 3) := by decide +kernel
theorem dX8_mix_128 : decode cX8_mix 128 = .ok (.lreturn, 1) := by decide +kernel
def f_HG_mix_b88 (k88 : Int32 → Int32 → Int32 → Int32 → Int32 → St → Option (Int64 × St)) (x1 : Int32) (x2 : Int32) (x3 : Int32) (x4 : Int32) (x5 : Int32) (σ : St) : Option (Int64 × St) :=
  if x4 ≤ x5 then (bd (f_HG_fine 1 σ) fun r4 σ3 => some (r4, σ3)) else (bd (f_Shelf_itemAt x2 (x3 + x5) σ) fun r7 σ6 => bv (f_Plan_give 4 x1 x5 r7 σ6) fun σ9 => k88 x1 x2 x3 x4 (x5 + 1) σ9)
set_option maxRecDepth 4000 in
theorem ok_HG_mix_b88 {E : gE} {w : wT} {σ' : St} {r : Int64} (X : gC E w cX8_mix 6 RX8 3) (Y : gQ E w (some .long) (some (.long r)) σ') {k88 : Int32 → Int32 → Int32 → Int32 → Int32 → St → Option (Int64 × St)} (hk88 : ∀ (x1 : Int32) (x2 : Int32) (x3 : Int32) (x4 : Int32) (x5 : Int32) (σ : St), k88 x1 x2 x3 x4 x5 σ = some (r, σ') → gW E w 6 σ 88 [some (.ref (w.1 0)), some (.int x1), some (.int x2), some (.int x3), some (.int x4), some (.int x5)] []) {x1 : Int32} {x2 : Int32} {x3 : Int32} {x4 : Int32} {x5 : Int32} (σ : St) (h : f_HG_mix_b88 k88 x1 x2 x3 x4 x5 σ = some (r, σ')) : gW E w 6 σ 88 [some (.ref (w.1 0)), some (.int x1), some (.int x2), some (.int x3), some (.int x4), some (.int x5)] [] := by
  unfold f_HG_mix_b88 at h
  refine g_iload X dX8_mix_88 rfl rfl ?_
  refine g_iload X dX8_mix_90 rfl rfl ?_
  refine g_icmp_ge X dX8_mix_92 (tgt := 123) rfl rfl (fun c1 => ?_) (fun c1 => ?_)
  · replace h := if_t c1 h
    refine g_aload_n X dX8_mix_123 rfl rfl ?_
    refine g_lconst X kL_1 dX8_mix_124 rfl ?_
    obtain ⟨r4, σ3, h2, h⟩ := bd_e h
    refine g_callVJ X [.long 1] (ok_HG_fine X.inj h2) my_yX8_fine mi_yX8_fine ms_yX8_fine ml_RX8_93 (by decide) rfl rfl (by decide) rfl dX8_mix_125 (Nat.le_of_ble_eq_true rfl) rfl rfl ?_
    obtain ⟨rfl, rfl⟩ := rt_e h
    exact g_lret X Y dX8_mix_128
  · replace h := if_f c1 h
    refine g_aload_n X dX8_mix_95 rfl rfl ?_
    refine gf_RX8_33 X dX8_mix_96 rfl ?_
    refine g_iload_n X dX8_mix_99 rfl rfl ?_
    refine g_iload X dX8_mix_100 rfl rfl ?_
    refine g_aload_n X dX8_mix_102 rfl rfl ?_
    refine gf_RX8_12 X dX8_mix_103 rfl ?_
    refine g_iload_n X dX8_mix_106 rfl rfl ?_
    refine g_iload_n X dX8_mix_107 rfl rfl ?_
    refine g_iload X dX8_mix_108 rfl rfl ?_
    refine g_iadd X dX8_mix_110 rfl ?_
    obtain ⟨r7, σ6, h5, h⟩ := bd_e h
    refine g_callVI X [.int x2, .int (x3 + x5)] (ok_Shelf_itemAt X.inj h5) my_yX5_itemAt mi_yX5_itemAt ms_yX5_itemAt ml_RX8_191 (by decide) rfl rfl (by decide) rfl dX8_mix_111 (Nat.le_of_ble_eq_true rfl) rfl rfl ?_
    obtain ⟨σ9, h8, h⟩ := bv_e h
    refine g_callVV X [.int x1, .int x5, .int r7] (ok_Plan_give X.inj h8) my_yX3_give mi_yX3_give ms_yX3_give ml_RX8_195 (po_ (by decide : isP 4 = true)).1 (po_ (by decide : isP 4 = true)).2.1 (po_ (by decide : isP 4 = true)).2.2 (by decide) rfl dX8_mix_114 (Nat.le_of_ble_eq_true rfl) rfl rfl ?_
    refine g_iinc X [some (.ref (w.1 0)), some (.int x1), some (.int x2), some (.int x3), some (.int x4), some (.int (x5 + 1))] dX8_mix_117 rfl (ii_1 x5) (Nat.le_of_ble_eq_true rfl) rfl rfl rfl ?_
    refine g_goto X dX8_mix_120 (tgt := 88) rfl ?_
    exact hk88 x1 x2 x3 x4 (x5 + 1) σ9 h
def f_HG_mix_l88 : Int32 → Int32 → Int32 → Int32 → Int32 → St → Option (Int64 × St) := lp (fun _ _ _ _ _ _ => none) (f_HG_mix_b88) FU
theorem ok_HG_mix_l88 {E : gE} {w : wT} {σ' : St} {r : Int64} (X : gC E w cX8_mix 6 RX8 3) (Y : gQ E w (some .long) (some (.long r)) σ') {x1 : Int32} {x2 : Int32} {x3 : Int32} {x4 : Int32} {x5 : Int32} (σ : St) (h : f_HG_mix_l88 x1 x2 x3 x4 x5 σ = some (r, σ')) : gW E w 6 σ 88 [some (.ref (w.1 0)), some (.int x1), some (.int x2), some (.int x3), some (.int x4), some (.int x5)] [] :=
  lp_ind (P := fun (k : Int32 → Int32 → Int32 → Int32 → Int32 → St → Option (Int64 × St)) => ∀ (x1 : Int32) (x2 : Int32) (x3 : Int32) (x4 : Int32) (x5 : Int32) (σ : St), k x1 x2 x3 x4 x5 σ = some (r, σ') → gW E w 6 σ 88 [some (.ref (w.1 0)), some (.int x1), some (.int x2), some (.int x3), some (.int x4), some (.int x5)] []) (fun _ _ _ _ _ _ hh => nn hh) (fun k hk x1 x2 x3 x4 x5 σ  hh => ok_HG_mix_b88 X Y hk σ hh) FU x1 x2 x3 x4 x5 σ  h

def f_HG_mix (x1 : Int32) (x2 : Int32) (x3 : Int32) (σ : St) : Option (Int64 × St) :=
  bd (f_HG_isSet x1 σ) fun r3 σ2 => if r3 = 0 then (some ((-9000000000000000001), σ2)) else (bd (f_HG_isRow x2 σ2) fun r7 σ6 => if r7 = 0 then (some ((-9000000000000000001), σ6)) else (bd (f_Shelf_isMissing x2 σ6) fun r11 σ10 => if r11 = 0 then (ck (isG (rR σ10 0)) <| ck (ib x1 10) <| bd (f_Shelf_hasItems x2 x3 (rI σ10 ((rR σ10 0) + 14) x1) σ10) fun r17 σ16 => if r17 = 0 then (bd (f_HG_found 2 σ16) fun r25 σ24 => some (r25, σ24)) else (bd (f_Shelf_hasShares x2 x3 (rI σ10 ((rR σ10 0) + 14) x1) σ16) fun r21 σ20 => if r21 = 0 then (some ((-9000000000000000001), σ20)) else (f_HG_mix_l88 x1 x2 x3 (rI σ10 ((rR σ10 0) + 14) x1) 0 σ20))) else (bd (f_HG_found 1 σ10) fun r28 σ27 => some (r28, σ27))))
set_option maxRecDepth 4000 in
theorem ok_HG_mix {w : wT} (hi : wInj w) {l : Launch} {x1 : Int32} {x2 : Int32} {x3 : Int32} {σ σ' : St} {r : Int64} (h : f_HG_mix x1 x2 x3 σ = some (r, σ')) : gM w l yX8_mix cX8_mix 6 (some .long) 3 [.ref (w.1 0), .int x1, .int x2, .int x3] σ (some (.long r)) σ' := by
  unfold f_HG_mix at h
  refine gM_of hi (by decide) [some (.ref (w.1 0)), some (.int x1), some (.int x2), some (.int x3)] rfl (Nat.le_of_ble_eq_true rfl) (fun E hl X Y => ?_)
  refine g_aload_n X dX8_mix_0 rfl rfl ?_
  refine g_iload_n X dX8_mix_1 rfl rfl ?_
  obtain ⟨r3, σ2, h1, h⟩ := bd_e h
  refine g_callVI X [.int x1] (ok_HG_isSet X.inj h1) my_yX8_isSet mi_yX8_isSet ms_yX8_isSet ml_RX8_185 (by decide) rfl rfl (by decide) rfl dX8_mix_2 (Nat.le_of_ble_eq_true rfl) rfl rfl ?_
  refine g_if_eq X dX8_mix_5 (tgt := 15) rfl rfl (fun c4 => ?_) (fun c4 => ?_)
  · replace h := if_t c4 h
    refine g_ldc2 X dX8_mix_15 kc_RX8_83 rfl ?_
    obtain ⟨rfl, rfl⟩ := rt_e h
    exact g_lret X Y dX8_mix_18
  · replace h := if_f c4 h
    refine g_iload_n X dX8_mix_8 rfl rfl ?_
    obtain ⟨r7, σ6, h5, h⟩ := bd_e h
    refine g_callSI X [.int x2] (ok_HG_isRow X.inj h5) my_yX8_isRow mt_yX8_isRow ml_RX8_79 (by decide) rfl dX8_mix_9 (Nat.le_of_ble_eq_true rfl) rfl rfl ?_
    refine g_if_ne X dX8_mix_12 (tgt := 19) rfl rfl (fun c8 => ?_) (fun c8 => ?_)
    · replace h := if_f c8 h
      refine g_aload_n X dX8_mix_19 rfl rfl ?_
      refine gf_RX8_12 X dX8_mix_20 rfl ?_
      refine g_iload_n X dX8_mix_23 rfl rfl ?_
      obtain ⟨r11, σ10, h9, h⟩ := bd_e h
      refine g_callVI X [.int x2] (ok_Shelf_isMissing X.inj h9) my_yX5_isMissing mi_yX5_isMissing ms_yX5_isMissing ml_RX8_97 (by decide) rfl rfl (by decide) rfl dX8_mix_24 (Nat.le_of_ble_eq_true rfl) rfl rfl ?_
      refine g_if_eq X dX8_mix_27 (tgt := 36) rfl rfl (fun c12 => ?_) (fun c12 => ?_)
      · replace h := if_t c12 h
        refine g_aload_n X dX8_mix_36 rfl rfl ?_
        refine gf_RX8_65 X dX8_mix_37 rfl ?_
        obtain ⟨c13, h⟩ := ck_e h
        refine gf_RX8_172 c13 X dX8_mix_40 rfl ?_
        refine g_iload_n X dX8_mix_43 rfl rfl ?_
        obtain ⟨c14, h⟩ := ck_e h
        refine g_iald X (ga_14 c13).1 (ga_14 c13).2.1 (ga_14 c13).2.2 (ib_e c14) dX8_mix_44 rfl ?_
        refine g_istore X [some (.ref (w.1 0)), some (.int x1), some (.int x2), some (.int x3), some (.int (rI σ10 ((rR σ10 0) + 14) x1))] dX8_mix_45 (Nat.le_of_ble_eq_true rfl) rfl rfl rfl ?_
        refine g_aload_n X dX8_mix_47 rfl rfl ?_
        refine gf_RX8_12 X dX8_mix_48 rfl ?_
        refine g_iload_n X dX8_mix_51 rfl rfl ?_
        refine g_iload_n X dX8_mix_52 rfl rfl ?_
        refine g_iload X dX8_mix_53 rfl rfl ?_
        obtain ⟨r17, σ16, h15, h⟩ := bd_e h
        refine g_callVI X [.int x2, .int x3, .int (rI σ10 ((rR σ10 0) + 14) x1)] (ok_Shelf_hasItems X.inj h15) my_yX5_hasItems mi_yX5_hasItems ms_yX5_hasItems ml_RX8_100 (by decide) rfl rfl (by decide) rfl dX8_mix_55 (Nat.le_of_ble_eq_true rfl) rfl rfl ?_
        refine g_if_ne X dX8_mix_58 (tgt := 67) rfl rfl (fun c18 => ?_) (fun c18 => ?_)
        · replace h := if_f c18 h
          refine g_aload_n X dX8_mix_67 rfl rfl ?_
          refine gf_RX8_12 X dX8_mix_68 rfl ?_
          refine g_iload_n X dX8_mix_71 rfl rfl ?_
          refine g_iload_n X dX8_mix_72 rfl rfl ?_
          refine g_iload X dX8_mix_73 rfl rfl ?_
          obtain ⟨r21, σ20, h19, h⟩ := bd_e h
          refine g_callVI X [.int x2, .int x3, .int (rI σ10 ((rR σ10 0) + 14) x1)] (ok_Shelf_hasShares X.inj h19) my_yX5_hasShares mi_yX5_hasShares ms_yX5_hasShares ml_RX8_188 (by decide) rfl rfl (by decide) rfl dX8_mix_75 (Nat.le_of_ble_eq_true rfl) rfl rfl ?_
          refine g_if_ne X dX8_mix_78 (tgt := 85) rfl rfl (fun c22 => ?_) (fun c22 => ?_)
          · replace h := if_f c22 h
            refine g_iconst X kI_0 dX8_mix_85 rfl ?_
            refine g_istore X [some (.ref (w.1 0)), some (.int x1), some (.int x2), some (.int x3), some (.int (rI σ10 ((rR σ10 0) + 14) x1)), some (.int 0)] dX8_mix_86 (Nat.le_of_ble_eq_true rfl) rfl rfl rfl ?_
            exact ok_HG_mix_l88 X Y σ20 h
          · replace h := if_t c22 h
            refine g_ldc2 X dX8_mix_81 kc_RX8_83 rfl ?_
            obtain ⟨rfl, rfl⟩ := rt_e h
            exact g_lret X Y dX8_mix_84
        · replace h := if_t c18 h
          refine g_aload_n X dX8_mix_61 rfl rfl ?_
          refine g_iconst X kI_2 dX8_mix_62 rfl ?_
          obtain ⟨r25, σ24, h23, h⟩ := bd_e h
          refine g_callVJ X [.int 2] (ok_HG_found X.inj h23) my_yX8_found mi_yX8_found ms_yX8_found ml_RX8_85 (by decide) rfl rfl (by decide) rfl dX8_mix_63 (Nat.le_of_ble_eq_true rfl) rfl rfl ?_
          obtain ⟨rfl, rfl⟩ := rt_e h
          exact g_lret X Y dX8_mix_66
      · replace h := if_f c12 h
        refine g_aload_n X dX8_mix_30 rfl rfl ?_
        refine g_iconst X kI_1 dX8_mix_31 rfl ?_
        obtain ⟨r28, σ27, h26, h⟩ := bd_e h
        refine g_callVJ X [.int 1] (ok_HG_found X.inj h26) my_yX8_found mi_yX8_found ms_yX8_found ml_RX8_85 (by decide) rfl rfl (by decide) rfl dX8_mix_32 (Nat.le_of_ble_eq_true rfl) rfl rfl ?_
        obtain ⟨rfl, rfl⟩ := rt_e h
        exact g_lret X Y dX8_mix_35
    · replace h := if_t c8 h
      refine g_ldc2 X dX8_mix_15 kc_RX8_83 rfl ?_
      obtain ⟨rfl, rfl⟩ := rt_e h
      exact g_lret X Y dX8_mix_18

theorem dX8_isAct_0 : decode cX8_isAct 0 = .ok (.aload_n 0, 1) := by decide +kernel
theorem dX8_isAct_1 : decode cX8_isAct 1 = .ok (.iload_n 1, 1) := by decide +kernel
theorem dX8_isAct_2 : decode cX8_isAct 2 = .ok (.invokevirtual 185, 3) := by decide +kernel
theorem dX8_isAct_5 : decode cX8_isAct 5 = .ok (.ifCond .eq 24, 3) := by decide +kernel
theorem dX8_isAct_8 : decode cX8_isAct 8 = .ok (.iload_n 2, 1) := by decide +kernel
theorem dX8_isAct_9 : decode cX8_isAct 9 = .ok (.ifCond .lt 20, 3) := by decide +kernel
theorem dX8_isAct_12 : decode cX8_isAct 12 = .ok (.iload_n 2, 1) := by decide +kernel
theorem dX8_isAct_13 : decode cX8_isAct 13 = .ok (.aload_n 0, 1) := by decide +kernel
theorem dX8_isAct_14 : decode cX8_isAct 14 = .ok (.getfield 65, 3) := by decide +kernel
theorem dX8_isAct_17 : decode cX8_isAct 17 = .ok (.getfield 172, 3) := by decide +kernel
theorem dX8_isAct_20 : decode cX8_isAct 20 = .ok (.iload_n 1, 1) := by decide +kernel
theorem dX8_isAct_21 : decode cX8_isAct 21 = .ok (.iaload, 1) := by decide +kernel
theorem dX8_isAct_22 : decode cX8_isAct 22 = .ok (.if_icmp .ge 7, 3) := by decide +kernel
theorem dX8_isAct_25 : decode cX8_isAct 25 = .ok (.iconst 1, 1) := by decide +kernel
theorem dX8_isAct_26 : decode cX8_isAct 26 = .ok (.goto 4, 3) := by decide +kernel
theorem dX8_isAct_29 : decode cX8_isAct 29 = .ok (.iconst 0, 1) := by decide +kernel
theorem dX8_isAct_30 : decode cX8_isAct 30 = .ok (.ireturn, 1) := by decide +kernel
def f_HG_isAct (x1 : Int32) (x2 : Int32) (σ : St) : Option (Int32 × St) :=
  bd (f_HG_isSet x1 σ) fun r3 σ2 => if r3 = 0 then (some (0, σ2)) else (if x2 < 0 then (some (0, σ2)) else (ck (isG (rR σ2 0)) <| ck (ib x1 10) <| if (rI σ2 ((rR σ2 0) + 14) x1) ≤ x2 then (some (0, σ2)) else (some (1, σ2))))
set_option maxRecDepth 4000 in
theorem ok_HG_isAct {w : wT} (hi : wInj w) {l : Launch} {x1 : Int32} {x2 : Int32} {σ σ' : St} {r : Int32} (h : f_HG_isAct x1 x2 σ = some (r, σ')) : gM w l yX8_isAct cX8_isAct 3 (some .boolean) 2 [.ref (w.1 0), .int x1, .int x2] σ (some (.int r)) σ' := by
  unfold f_HG_isAct at h
  refine gM_of hi (by decide) [some (.ref (w.1 0)), some (.int x1), some (.int x2)] rfl (Nat.le_of_ble_eq_true rfl) (fun E hl X Y => ?_)
  refine g_aload_n X dX8_isAct_0 rfl rfl ?_
  refine g_iload_n X dX8_isAct_1 rfl rfl ?_
  obtain ⟨r3, σ2, h1, h⟩ := bd_e h
  refine g_callVI X [.int x1] (ok_HG_isSet X.inj h1) my_yX8_isSet mi_yX8_isSet ms_yX8_isSet ml_RX8_185 (by decide) rfl rfl (by decide) rfl dX8_isAct_2 (Nat.le_of_ble_eq_true rfl) rfl rfl ?_
  refine g_if_eq X dX8_isAct_5 (tgt := 29) rfl rfl (fun c4 => ?_) (fun c4 => ?_)
  · replace h := if_t c4 h
    refine g_iconst X kI_0 dX8_isAct_29 rfl ?_
    obtain ⟨rfl, rfl⟩ := rt_e h
    exact g_zret X Y rfl dX8_isAct_30
  · replace h := if_f c4 h
    refine g_iload_n X dX8_isAct_8 rfl rfl ?_
    refine g_if_lt X dX8_isAct_9 (tgt := 29) rfl rfl (fun c5 => ?_) (fun c5 => ?_)
    · replace h := if_t c5 h
      refine g_iconst X kI_0 dX8_isAct_29 rfl ?_
      obtain ⟨rfl, rfl⟩ := rt_e h
      exact g_zret X Y rfl dX8_isAct_30
    · replace h := if_f c5 h
      refine g_iload_n X dX8_isAct_12 rfl rfl ?_
      refine g_aload_n X dX8_isAct_13 rfl rfl ?_
      refine gf_RX8_65 X dX8_isAct_14 rfl ?_
      obtain ⟨c6, h⟩ := ck_e h
      refine gf_RX8_172 c6 X dX8_isAct_17 rfl ?_
      refine g_iload_n X dX8_isAct_20 rfl rfl ?_
      obtain ⟨c7, h⟩ := ck_e h
      refine g_iald X (ga_14 c6).1 (ga_14 c6).2.1 (ga_14 c6).2.2 (ib_e c7) dX8_isAct_21 rfl ?_
      refine g_icmp_ge X dX8_isAct_22 (tgt := 29) rfl rfl (fun c8 => ?_) (fun c8 => ?_)
      · replace h := if_t c8 h
        refine g_iconst X kI_0 dX8_isAct_29 rfl ?_
        obtain ⟨rfl, rfl⟩ := rt_e h
        exact g_zret X Y rfl dX8_isAct_30
      · replace h := if_f c8 h
        refine g_iconst X kI_1 dX8_isAct_25 rfl ?_
        refine g_goto X dX8_isAct_26 (tgt := 30) rfl ?_
        obtain ⟨rfl, rfl⟩ := rt_e h
        exact g_zret X Y rfl dX8_isAct_30

theorem dX3_shareOf_0 : decode cX3_shareOf 0 = .ok (.aload_n 0, 1) := by decide +kernel
theorem dX3_shareOf_1 : decode cX3_shareOf 1 = .ok (.getfield 9, 3) := by decide +kernel
theorem dX3_shareOf_4 : decode cX3_shareOf 4 = .ok (.iload_n 1, 1) := by decide +kernel
theorem dX3_shareOf_5 : decode cX3_shareOf 5 = .ok (.iconst 3, 1) := by decide +kernel
theorem dX3_shareOf_6 : decode cX3_shareOf 6 = .ok (.imul, 1) := by decide +kernel
theorem dX3_shareOf_7 : decode cX3_shareOf 7 = .ok (.iload_n 2, 1) := by decide +kernel
theorem dX3_shareOf_8 : decode cX3_shareOf 8 = .ok (.iadd, 1) := by decide +kernel
theorem dX3_shareOf_9 : decode cX3_shareOf 9 = .ok (.iaload, 1) := by decide +kernel
theorem dX3_shareOf_10 : decode cX3_shareOf 10 = .ok (.ireturn, 1) := by decide +kernel
def f_Plan_shareOf (q : Nat) (x1 : Int32) (x2 : Int32) (σ : St) : Option (Int32 × St) :=
  ck (isP q) <| ck (ib ((x1 * 3) + x2) 30) <| some (rI σ (q + 47) ((x1 * 3) + x2), σ)
set_option maxRecDepth 4000 in
theorem ok_Plan_shareOf {w : wT} (hi : wInj w) {l : Launch} {q : Nat} {x1 : Int32} {x2 : Int32} {σ σ' : St} {r : Int32} (h : f_Plan_shareOf q x1 x2 σ = some (r, σ')) : gM w l yX3_shareOf cX3_shareOf 3 (some .int) 1 [.ref (w.1 q), .int x1, .int x2] σ (some (.int r)) σ' := by
  unfold f_Plan_shareOf at h
  obtain ⟨hq, h⟩ := ck_e h
  refine gM_of hi (by decide) [some (.ref (w.1 q)), some (.int x1), some (.int x2)] rfl (Nat.le_of_ble_eq_true rfl) (fun E hl X Y => ?_)
  refine g_aload_n X dX3_shareOf_0 rfl rfl ?_
  refine gf_RX3_9 hq X dX3_shareOf_1 rfl ?_
  refine g_iload_n X dX3_shareOf_4 rfl rfl ?_
  refine g_iconst X kI_3 dX3_shareOf_5 rfl ?_
  refine g_imul X dX3_shareOf_6 rfl ?_
  refine g_iload_n X dX3_shareOf_7 rfl rfl ?_
  refine g_iadd X dX3_shareOf_8 rfl ?_
  obtain ⟨c1, h⟩ := ck_e h
  refine g_iald X (pa_47 hq).1 (pa_47 hq).2.1 (pa_47 hq).2.2 (ib_e c1) dX3_shareOf_9 rfl ?_
  obtain ⟨rfl, rfl⟩ := rt_e h
  exact g_iret X Y dX3_shareOf_10

theorem dX8_share_0 : decode cX8_share 0 = .ok (.aload_n 0, 1) := by decide +kernel
theorem dX8_share_1 : decode cX8_share 1 = .ok (.iload_n 1, 1) := by decide +kernel
theorem dX8_share_2 : decode cX8_share 2 = .ok (.iload_n 2, 1) := by decide +kernel
theorem dX8_share_3 : decode cX8_share 3 = .ok (.invokevirtual 198, 3) := by decide +kernel
theorem dX8_share_6 : decode cX8_share 6 = .ok (.ifCond .eq 16, 3) := by decide +kernel
theorem dX8_share_9 : decode cX8_share 9 = .ok (.aload_n 0, 1) := by decide +kernel
theorem dX8_share_10 : decode cX8_share 10 = .ok (.getfield 33, 3) := by decide +kernel
theorem dX8_share_13 : decode cX8_share 13 = .ok (.iload_n 1, 1) := by decide +kernel
theorem dX8_share_14 : decode cX8_share 14 = .ok (.iload_n 2, 1) := by decide +kernel
theorem dX8_share_15 : decode cX8_share 15 = .ok (.invokevirtual 202, 3) := by decide +kernel
theorem dX8_share_18 : decode cX8_share 18 = .ok (.i2l, 1) := by decide +kernel
theorem dX8_share_19 : decode cX8_share 19 = .ok (.goto 6, 3) := by decide +kernel
theorem dX8_share_22 : decode cX8_share 22 = .ok (.ldc2_w 83, 3) := by decide +kernel
theorem dX8_share_25 : decode cX8_share 25 = .ok (.lreturn, 1) := by decide +kernel
def f_HG_share (x1 : Int32) (x2 : Int32) (σ : St) : Option (Int64 × St) :=
  bd (f_HG_isAct x1 x2 σ) fun r3 σ2 => if r3 = 0 then (some ((-9000000000000000001), σ2)) else (bd (f_Plan_shareOf 4 x1 x2 σ2) fun r7 σ6 => some (r7.toInt64, σ6))
set_option maxRecDepth 4000 in
theorem ok_HG_share {w : wT} (hi : wInj w) {l : Launch} {x1 : Int32} {x2 : Int32} {σ σ' : St} {r : Int64} (h : f_HG_share x1 x2 σ = some (r, σ')) : gM w l yX8_share cX8_share 3 (some .long) 3 [.ref (w.1 0), .int x1, .int x2] σ (some (.long r)) σ' := by
  unfold f_HG_share at h
  refine gM_of hi (by decide) [some (.ref (w.1 0)), some (.int x1), some (.int x2)] rfl (Nat.le_of_ble_eq_true rfl) (fun E hl X Y => ?_)
  refine g_aload_n X dX8_share_0 rfl rfl ?_
  refine g_iload_n X dX8_share_1 rfl rfl ?_
  refine g_iload_n X dX8_share_2 rfl rfl ?_
  obtain ⟨r3, σ2, h1, h⟩ := bd_e h
  refine g_callVI X [.int x1, .int x2] (ok_HG_isAct X.inj h1) my_yX8_isAct mi_yX8_isAct ms_yX8_isAct ml_RX8_198 (by decide) rfl rfl (by decide) rfl dX8_share_3 (Nat.le_of_ble_eq_true rfl) rfl rfl ?_
  refine g_if_eq X dX8_share_6 (tgt := 22) rfl rfl (fun c4 => ?_) (fun c4 => ?_)
  · replace h := if_t c4 h
    refine g_ldc2 X dX8_share_22 kc_RX8_83 rfl ?_
    obtain ⟨rfl, rfl⟩ := rt_e h
    exact g_lret X Y dX8_share_25
  · replace h := if_f c4 h
    refine g_aload_n X dX8_share_9 rfl rfl ?_
    refine gf_RX8_33 X dX8_share_10 rfl ?_
    refine g_iload_n X dX8_share_13 rfl rfl ?_
    refine g_iload_n X dX8_share_14 rfl rfl ?_
    obtain ⟨r7, σ6, h5, h⟩ := bd_e h
    refine g_callVI X [.int x1, .int x2] (ok_Plan_shareOf X.inj h5) my_yX3_shareOf mi_yX3_shareOf ms_yX3_shareOf ml_RX8_202 (po_ (by decide : isP 4 = true)).1 (po_ (by decide : isP 4 = true)).2.1 (po_ (by decide : isP 4 = true)).2.2 (by decide) rfl dX8_share_15 (Nat.le_of_ble_eq_true rfl) rfl rfl ?_
    refine g_i2l X dX8_share_18 rfl ?_
    refine g_goto X dX8_share_19 (tgt := 25) rfl ?_
    obtain ⟨rfl, rfl⟩ := rt_e h
    exact g_lret X Y dX8_share_25

theorem dX8_hasGame_0 : decode cX8_hasGame 0 = .ok (.aload_n 0, 1) := by decide +kernel
theorem dX8_hasGame_1 : decode cX8_hasGame 1 = .ok (.getfield 65, 3) := by decide +kernel
theorem dX8_hasGame_4 : decode cX8_hasGame 4 = .ok (.getfield 145, 3) := by decide +kernel
theorem dX8_hasGame_7 : decode cX8_hasGame 7 = .ok (.ifCond .le 7, 3) := by decide +kernel
theorem dX8_hasGame_10 : decode cX8_hasGame 10 = .ok (.iconst 1, 1) := by decide +kernel
theorem dX8_hasGame_11 : decode cX8_hasGame 11 = .ok (.goto 4, 3) := by decide +kernel
theorem dX8_hasGame_14 : decode cX8_hasGame 14 = .ok (.iconst 0, 1) := by decide +kernel
theorem dX8_hasGame_15 : decode cX8_hasGame 15 = .ok (.ireturn, 1) := by decide +kernel
def f_HG_hasGame (σ : St) : Option (Int32 × St) :=
  ck (isG (rR σ 0)) <| if (rF σ ((rR σ 0) + 10)) ≤ 0 then (some (0, σ)) else (some (1, σ))
set_option maxRecDepth 4000 in
theorem ok_HG_hasGame {w : wT} (hi : wInj w) {l : Launch} {σ σ' : St} {r : Int32} (h : f_HG_hasGame σ = some (r, σ')) : gM w l yX8_hasGame cX8_hasGame 1 (some .boolean) 1 [.ref (w.1 0)] σ (some (.int r)) σ' := by
  unfold f_HG_hasGame at h
  refine gM_of hi (by decide) [some (.ref (w.1 0))] rfl (Nat.le_of_ble_eq_true rfl) (fun E hl X Y => ?_)
  refine g_aload_n X dX8_hasGame_0 rfl rfl ?_
  refine gf_RX8_65 X dX8_hasGame_1 rfl ?_
  obtain ⟨c1, h⟩ := ck_e h
  refine gf_RX8_145 c1 X dX8_hasGame_4 rfl ?_
  refine g_if_le X dX8_hasGame_7 (tgt := 14) rfl rfl (fun c2 => ?_) (fun c2 => ?_)
  · replace h := if_t c2 h
    refine g_iconst X kI_0 dX8_hasGame_14 rfl ?_
    obtain ⟨rfl, rfl⟩ := rt_e h
    exact g_zret X Y rfl dX8_hasGame_15
  · replace h := if_f c2 h
    refine g_iconst X kI_1 dX8_hasGame_10 rfl ?_
    refine g_goto X dX8_hasGame_11 (tgt := 15) rfl ?_
    obtain ⟨rfl, rfl⟩ := rt_e h
    exact g_zret X Y rfl dX8_hasGame_15
