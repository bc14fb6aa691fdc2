theorem dX9_copy_0 : decode cX9_copy 0 = .ok (.iload_n 1, 1) := by decide +kernel
theorem dX9_copy_1 : decode cX9_copy 1 = .ok (.invokestatic 101, 3) := by decide +kernel
theorem dX9_copy_4 : decode cX9_copy 4 = .ok (.ifCond .eq 10, 3) := by decide +kernel
theorem dX9_copy_7 : decode cX9_copy 7 = .ok (.iload_n 3, 1) := by decide +kernel
theorem dX9_copy_8 : decode cX9_copy 8 = .ok (.invokestatic 101, 3) := by decide +kernel
theorem dX9_copy_11 : decode cX9_copy 11 = .ok (.ifCond .ne 7, 3) := by decide +kernel
theorem dX9_copy_14 : decode cX9_copy 14 = .ok (.ldc2_w 107, 3) := by decide +kernel
theorem dX9_copy_17 : decode cX9_copy 17 = .ok (.lreturn, 1) := by decide +kernel
theorem dX9_copy_18 : decode cX9_copy 18 = .ok (.aload_n 0, 1) := by decide +kernel
theorem dX9_copy_19 : decode cX9_copy 19 = .ok (.getfield 7, 3) := by decide +kernel
theorem dX9_copy_22 : decode cX9_copy 22 = .ok (.iload_n 1, 1) := by decide +kernel
theorem dX9_copy_23 : decode cX9_copy 23 = .ok (.iaload, 1) := by decide +kernel
theorem dX9_copy_24 : decode cX9_copy 24 = .ok (.ifCond .lt 12, 3) := by decide +kernel
theorem dX9_copy_27 : decode cX9_copy 27 = .ok (.aload_n 0, 1) := by decide +kernel
theorem dX9_copy_28 : decode cX9_copy 28 = .ok (.getfield 7, 3) := by decide +kernel
theorem dX9_copy_31 : decode cX9_copy 31 = .ok (.iload_n 3, 1) := by decide +kernel
theorem dX9_copy_32 : decode cX9_copy 32 = .ok (.iaload, 1) := by decide +kernel
theorem dX9_copy_33 : decode cX9_copy 33 = .ok (.ifCond .ge 9, 3) := by decide +kernel
theorem dX9_copy_36 : decode cX9_copy 36 = .ok (.aload_n 0, 1) := by decide +kernel
theorem dX9_copy_37 : decode cX9_copy 37 = .ok (.iconst 1, 1) := by decide +kernel
theorem dX9_copy_38 : decode cX9_copy 38 = .ok (.invokevirtual 109, 3) := by decide +kernel
theorem dX9_copy_41 : decode cX9_copy 41 = .ok (.lreturn, 1) := by decide +kernel
theorem dX9_copy_42 : decode cX9_copy 42 = .ok (.aload_n 0, 1) := by decide +kernel
theorem dX9_copy_43 : decode cX9_copy 43 = .ok (.getfield 7, 3) := by decide +kernel
theorem dX9_copy_46 : decode cX9_copy 46 = .ok (.iload_n 1, 1) := by decide +kernel
theorem dX9_copy_47 : decode cX9_copy 47 = .ok (.iaload, 1) := by decide +kernel
theorem dX9_copy_48 : decode cX9_copy 48 = .ok (.aload_n 0, 1) := by decide +kernel
theorem dX9_copy_49 : decode cX9_copy 49 = .ok (.getfield 7, 3) := by decide +kernel
theorem dX9_copy_52 : decode cX9_copy 52 = .ok (.iload_n 3, 1) := by decide +kernel
theorem dX9_copy_53 : decode cX9_copy 53 = .ok (.iaload, 1) := by decide +kernel
theorem dX9_copy_54 : decode cX9_copy 54 = .ok (.if_icmp .eq 9, 3) := by decide +kernel
theorem dX9_copy_57 : decode cX9_copy 57 = .ok (.aload_n 0, 1) := by decide +kernel
theorem dX9_copy_58 : decode cX9_copy 58 = .ok (.iconst 5, 1) := by decide +kernel
theorem dX9_copy_59 : decode cX9_copy 59 = .ok (.invokevirtual 109, 3) := by decide +kernel
theorem dX9_copy_62 : decode cX9_copy 62 = .ok (.lreturn, 1) := by decide +kernel
theorem dX9_copy_63 : decode cX9_copy 63 = .ok (.iload_n 2, 1) := by decide +kernel
theorem dX9_copy_64 : decode cX9_copy 64 = .ok (.ifCond .lt 48, 3) := by decide +kernel
theorem dX9_copy_67 : decode cX9_copy 67 = .ok (.iload 4, 2) := by decide +kernel
theorem dX9_copy_69 : decode cX9_copy 69 = .ok (.ifCond .lt 43, 3) := by decide +kernel
theorem dX9_copy_72 : decode cX9_copy 72 = .ok (.iload 5, 2) := by decide +kernel
theorem dX9_copy_74 : decode cX9_copy 74 = .ok (.ifCond .lt 38, 3) := by decide +kernel
theorem dX9_copy_77 : decode cX9_copy 77 = .ok (.iload_n 2, 1) := by decide +kernel
theorem dX9_copy_78 : decode cX9_copy 78 = .ok (.i2l, 1) := by decide +kernel
theorem dX9_copy_79 : decode cX9_copy 79 = .ok (.iload 5, 2) := by decide +kernel
theorem dX9_copy_81 : decode cX9_copy 81 = .ok (.i2l, 1) := by decide +kernel
theorem dX9_copy_82 : decode cX9_copy 82 = .ok (.ladd, 1) := by decide +kernel
theorem dX9_copy_83 : decode cX9_copy 83 = .ok (.aload_n 0, 1) := by decide +kernel
theorem dX9_copy_84 : decode cX9_copy 84 = .ok (.getfield 13, 3) := by decide +kernel
theorem dX9_copy_87 : decode cX9_copy 87 = .ok (.iload_n 1, 1) := by decide +kernel
theorem dX9_copy_88 : decode cX9_copy 88 = .ok (.iaload, 1) := by decide +kernel
theorem dX9_copy_89 : decode cX9_copy 89 = .ok (.i2l, 1) := by decide +kernel
theorem dX9_copy_90 : decode cX9_copy 90 = .ok (.lcmp, 1) := by decide +kernel
theorem dX9_copy_91 : decode cX9_copy 91 = .ok (.ifCond .gt 21, 3) := by decide +kernel
theorem dX9_copy_94 : decode cX9_copy 94 = .ok (.iload 4, 2) := by decide +kernel
theorem dX9_copy_96 : decode cX9_copy 96 = .ok (.i2l, 1) := by decide +kernel
theorem dX9_copy_97 : decode cX9_copy 97 = .ok (.iload 5, 2) := by decide +kernel
theorem dX9_copy_99 : decode cX9_copy 99 = .ok (.i2l, 1) := by decide +kernel
theorem dX9_copy_100 : decode cX9_copy 100 = .ok (.ladd, 1) := by decide +kernel
theorem dX9_copy_101 : decode cX9_copy 101 = .ok (.aload_n 0, 1) := by decide +kernel
theorem dX9_copy_102 : decode cX9_copy 102 = .ok (.getfield 13, 3) := by decide +kernel
theorem dX9_copy_105 : decode cX9_copy 105 = .ok (.iload_n 3, 1) := by decide +kernel
theorem dX9_copy_106 : decode cX9_copy 106 = .ok (.iaload, 1) := by decide +kernel
theorem dX9_copy_107 : decode cX9_copy 107 = .ok (.i2l, 1) := by decide +kernel
theorem dX9_copy_108 : decode cX9_copy 108 = .ok (.lcmp, 1) := by decide +kernel
theorem dX9_copy_109 : decode cX9_copy 109 = .ok (.ifCond .le 9, 3) := by decide +kernel
theorem dX9_copy_112 : decode cX9_copy 112 = .ok (.aload_n 0, 1) := by decide +kernel
theorem dX9_copy_113 : decode cX9_copy 113 = .ok (.iconst 2, 1) := by decide +kernel
theorem dX9_copy_114 : decode cX9_copy 114 = .ok (.invokevirtual 109, 3) := by decide +kernel
theorem dX9_copy_117 : decode cX9_copy 117 = .ok (.lreturn, 1) := by decide +kernel
theorem dX9_copy_118 : decode cX9_copy 118 = .ok (.iconst 0, 1) := by decide +kernel
theorem dX9_copy_119 : decode cX9_copy 119 = .ok (.istore 6, 2) := by decide +kernel
theorem dX9_copy_121 : decode cX9_copy 121 = .ok (.iload 6, 2) := by decide +kernel
theorem dX9_copy_123 : decode cX9_copy 123 = .ok (.iload 5, 2) := by decide +kernel
theorem dX9_copy_125 : decode cX9_copy 125 = .ok (.if_icmp .ge 58, 3) := by decide +kernel
theorem dX9_copy_128 : decode cX9_copy 128 = .ok (.iload_n 2, 1) := by decide +kernel
theorem dX9_copy_129 : decode cX9_copy 129 = .ok (.iload 4, 2) := by decide +kernel
theorem dX9_copy_131 : decode cX9_copy 131 = .ok (.if_icmp .ge 13, 3) := by decide +kernel
theorem dX9_copy_134 : decode cX9_copy 134 = .ok (.iload 5, 2) := by decide +kernel
theorem dX9_copy_136 : decode cX9_copy 136 = .ok (.iconst 1, 1) := by decide +kernel
theorem dX9_copy_137 : decode cX9_copy 137 = .ok (.isub, 1) := by decide +kernel
theorem dX9_copy_138 : decode cX9_copy 138 = .ok (.iload 6, 2) := by decide +kernel
theorem dX9_copy_140 : decode cX9_copy 140 = .ok (.isub, 1) := by decide +kernel
theorem dX9_copy_141 : decode cX9_copy 141 = .ok (.goto 5, 3) := by decide +kernel
theorem dX9_copy_144 : decode cX9_copy 144 = .ok (.iload 6, 2) := by decide +kernel
theorem dX9_copy_146 : decode cX9_copy 146 = .ok (.istore 7, 2) := by decide +kernel
theorem dX9_copy_148 : decode cX9_copy 148 = .ok (.aload_n 0, 1) := by decide +kernel
theorem dX9_copy_149 : decode cX9_copy 149 = .ok (.getfield 16, 3) := by decide +kernel
theorem dX9_copy_152 : decode cX9_copy 152 = .ok (.bipush 40, 2) := by decide +kernel
theorem dX9_copy_154 : decode cX9_copy 154 = .ok (.iload_n 3, 1) := by decide +kernel
theorem dX9_copy_155 : decode cX9_copy 155 = .ok (.imul, 1) := by decide +kernel
theorem dX9_copy_156 : decode cX9_copy 156 = .ok (.iload 4, 2) := by decide +kernel
theorem dX9_copy_158 : decode cX9_copy 158 = .ok (.iadd, 1) := by decide +kernel
theorem dX9_copy_159 : decode cX9_copy 159 = .ok (.iload 7, 2) := by decide +kernel
theorem dX9_copy_161 : decode cX9_copy 161 = .ok (.iadd, 1) := by decide +kernel
theorem dX9_copy_162 : decode cX9_copy 162 = .ok (.aload_n 0, 1) := by decide +kernel
theorem dX9_copy_163 : decode cX9_copy 163 = .ok (.getfield 16, 3) := by decide +kernel
theorem dX9_copy_166 : decode cX9_copy 166 = .ok (.bipush 40, 2) := by decide +kernel
theorem dX9_copy_168 : decode cX9_copy 168 = .ok (.iload_n 1, 1) := by decide +kernel
theorem dX9_copy_169 : decode cX9_copy 169 = .ok (.imul, 1) := by decide +kernel
theorem dX9_copy_170 : decode cX9_copy 170 = .ok (.iload_n 2, 1) := by decide +kernel
theorem dX9_copy_171 : decode cX9_copy 171 = .ok (.iadd, 1) := by decide +kernel
theorem dX9_copy_172 : decode cX9_copy 172 = .ok (.iload 7, 2) := by decide +kernel
theorem dX9_copy_174 : decode cX9_copy 174 = .ok (.iadd, 1) := by decide +kernel
theorem dX9_copy_175 : decode cX9_copy 175 = .ok (.iaload, 1) := by decide +kernel
theorem dX9_copy_176 : decode cX9_copy 176 = .ok (.iastore, 1) := by decide +kernel
theorem dX9_copy_177 : decode cX9_copy 177 = .ok (.iinc 6 1, 3) := by decide +kernel
theorem dX9_copy_180 : decode cX9_copy 180 = .ok (.goto (-59), 3) := by decide +kernel
theorem dX9_copy_183 : decode cX9_copy 183 = .ok (.aload_n 0, 1) := by decide +kernel
theorem dX9_copy_184 : decode cX9_copy 184 = .ok (.iload 5, 2) := by decide +kernel
theorem dX9_copy_186 : decode cX9_copy 186 = .ok (.i2l, 1) := by decide +kernel
theorem dX9_copy_187 : decode cX9_copy 187 = .ok (.invokevirtual 113, 3) := by decide +kernel
theorem dX9_copy_190 : decode cX9_copy 190 = .ok (.lreturn, 1) := by decide +kernel
def f_HM_copy_b146 (k121 : Int32 → Int32 → Int32 → Int32 → Int32 → Int32 → St → Option (Int64 × St)) (x1 : Int32) (x2 : Int32) (x3 : Int32) (x4 : Int32) (x5 : Int32) (x6 : Int32) (xs0 : Int32) (σ : St) : Option (Int64 × St) :=
  ck (ib (((40 * x1) + x2) + xs0) 320) <| ck (ib (((40 * x3) + x4) + xs0) 320) <| lE (stA σ 65 (((40 * x3) + x4) + xs0).toNatClampNeg (rI σ 65 (((40 * x1) + x2) + xs0))) fun σ3 => k121 x1 x2 x3 x4 x5 (x6 + 1) σ3
set_option maxRecDepth 4000 in
theorem ok_HM_copy_b146 {E : gE} {w : wT} {σ' : St} {r : Int64} (X : gC E w cX9_copy 8 RX9 3) (Y : gQ E w (some .long) (some (.long r)) σ') {k121 : Int32 → Int32 → Int32 → Int32 → Int32 → Int32 → St → Option (Int64 × St)} (hk121 : ∀ (x1 : Int32) (x2 : Int32) (x3 : Int32) (x4 : Int32) (x5 : Int32) (x6 : Int32) (σ : St), k121 x1 x2 x3 x4 x5 x6 σ = some (r, σ') → gW E w 8 σ 121 [some (.ref (w.1 9)), some (.int x1), some (.int x2), some (.int x3), some (.int x4), some (.int x5), some (.int x6)] []) {x1 : Int32} {x2 : Int32} {x3 : Int32} {x4 : Int32} {x5 : Int32} {x6 : Int32} {xs0 : Int32} (σ : St) (h : f_HM_copy_b146 k121 x1 x2 x3 x4 x5 x6 xs0 σ = some (r, σ')) : gW E w 8 σ 146 [some (.ref (w.1 9)), some (.int x1), some (.int x2), some (.int x3), some (.int x4), some (.int x5), some (.int x6)] [.int xs0] := by
  unfold f_HM_copy_b146 at h
  refine g_istore X [some (.ref (w.1 9)), some (.int x1), some (.int x2), some (.int x3), some (.int x4), some (.int x5), some (.int x6), some (.int xs0)] dX9_copy_146 (Nat.le_of_ble_eq_true rfl) rfl rfl rfl ?_
  refine g_aload_n X dX9_copy_148 rfl rfl ?_
  refine gf_RX9_16 X dX9_copy_149 rfl ?_
  refine g_bipush X kB_40 dX9_copy_152 rfl ?_
  refine g_iload_n X dX9_copy_154 rfl rfl ?_
  refine g_imul X dX9_copy_155 rfl ?_
  refine g_iload X dX9_copy_156 rfl rfl ?_
  refine g_iadd X dX9_copy_158 rfl ?_
  refine g_iload X dX9_copy_159 rfl rfl ?_
  refine g_iadd X dX9_copy_161 rfl ?_
  refine g_aload_n X dX9_copy_162 rfl rfl ?_
  refine gf_RX9_16 X dX9_copy_163 rfl ?_
  refine g_bipush X kB_40 dX9_copy_166 rfl ?_
  refine g_iload_n X dX9_copy_168 rfl rfl ?_
  refine g_imul X dX9_copy_169 rfl ?_
  refine g_iload_n X dX9_copy_170 rfl rfl ?_
  refine g_iadd X dX9_copy_171 rfl ?_
  refine g_iload X dX9_copy_172 rfl rfl ?_
  refine g_iadd X dX9_copy_174 rfl ?_
  obtain ⟨c1, h⟩ := ck_e h
  refine g_iald X ar_65.1 ar_65.2.1 ar_65.2.2 (ib_e c1) dX9_copy_175 rfl ?_
  obtain ⟨c2, h⟩ := ck_e h
  refine g_iast X ar_65.1 ar_65.2.1 ar_65.2.2 (ib_e c2) dX9_copy_176 rfl (fun σ3 e4 => ?_)
  replace h := lE_c e4 h
  refine g_iinc X [some (.ref (w.1 9)), some (.int x1), some (.int x2), some (.int x3), some (.int x4), some (.int x5), some (.int (x6 + 1)), some (.int xs0)] dX9_copy_177 rfl (ii_1 x6) (Nat.le_of_ble_eq_true rfl) rfl rfl rfl ?_
  refine g_goto X dX9_copy_180 (tgt := 121) rfl ?_
  exact g_le (lle_s (lle_s (lle_s (lle_s (lle_s (lle_s (lle_s (lle_0)))))))) (hk121 x1 x2 x3 x4 x5 (x6 + 1) σ3 h)

def f_HM_copy_b121 (k121 : Int32 → Int32 → Int32 → Int32 → Int32 → Int32 → St → Option (Int64 × St)) (x1 : Int32) (x2 : Int32) (x3 : Int32) (x4 : Int32) (x5 : Int32) (x6 : Int32) (σ : St) : Option (Int64 × St) :=
  if x5 ≤ x6 then (bd (f_HM_taken x5.toInt64 σ) fun r4 σ3 => some (r4, σ3)) else (if x4 ≤ x2 then (f_HM_copy_b146 k121 x1 x2 x3 x4 x5 x6 x6 σ) else (f_HM_copy_b146 k121 x1 x2 x3 x4 x5 x6 ((x5 - 1) - x6) σ))
set_option maxRecDepth 4000 in
theorem ok_HM_copy_b121 {E : gE} {w : wT} {σ' : St} {r : Int64} (X : gC E w cX9_copy 8 RX9 3) (Y : gQ E w (some .long) (some (.long r)) σ') {k121 : Int32 → Int32 → Int32 → Int32 → Int32 → Int32 → St → Option (Int64 × St)} (hk121 : ∀ (x1 : Int32) (x2 : Int32) (x3 : Int32) (x4 : Int32) (x5 : Int32) (x6 : Int32) (σ : St), k121 x1 x2 x3 x4 x5 x6 σ = some (r, σ') → gW E w 8 σ 121 [some (.ref (w.1 9)), some (.int x1), some (.int x2), some (.int x3), some (.int x4), some (.int x5), some (.int x6)] []) {x1 : Int32} {x2 : Int32} {x3 : Int32} {x4 : Int32} {x5 : Int32} {x6 : Int32} (σ : St) (h : f_HM_copy_b121 k121 x1 x2 x3 x4 x5 x6 σ = some (r, σ')) : gW E w 8 σ 121 [some (.ref (w.1 9)), some (.int x1), some (.int x2), some (.int x3), some (.int x4), some (.int x5), some (.int x6)] [] := by
  unfold f_HM_copy_b121 at h
  refine g_iload X dX9_copy_121 rfl rfl ?_
  refine g_iload X dX9_copy_123 rfl rfl ?_
  refine g_icmp_ge X dX9_copy_125 (tgt := 183) rfl rfl (fun c1 => ?_) (fun c1 => ?_)
  · replace h := if_t c1 h
    refine g_aload_n X dX9_copy_183 rfl rfl ?_
    refine g_iload X dX9_copy_184 rfl rfl ?_
    refine g_i2l X dX9_copy_186 rfl ?_
    obtain ⟨r4, σ3, h2, h⟩ := bd_e h
    refine g_callVJ X [.long x5.toInt64] (ok_HM_taken X.inj h2) my_yX9_taken mi_yX9_taken ms_yX9_taken ml_RX9_113 (by decide) rfl rfl (by decide) rfl dX9_copy_187 (Nat.le_of_ble_eq_true rfl) rfl rfl ?_
    obtain ⟨rfl, rfl⟩ := rt_e h
    exact g_lret X Y dX9_copy_190
  · replace h := if_f c1 h
    refine g_iload_n X dX9_copy_128 rfl rfl ?_
    refine g_iload X dX9_copy_129 rfl rfl ?_
    refine g_icmp_ge X dX9_copy_131 (tgt := 144) rfl rfl (fun c5 => ?_) (fun c5 => ?_)
    · replace h := if_t c5 h
      refine g_iload X dX9_copy_144 rfl rfl ?_
      exact ok_HM_copy_b146 X Y hk121 σ h
    · replace h := if_f c5 h
      refine g_iload X dX9_copy_134 rfl rfl ?_
      refine g_iconst X kI_1 dX9_copy_136 rfl ?_
      refine g_isub X dX9_copy_137 rfl ?_
      refine g_iload X dX9_copy_138 rfl rfl ?_
      refine g_isub X dX9_copy_140 rfl ?_
      refine g_goto X dX9_copy_141 (tgt := 146) rfl ?_
      exact ok_HM_copy_b146 X Y hk121 σ h
def f_HM_copy_l121 : Int32 → Int32 → Int32 → Int32 → Int32 → Int32 → St → Option (Int64 × St) := lp (fun _ _ _ _ _ _ _ => none) (f_HM_copy_b121) FU
theorem ok_HM_copy_l121 {E : gE} {w : wT} {σ' : St} {r : Int64} (X : gC E w cX9_copy 8 RX9 3) (Y : gQ E w (some .long) (some (.long r)) σ') {x1 : Int32} {x2 : Int32} {x3 : Int32} {x4 : Int32} {x5 : Int32} {x6 : Int32} (σ : St) (h : f_HM_copy_l121 x1 x2 x3 x4 x5 x6 σ = some (r, σ')) : gW E w 8 σ 121 [some (.ref (w.1 9)), some (.int x1), some (.int x2), some (.int x3), some (.int x4), some (.int x5), some (.int x6)] [] :=
  lp_ind (P := fun (k : Int32 → Int32 → Int32 → Int32 → Int32 → Int32 → St → Option (Int64 × St)) => ∀ (x1 : Int32) (x2 : Int32) (x3 : Int32) (x4 : Int32) (x5 : Int32) (x6 : Int32) (σ : St), k x1 x2 x3 x4 x5 x6 σ = some (r, σ') → gW E w 8 σ 121 [some (.ref (w.1 9)), some (.int x1), some (.int x2), some (.int x3), some (.int x4), some (.int x5), some (.int x6)] []) (fun _ _ _ _ _ _ _ hh => nn hh) (fun k hk x1 x2 x3 x4 x5 x6 σ  hh => ok_HM_copy_b121 X Y hk σ hh) FU x1 x2 x3 x4 x5 x6 σ  h

def f_HM_copy_b112 (σ : St) : Option (Int64 × St) :=
  bd (f_HM_found 2 σ) fun r3 σ2 => some (r3, σ2)
set_option maxRecDepth 4000 in
theorem ok_HM_copy_b112 {E : gE} {w : wT} {σ' : St} {r : Int64} (X : gC E w cX9_copy 8 RX9 3) (Y : gQ E w (some .long) (some (.long r)) σ') (σ : St) (h : f_HM_copy_b112 σ = some (r, σ')) : gW E w 8 σ 112 [some (.ref (w.1 9))] [] := by
  unfold f_HM_copy_b112 at h
  refine g_aload_n X dX9_copy_112 rfl rfl ?_
  refine g_iconst X kI_2 dX9_copy_113 rfl ?_
  obtain ⟨r3, σ2, h1, h⟩ := bd_e h
  refine g_callVJ X [.int 2] (ok_HM_found X.inj h1) my_yX9_found mi_yX9_found ms_yX9_found ml_RX9_109 (by decide) rfl rfl (by decide) rfl dX9_copy_114 (Nat.le_of_ble_eq_true rfl) rfl rfl ?_
  obtain ⟨rfl, rfl⟩ := rt_e h
  exact g_lret X Y dX9_copy_117

def f_HM_copy_b36 (σ : St) : Option (Int64 × St) :=
  bd (f_HM_found 1 σ) fun r3 σ2 => some (r3, σ2)
set_option maxRecDepth 4000 in
theorem ok_HM_copy_b36 {E : gE} {w : wT} {σ' : St} {r : Int64} (X : gC E w cX9_copy 8 RX9 3) (Y : gQ E w (some .long) (some (.long r)) σ') (σ : St) (h : f_HM_copy_b36 σ = some (r, σ')) : gW E w 8 σ 36 [some (.ref (w.1 9))] [] := by
  unfold f_HM_copy_b36 at h
  refine g_aload_n X dX9_copy_36 rfl rfl ?_
  refine g_iconst X kI_1 dX9_copy_37 rfl ?_
  obtain ⟨r3, σ2, h1, h⟩ := bd_e h
  refine g_callVJ X [.int 1] (ok_HM_found X.inj h1) my_yX9_found mi_yX9_found ms_yX9_found ml_RX9_109 (by decide) rfl rfl (by decide) rfl dX9_copy_38 (Nat.le_of_ble_eq_true rfl) rfl rfl ?_
  obtain ⟨rfl, rfl⟩ := rt_e h
  exact g_lret X Y dX9_copy_41

def f_HM_copy (x1 : Int32) (x2 : Int32) (x3 : Int32) (x4 : Int32) (x5 : Int32) (σ : St) : Option (Int64 × St) :=
  bd (f_HM_isRow x1 σ) fun r3 σ2 => if r3 = 0 then (some ((-9000000000000000001), σ2)) else (bd (f_HM_isRow x3 σ2) fun r7 σ6 => if r7 = 0 then (some ((-9000000000000000001), σ6)) else (ck (ib x1 8) <| if (rI σ6 63 x1) < 0 then (f_HM_copy_b36 σ6) else (ck (ib x3 8) <| if 0 ≤ (rI σ6 63 x3) then (ck (ib x1 8) <| ck (ib x3 8) <| if (rI σ6 63 x1) = (rI σ6 63 x3) then (if x2 < 0 then (f_HM_copy_b112 σ6) else (if x4 < 0 then (f_HM_copy_b112 σ6) else (if x5 < 0 then (f_HM_copy_b112 σ6) else (ck (ib x1 8) <| if ((rI σ6 64 x1).toInt64) < (x2.toInt64 + x5.toInt64) then (f_HM_copy_b112 σ6) else (ck (ib x3 8) <| if (x4.toInt64 + x5.toInt64) ≤ ((rI σ6 64 x3).toInt64) then (f_HM_copy_l121 x1 x2 x3 x4 x5 0 σ6) else (f_HM_copy_b112 σ6)))))) else (bd (f_HM_found 5 σ6) fun r25 σ24 => some (r25, σ24))) else (f_HM_copy_b36 σ6))))
set_option maxRecDepth 4000 in
theorem ok_HM_copy {w : wT} (hi : wInj w) {l : Launch} {x1 : Int32} {x2 : Int32} {x3 : Int32} {x4 : Int32} {x5 : Int32} {σ σ' : St} {r : Int64} (h : f_HM_copy x1 x2 x3 x4 x5 σ = some (r, σ')) : gM w l yX9_copy cX9_copy 8 (some .long) 3 [.ref (w.1 9), .int x1, .int x2, .int x3, .int x4, .int x5] σ (some (.long r)) σ' := by
  unfold f_HM_copy at h
  refine gM_of hi (by decide) [some (.ref (w.1 9)), some (.int x1), some (.int x2), some (.int x3), some (.int x4), some (.int x5)] rfl (Nat.le_of_ble_eq_true rfl) (fun E hl X Y => ?_)
  refine g_iload_n X dX9_copy_0 rfl rfl ?_
  obtain ⟨r3, σ2, h1, h⟩ := bd_e h
  refine g_callSI X [.int x1] (ok_HM_isRow X.inj h1) my_yX9_isRow mt_yX9_isRow ml_RX9_101 (by decide) rfl dX9_copy_1 (Nat.le_of_ble_eq_true rfl) rfl rfl ?_
  refine g_if_eq X dX9_copy_4 (tgt := 14) rfl rfl (fun c4 => ?_) (fun c4 => ?_)
  · replace h := if_t c4 h
    refine g_ldc2 X dX9_copy_14 kc_RX9_107 rfl ?_
    obtain ⟨rfl, rfl⟩ := rt_e h
    exact g_lret X Y dX9_copy_17
  · replace h := if_f c4 h
    refine g_iload_n X dX9_copy_7 rfl rfl ?_
    obtain ⟨r7, σ6, h5, h⟩ := bd_e h
    refine g_callSI X [.int x3] (ok_HM_isRow X.inj h5) my_yX9_isRow mt_yX9_isRow ml_RX9_101 (by decide) rfl dX9_copy_8 (Nat.le_of_ble_eq_true rfl) rfl rfl ?_
    refine g_if_ne X dX9_copy_11 (tgt := 18) rfl rfl (fun c8 => ?_) (fun c8 => ?_)
    · replace h := if_f c8 h
      refine g_aload_n X dX9_copy_18 rfl rfl ?_
      refine gf_RX9_7 X dX9_copy_19 rfl ?_
      refine g_iload_n X dX9_copy_22 rfl rfl ?_
      obtain ⟨c9, h⟩ := ck_e h
      refine g_iald X ar_63.1 ar_63.2.1 ar_63.2.2 (ib_e c9) dX9_copy_23 rfl ?_
      refine g_if_lt X dX9_copy_24 (tgt := 36) rfl rfl (fun c10 => ?_) (fun c10 => ?_)
      · replace h := if_t c10 h
        exact g_le (lle_s (lle_0)) (ok_HM_copy_b36 X Y σ6 h)
      · replace h := if_f c10 h
        refine g_aload_n X dX9_copy_27 rfl rfl ?_
        refine gf_RX9_7 X dX9_copy_28 rfl ?_
        refine g_iload_n X dX9_copy_31 rfl rfl ?_
        obtain ⟨c11, h⟩ := ck_e h
        refine g_iald X ar_63.1 ar_63.2.1 ar_63.2.2 (ib_e c11) dX9_copy_32 rfl ?_
        refine g_if_ge X dX9_copy_33 (tgt := 42) rfl rfl (fun c12 => ?_) (fun c12 => ?_)
        · replace h := if_t c12 h
          refine g_aload_n X dX9_copy_42 rfl rfl ?_
          refine gf_RX9_7 X dX9_copy_43 rfl ?_
          refine g_iload_n X dX9_copy_46 rfl rfl ?_
          obtain ⟨c13, h⟩ := ck_e h
          refine g_iald X ar_63.1 ar_63.2.1 ar_63.2.2 (ib_e c13) dX9_copy_47 rfl ?_
          refine g_aload_n X dX9_copy_48 rfl rfl ?_
          refine gf_RX9_7 X dX9_copy_49 rfl ?_
          refine g_iload_n X dX9_copy_52 rfl rfl ?_
          obtain ⟨c14, h⟩ := ck_e h
          refine g_iald X ar_63.1 ar_63.2.1 ar_63.2.2 (ib_e c14) dX9_copy_53 rfl ?_
          refine g_icmp_eq X dX9_copy_54 (tgt := 63) rfl rfl (fun c15 => ?_) (fun c15 => ?_)
          · replace h := if_t c15 h
            refine g_iload_n X dX9_copy_63 rfl rfl ?_
            refine g_if_lt X dX9_copy_64 (tgt := 112) rfl rfl (fun c16 => ?_) (fun c16 => ?_)
            · replace h := if_t c16 h
              exact g_le (lle_s (lle_0)) (ok_HM_copy_b112 X Y σ6 h)
            · replace h := if_f c16 h
              refine g_iload X dX9_copy_67 rfl rfl ?_
              refine g_if_lt X dX9_copy_69 (tgt := 112) rfl rfl (fun c17 => ?_) (fun c17 => ?_)
              · replace h := if_t c17 h
                exact g_le (lle_s (lle_0)) (ok_HM_copy_b112 X Y σ6 h)
              · replace h := if_f c17 h
                refine g_iload X dX9_copy_72 rfl rfl ?_
                refine g_if_lt X dX9_copy_74 (tgt := 112) rfl rfl (fun c18 => ?_) (fun c18 => ?_)
                · replace h := if_t c18 h
                  exact g_le (lle_s (lle_0)) (ok_HM_copy_b112 X Y σ6 h)
                · replace h := if_f c18 h
                  refine g_iload_n X dX9_copy_77 rfl rfl ?_
                  refine g_i2l X dX9_copy_78 rfl ?_
                  refine g_iload X dX9_copy_79 rfl rfl ?_
                  refine g_i2l X dX9_copy_81 rfl ?_
                  refine g_ladd X dX9_copy_82 rfl ?_
                  refine g_aload_n X dX9_copy_83 rfl rfl ?_
                  refine gf_RX9_13 X dX9_copy_84 rfl ?_
                  refine g_iload_n X dX9_copy_87 rfl rfl ?_
                  obtain ⟨c19, h⟩ := ck_e h
                  refine g_iald X ar_64.1 ar_64.2.1 ar_64.2.2 (ib_e c19) dX9_copy_88 rfl ?_
                  refine g_i2l X dX9_copy_89 rfl ?_
                  refine g_lcmp_gt X dX9_copy_90 rfl dX9_copy_91 (tgt := 112) rfl rfl (fun c20 => ?_) (fun c20 => ?_)
                  · replace h := if_t c20 h
                    exact g_le (lle_s (lle_0)) (ok_HM_copy_b112 X Y σ6 h)
                  · replace h := if_f c20 h
                    refine g_iload X dX9_copy_94 rfl rfl ?_
                    refine g_i2l X dX9_copy_96 rfl ?_
                    refine g_iload X dX9_copy_97 rfl rfl ?_
                    refine g_i2l X dX9_copy_99 rfl ?_
                    refine g_ladd X dX9_copy_100 rfl ?_
                    refine g_aload_n X dX9_copy_101 rfl rfl ?_
                    refine gf_RX9_13 X dX9_copy_102 rfl ?_
                    refine g_iload_n X dX9_copy_105 rfl rfl ?_
                    obtain ⟨c21, h⟩ := ck_e h
                    refine g_iald X ar_64.1 ar_64.2.1 ar_64.2.2 (ib_e c21) dX9_copy_106 rfl ?_
                    refine g_i2l X dX9_copy_107 rfl ?_
                    refine g_lcmp_le X dX9_copy_108 rfl dX9_copy_109 (tgt := 118) rfl rfl (fun c22 => ?_) (fun c22 => ?_)
                    · replace h := if_t c22 h
                      refine g_iconst X kI_0 dX9_copy_118 rfl ?_
                      refine g_istore X [some (.ref (w.1 9)), some (.int x1), some (.int x2), some (.int x3), some (.int x4), some (.int x5), some (.int 0)] dX9_copy_119 (Nat.le_of_ble_eq_true rfl) rfl rfl rfl ?_
                      exact ok_HM_copy_l121 X Y σ6 h
                    · replace h := if_f c22 h
                      exact g_le (lle_s (lle_0)) (ok_HM_copy_b112 X Y σ6 h)
          · replace h := if_f c15 h
            refine g_aload_n X dX9_copy_57 rfl rfl ?_
            refine g_iconst X kI_5 dX9_copy_58 rfl ?_
            obtain ⟨r25, σ24, h23, h⟩ := bd_e h
            refine g_callVJ X [.int 5] (ok_HM_found X.inj h23) my_yX9_found mi_yX9_found ms_yX9_found ml_RX9_109 (by decide) rfl rfl (by decide) rfl dX9_copy_59 (Nat.le_of_ble_eq_true rfl) rfl rfl ?_
            obtain ⟨rfl, rfl⟩ := rt_e h
            exact g_lret X Y dX9_copy_62
        · replace h := if_f c12 h
          exact g_le (lle_s (lle_0)) (ok_HM_copy_b36 X Y σ6 h)
    · replace h := if_t c8 h
      refine g_ldc2 X dX9_copy_14 kc_RX9_107 rfl ?_
      obtain ⟨rfl, rfl⟩ := rt_e h
      exact g_lret X Y dX9_copy_17

theorem dX9_drop_0 : decode cX9_drop 0 = .ok (.iload_n 1, 1) := by decide +kernel
theorem dX9_drop_1 : decode cX9_drop 1 = .ok (.invokestatic 101, 3) := by decide +kernel
theorem dX9_drop_4 : decode cX9_drop 4 = .ok (.ifCond .ne 7, 3) := by decide +kernel
theorem dX9_drop_7 : decode cX9_drop 7 = .ok (.ldc2_w 107, 3) := by decide +kernel
theorem dX9_drop_10 : decode cX9_drop 10 = .ok (.lreturn, 1) := by decide +kernel
theorem dX9_drop_11 : decode cX9_drop 11 = .ok (.aload_n 0, 1) := by decide +kernel
theorem dX9_drop_12 : decode cX9_drop 12 = .ok (.getfield 7, 3) := by decide +kernel
theorem dX9_drop_15 : decode cX9_drop 15 = .ok (.iload_n 1, 1) := by decide +kernel
theorem dX9_drop_16 : decode cX9_drop 16 = .ok (.iaload, 1) := by decide +kernel
theorem dX9_drop_17 : decode cX9_drop 17 = .ok (.ifCond .ge 9, 3) := by decide +kernel
theorem dX9_drop_20 : decode cX9_drop 20 = .ok (.aload_n 0, 1) := by decide +kernel
theorem dX9_drop_21 : decode cX9_drop 21 = .ok (.iconst 1, 1) := by decide +kernel
theorem dX9_drop_22 : decode cX9_drop 22 = .ok (.invokevirtual 109, 3) := by decide +kernel
theorem dX9_drop_25 : decode cX9_drop 25 = .ok (.lreturn, 1) := by decide +kernel
theorem dX9_drop_26 : decode cX9_drop 26 = .ok (.aload_n 0, 1) := by decide +kernel
theorem dX9_drop_27 : decode cX9_drop 27 = .ok (.getfield 7, 3) := by decide +kernel
theorem dX9_drop_30 : decode cX9_drop 30 = .ok (.iload_n 1, 1) := by decide +kernel
theorem dX9_drop_31 : decode cX9_drop 31 = .ok (.iconst (-1), 1) := by decide +kernel
theorem dX9_drop_32 : decode cX9_drop 32 = .ok (.iastore, 1) := by decide +kernel
theorem dX9_drop_33 : decode cX9_drop 33 = .ok (.aload_n 0, 1) := by decide +kernel
theorem dX9_drop_34 : decode cX9_drop 34 = .ok (.aload_n 0, 1) := by decide +kernel
theorem dX9_drop_35 : decode cX9_drop 35 = .ok (.getfield 13, 3) := by decide +kernel
theorem dX9_drop_38 : decode cX9_drop 38 = .ok (.iload_n 1, 1) := by decide +kernel
theorem dX9_drop_39 : decode cX9_drop 39 = .ok (.iaload, 1) := by decide +kernel
theorem dX9_drop_40 : decode cX9_drop 40 = .ok (.i2l, 1) := by decide +kernel
theorem dX9_drop_41 : decode cX9_drop 41 = .ok (.invokevirtual 113, 3) := by decide +kernel
theorem dX9_drop_44 : decode cX9_drop 44 = .ok (.lreturn, 1) := by decide +kernel
def f_HM_drop (x1 : Int32) (σ : St) : Option (Int64 × St) :=
  bd (f_HM_isRow x1 σ) fun r3 σ2 => if r3 = 0 then (some ((-9000000000000000001), σ2)) else (ck (ib x1 8) <| if 0 ≤ (rI σ2 63 x1) then (ck (ib x1 8) <| lE (stA σ2 63 x1.toNatClampNeg ((-1))) fun σ8 => ck (ib x1 8) <| bd (f_HM_taken ((rI σ8 64 x1).toInt64) σ8) fun r13 σ12 => some (r13, σ12)) else (bd (f_HM_found 1 σ2) fun r16 σ15 => some (r16, σ15)))
set_option maxRecDepth 4000 in
theorem ok_HM_drop {w : wT} (hi : wInj w) {l : Launch} {x1 : Int32} {σ σ' : St} {r : Int64} (h : f_HM_drop x1 σ = some (r, σ')) : gM w l yX9_drop cX9_drop 2 (some .long) 3 [.ref (w.1 9), .int x1] σ (some (.long r)) σ' := by
  unfold f_HM_drop at h
  refine gM_of hi (by decide) [some (.ref (w.1 9)), some (.int x1)] rfl (Nat.le_of_ble_eq_true rfl) (fun E hl X Y => ?_)
  refine g_iload_n X dX9_drop_0 rfl rfl ?_
  obtain ⟨r3, σ2, h1, h⟩ := bd_e h
  refine g_callSI X [.int x1] (ok_HM_isRow X.inj h1) my_yX9_isRow mt_yX9_isRow ml_RX9_101 (by decide) rfl dX9_drop_1 (Nat.le_of_ble_eq_true rfl) rfl rfl ?_
  refine g_if_ne X dX9_drop_4 (tgt := 11) rfl rfl (fun c4 => ?_) (fun c4 => ?_)
  · replace h := if_f c4 h
    refine g_aload_n X dX9_drop_11 rfl rfl ?_
    refine gf_RX9_7 X dX9_drop_12 rfl ?_
    refine g_iload_n X dX9_drop_15 rfl rfl ?_
    obtain ⟨c5, h⟩ := ck_e h
    refine g_iald X ar_63.1 ar_63.2.1 ar_63.2.2 (ib_e c5) dX9_drop_16 rfl ?_
    refine g_if_ge X dX9_drop_17 (tgt := 26) rfl rfl (fun c6 => ?_) (fun c6 => ?_)
    · replace h := if_t c6 h
      refine g_aload_n X dX9_drop_26 rfl rfl ?_
      refine gf_RX9_7 X dX9_drop_27 rfl ?_
      refine g_iload_n X dX9_drop_30 rfl rfl ?_
      refine g_iconst X kI_m1 dX9_drop_31 rfl ?_
      obtain ⟨c7, h⟩ := ck_e h
      refine g_iast X ar_63.1 ar_63.2.1 ar_63.2.2 (ib_e c7) dX9_drop_32 rfl (fun σ8 e9 => ?_)
      replace h := lE_c e9 h
      refine g_aload_n X dX9_drop_33 rfl rfl ?_
      refine g_aload_n X dX9_drop_34 rfl rfl ?_
      refine gf_RX9_13 X dX9_drop_35 rfl ?_
      refine g_iload_n X dX9_drop_38 rfl rfl ?_
      obtain ⟨c10, h⟩ := ck_e h
      refine g_iald X ar_64.1 ar_64.2.1 ar_64.2.2 (ib_e c10) dX9_drop_39 rfl ?_
      refine g_i2l X dX9_drop_40 rfl ?_
      obtain ⟨r13, σ12, h11, h⟩ := bd_e h
      refine g_callVJ X [.long ((rI σ8 64 x1).toInt64)] (ok_HM_taken X.inj h11) my_yX9_taken mi_yX9_taken ms_yX9_taken ml_RX9_113 (by decide) rfl rfl (by decide) rfl dX9_drop_41 (Nat.le_of_ble_eq_true rfl) rfl rfl ?_
      obtain ⟨rfl, rfl⟩ := rt_e h
      exact g_lret X Y dX9_drop_44
    · replace h := if_f c6 h
      refine g_aload_n X dX9_drop_20 rfl rfl ?_
      refine g_iconst X kI_1 dX9_drop_21 rfl ?_
      obtain ⟨r16, σ15, h14, h⟩ := bd_e h
      refine g_callVJ X [.int 1] (ok_HM_found X.inj h14) my_yX9_found mi_yX9_found ms_yX9_found ml_RX9_109 (by decide) rfl rfl (by decide) rfl dX9_drop_22 (Nat.le_of_ble_eq_true rfl) rfl rfl ?_
      obtain ⟨rfl, rfl⟩ := rt_e h
      exact g_lret X Y dX9_drop_25
  · replace h := if_t c4 h
    refine g_ldc2 X dX9_drop_7 kc_RX9_107 rfl ?_
    obtain ⟨rfl, rfl⟩ := rt_e h
    exact g_lret X Y dX9_drop_10

theorem dX9_feed_0 : decode cX9_feed 0 = .ok (.iload_n 3, 1) := by decide +kernel
theorem dX9_feed_1 : decode cX9_feed 1 = .ok (.i2l, 1) := by decide +kernel
theorem dX9_feed_2 : decode cX9_feed 2 = .ok (.lconst 1, 1) := by decide +kernel
theorem dX9_feed_3 : decode cX9_feed 3 = .ok (.ldc2_w 117, 3) := by decide +kernel
theorem dX9_feed_6 : decode cX9_feed 6 = .ok (.invokestatic 91, 3) := by decide +kernel
theorem dX9_feed_9 : decode cX9_feed 9 = .ok (.ifCond .ne 7, 3) := by decide +kernel
theorem dX9_feed_12 : decode cX9_feed 12 = .ok (.ldc2_w 107, 3) := by decide +kernel
theorem dX9_feed_15 : decode cX9_feed 15 = .ok (.lreturn, 1) := by decide +kernel
theorem dX9_feed_16 : decode cX9_feed 16 = .ok (.aload_n 0, 1) := by decide +kernel
theorem dX9_feed_17 : decode cX9_feed 17 = .ok (.getfield 119, 3) := by decide +kernel
theorem dX9_feed_20 : decode cX9_feed 20 = .ok (.iload_n 3, 1) := by decide +kernel
theorem dX9_feed_21 : decode cX9_feed 21 = .ok (.iadd, 1) := by decide +kernel
theorem dX9_feed_22 : decode cX9_feed 22 = .ok (.sipush 600, 3) := by decide +kernel
theorem dX9_feed_25 : decode cX9_feed 25 = .ok (.if_icmp .le 7, 3) := by decide +kernel
theorem dX9_feed_28 : decode cX9_feed 28 = .ok (.ldc2_w 122, 3) := by decide +kernel
theorem dX9_feed_31 : decode cX9_feed 31 = .ok (.lreturn, 1) := by decide +kernel
theorem dX9_feed_32 : decode cX9_feed 32 = .ok (.iload_n 3, 1) := by decide +kernel
theorem dX9_feed_33 : decode cX9_feed 33 = .ok (.iconst 1, 1) := by decide +kernel
theorem dX9_feed_34 : decode cX9_feed 34 = .ok (.isub, 1) := by decide +kernel
theorem dX9_feed_35 : decode cX9_feed 35 = .ok (.istore 4, 2) := by decide +kernel
theorem dX9_feed_37 : decode cX9_feed 37 = .ok (.iload 4, 2) := by decide +kernel
theorem dX9_feed_39 : decode cX9_feed 39 = .ok (.ifCond .lt 40, 3) := by decide +kernel
theorem dX9_feed_42 : decode cX9_feed 42 = .ok (.aload_n 0, 1) := by decide +kernel
theorem dX9_feed_43 : decode cX9_feed 43 = .ok (.getfield 19, 3) := by decide +kernel
theorem dX9_feed_46 : decode cX9_feed 46 = .ok (.aload_n 0, 1) := by decide +kernel
theorem dX9_feed_47 : decode cX9_feed 47 = .ok (.getfield 119, 3) := by decide +kernel
theorem dX9_feed_50 : decode cX9_feed 50 = .ok (.lload_n 1, 1) := by decide +kernel
theorem dX9_feed_51 : decode cX9_feed 51 = .ok (.bipush 8, 2) := by decide +kernel
theorem dX9_feed_53 : decode cX9_feed 53 = .ok (.iload 4, 2) := by decide +kernel
theorem dX9_feed_55 : decode cX9_feed 55 = .ok (.imul, 1) := by decide +kernel
theorem dX9_feed_56 : decode cX9_feed 56 = .ok (.lshr, 1) := by decide +kernel
theorem dX9_feed_57 : decode cX9_feed 57 = .ok (.ldc2_w 124, 3) := by decide +kernel
theorem dX9_feed_60 : decode cX9_feed 60 = .ok (.land, 1) := by decide +kernel
theorem dX9_feed_61 : decode cX9_feed 61 = .ok (.l2i, 1) := by decide +kernel
theorem dX9_feed_62 : decode cX9_feed 62 = .ok (.iastore, 1) := by decide +kernel
theorem dX9_feed_63 : decode cX9_feed 63 = .ok (.aload_n 0, 1) := by decide +kernel
theorem dX9_feed_64 : decode cX9_feed 64 = .ok (.dup, 1) := by decide +kernel
theorem dX9_feed_65 : decode cX9_feed 65 = .ok (.getfield 119, 3) := by decide +kernel
theorem dX9_feed_68 : decode cX9_feed 68 = .ok (.iconst 1, 1) := by decide +kernel
theorem dX9_feed_69 : decode cX9_feed 69 = .ok (.iadd, 1) := by decide +kernel
theorem dX9_feed_70 : decode cX9_feed 70 = .ok (.putfield 119, 3) := by decide +kernel
theorem dX9_feed_73 : decode cX9_feed 73 = .ok (.iinc 4 (-1), 3) := by decide +kernel
theorem dX9_feed_76 : decode cX9_feed 76 = .ok (.goto (-39), 3) := by decide +kernel
theorem dX9_feed_79 : decode cX9_feed 79 = .ok (.aload_n 0, 1) := by decide +kernel
theorem dX9_feed_80 : decode cX9_feed 80 = .ok (.getfield 119, 3) := by decide +kernel
theorem dX9_feed_83 : decode cX9_feed 83 = .ok (.i2l, 1) := by decide +kernel
theorem dX9_feed_84 : decode cX9_feed 84 = .ok (.lreturn, 1) := by decide +kernel
def f_HM_feed_b37 (k37 : Int64 → Int32 → St → Option (Int64 × St)) (x1 : Int64) (x4 : Int32) (σ : St) : Option (Int64 × St) :=
  if x4 < 0 then (some ((rF σ 41).toInt64, σ)) else (ck (ib (rF σ 41) 600) <| lE (stA σ 66 (rF σ 41).toNatClampNeg (((x1 >>> ((8 * x4).toInt64 &&& 63)) &&& 255).toInt32)) fun σ3 => lE (stF σ3 41 ((rF σ3 41) + 1)) fun σ5 => k37 x1 (x4 + (-1)) σ5)
set_option maxRecDepth 4000 in
theorem ok_HM_feed_b37 {E : gE} {w : wT} {σ' : St} {r : Int64} (X : gC E w cX9_feed 5 RX9 2) (Y : gQ E w (some .long) (some (.long r)) σ') {k37 : Int64 → Int32 → St → Option (Int64 × St)} (hk37 : ∀ (x1 : Int64) (x4 : Int32) (σ : St), k37 x1 x4 σ = some (r, σ') → gW E w 5 σ 37 [some (.ref (w.1 9)), some (.long x1), none, none, some (.int x4)] []) {x1 : Int64} {x4 : Int32} (σ : St) (h : f_HM_feed_b37 k37 x1 x4 σ = some (r, σ')) : gW E w 5 σ 37 [some (.ref (w.1 9)), some (.long x1), none, none, some (.int x4)] [] := by
  unfold f_HM_feed_b37 at h
  refine g_iload X dX9_feed_37 rfl rfl ?_
  refine g_if_lt X dX9_feed_39 (tgt := 79) rfl rfl (fun c1 => ?_) (fun c1 => ?_)
  · replace h := if_t c1 h
    refine g_aload_n X dX9_feed_79 rfl rfl ?_
    refine gf_RX9_119 X dX9_feed_80 rfl ?_
    refine g_i2l X dX9_feed_83 rfl ?_
    obtain ⟨rfl, rfl⟩ := rt_e h
    exact g_lret X Y dX9_feed_84
  · replace h := if_f c1 h
    refine g_aload_n X dX9_feed_42 rfl rfl ?_
    refine gf_RX9_19 X dX9_feed_43 rfl ?_
    refine g_aload_n X dX9_feed_46 rfl rfl ?_
    refine gf_RX9_119 X dX9_feed_47 rfl ?_
    refine g_lload_n X dX9_feed_50 rfl rfl ?_
    refine g_bipush X kB_8 dX9_feed_51 rfl ?_
    refine g_iload X dX9_feed_53 rfl rfl ?_
    refine g_imul X dX9_feed_55 rfl ?_
    refine g_lshr X dX9_feed_56 rfl ?_
    refine g_ldc2 X dX9_feed_57 kc_RX9_124 rfl ?_
    refine g_land X dX9_feed_60 rfl ?_
    refine g_l2i X dX9_feed_61 rfl ?_
    obtain ⟨c2, h⟩ := ck_e h
    refine g_iast X ar_66.1 ar_66.2.1 ar_66.2.2 (ib_e c2) dX9_feed_62 rfl (fun σ3 e4 => ?_)
    replace h := lE_c e4 h
    refine g_aload_n X dX9_feed_63 rfl rfl ?_
    refine g_dup X dX9_feed_64 rfl rfl ?_
    refine gf_RX9_119 X dX9_feed_65 rfl ?_
    refine g_iconst X kI_1 dX9_feed_68 rfl ?_
    refine g_iadd X dX9_feed_69 rfl ?_
    refine gp_RX9_119 X dX9_feed_70 rfl (fun σ5 e6 => ?_)
    replace h := lE_c e6 h
    refine g_iinc X [some (.ref (w.1 9)), some (.long x1), none, none, some (.int (x4 + (-1)))] dX9_feed_73 rfl (ii_m1 x4) (Nat.le_of_ble_eq_true rfl) rfl rfl rfl ?_
    refine g_goto X dX9_feed_76 (tgt := 37) rfl ?_
    exact hk37 x1 (x4 + (-1)) σ5 h
def f_HM_feed_l37 : Int64 → Int32 → St → Option (Int64 × St) := lp (fun _ _ _ => none) (f_HM_feed_b37) FU
theorem ok_HM_feed_l37 {E : gE} {w : wT} {σ' : St} {r : Int64} (X : gC E w cX9_feed 5 RX9 2) (Y : gQ E w (some .long) (some (.long r)) σ') {x1 : Int64} {x4 : Int32} (σ : St) (h : f_HM_feed_l37 x1 x4 σ = some (r, σ')) : gW E w 5 σ 37 [some (.ref (w.1 9)), some (.long x1), none, none, some (.int x4)] [] :=
  lp_ind (P := fun (k : Int64 → Int32 → St → Option (Int64 × St)) => ∀ (x1 : Int64) (x4 : Int32) (σ : St), k x1 x4 σ = some (r, σ') → gW E w 5 σ 37 [some (.ref (w.1 9)), some (.long x1), none, none, some (.int x4)] []) (fun _ _ _ hh => nn hh) (fun k hk x1 x4 σ  hh => ok_HM_feed_b37 X Y hk σ hh) FU x1 x4 σ  h

def f_HM_feed (x1 : Int64) (x3 : Int32) (σ : St) : Option (Int64 × St) :=
  bd (f_HM_in x3.toInt64 1 8 σ) fun r3 σ2 => if r3 = 0 then (some ((-9000000000000000001), σ2)) else (if ((rF σ2 41) + x3) ≤ 600 then (f_HM_feed_l37 x1 (x3 - 1) σ2) else (some ((-9000000000000000003), σ2)))
set_option maxRecDepth 4000 in
theorem ok_HM_feed {w : wT} (hi : wInj w) {l : Launch} {x1 : Int64} {x3 : Int32} {σ σ' : St} {r : Int64} (h : f_HM_feed x1 x3 σ = some (r, σ')) : gM w l yX9_feed cX9_feed 5 (some .long) 2 [.ref (w.1 9), .long x1, .int x3] σ (some (.long r)) σ' := by
  unfold f_HM_feed at h
  refine gM_of hi (by decide) [some (.ref (w.1 9)), some (.long x1), none, some (.int x3)] rfl (Nat.le_of_ble_eq_true rfl) (fun E hl X Y => ?_)
  refine g_iload_n X dX9_feed_0 rfl rfl ?_
  refine g_i2l X dX9_feed_1 rfl ?_
  refine g_lconst X kL_1 dX9_feed_2 rfl ?_
  refine g_ldc2 X dX9_feed_3 kc_RX9_117 rfl ?_
  obtain ⟨r3, σ2, h1, h⟩ := bd_e h
  refine g_callSI X [.long x3.toInt64, .long 1, .long 8] (ok_HM_in X.inj h1) my_yX9_in mt_yX9_in ml_RX9_91 (by decide) rfl dX9_feed_6 (Nat.le_of_ble_eq_true rfl) rfl rfl ?_
  refine g_if_ne X dX9_feed_9 (tgt := 16) rfl rfl (fun c4 => ?_) (fun c4 => ?_)
  · replace h := if_f c4 h
    refine g_aload_n X dX9_feed_16 rfl rfl ?_
    refine gf_RX9_119 X dX9_feed_17 rfl ?_
    refine g_iload_n X dX9_feed_20 rfl rfl ?_
    refine g_iadd X dX9_feed_21 rfl ?_
    refine g_sipush X kS_600 dX9_feed_22 rfl ?_
    refine g_icmp_le X dX9_feed_25 (tgt := 32) rfl rfl (fun c5 => ?_) (fun c5 => ?_)
    · replace h := if_t c5 h
      refine g_iload_n X dX9_feed_32 rfl rfl ?_
      refine g_iconst X kI_1 dX9_feed_33 rfl ?_
      refine g_isub X dX9_feed_34 rfl ?_
      refine g_istore X [some (.ref (w.1 9)), some (.long x1), none, some (.int x3), some (.int (x3 - 1))] dX9_feed_35 (Nat.le_of_ble_eq_true rfl) rfl rfl rfl ?_
      exact g_le (lle_s (lle_s (lle_k (lle_k (lle_s (lle_0)))))) (ok_HM_feed_l37 X Y σ2 h)
    · replace h := if_f c5 h
      refine g_ldc2 X dX9_feed_28 kc_RX9_122 rfl ?_
      obtain ⟨rfl, rfl⟩ := rt_e h
      exact g_lret X Y dX9_feed_31
  · replace h := if_t c4 h
    refine g_ldc2 X dX9_feed_12 kc_RX9_107 rfl ?_
    obtain ⟨rfl, rfl⟩ := rt_e h
    exact g_lret X Y dX9_feed_15

theorem dX9_token_0 : decode cX9_token 0 = .ok (.aload_n 0, 1) := by decide +kernel
theorem dX9_token_1 : decode cX9_token 1 = .ok (.getfield 126, 3) := by decide +kernel
theorem dX9_token_4 : decode cX9_token 4 = .ok (.aload_n 0, 1) := by decide +kernel
theorem dX9_token_5 : decode cX9_token 5 = .ok (.getfield 119, 3) := by decide +kernel
theorem dX9_token_8 : decode cX9_token 8 = .ok (.if_icmp .ge 44, 3) := by decide +kernel
theorem dX9_token_11 : decode cX9_token 11 = .ok (.aload_n 0, 1) := by decide +kernel
theorem dX9_token_12 : decode cX9_token 12 = .ok (.getfield 19, 3) := by decide +kernel
theorem dX9_token_15 : decode cX9_token 15 = .ok (.aload_n 0, 1) := by decide +kernel
theorem dX9_token_16 : decode cX9_token 16 = .ok (.getfield 126, 3) := by decide +kernel
theorem dX9_token_19 : decode cX9_token 19 = .ok (.iaload, 1) := by decide +kernel
theorem dX9_token_20 : decode cX9_token 20 = .ok (.bipush 32, 2) := by decide +kernel
theorem dX9_token_22 : decode cX9_token 22 = .ok (.if_icmp .eq 17, 3) := by decide +kernel
theorem dX9_token_25 : decode cX9_token 25 = .ok (.aload_n 0, 1) := by decide +kernel
theorem dX9_token_26 : decode cX9_token 26 = .ok (.getfield 19, 3) := by decide +kernel
theorem dX9_token_29 : decode cX9_token 29 = .ok (.aload_n 0, 1) := by decide +kernel
theorem dX9_token_30 : decode cX9_token 30 = .ok (.getfield 126, 3) := by decide +kernel
theorem dX9_token_33 : decode cX9_token 33 = .ok (.iaload, 1) := by decide +kernel
theorem dX9_token_34 : decode cX9_token 34 = .ok (.bipush 10, 2) := by decide +kernel
theorem dX9_token_36 : decode cX9_token 36 = .ok (.if_icmp .ne 16, 3) := by decide +kernel
theorem dX9_token_39 : decode cX9_token 39 = .ok (.aload_n 0, 1) := by decide +kernel
theorem dX9_token_40 : decode cX9_token 40 = .ok (.dup, 1) := by decide +kernel
theorem dX9_token_41 : decode cX9_token 41 = .ok (.getfield 126, 3) := by decide +kernel
theorem dX9_token_44 : decode cX9_token 44 = .ok (.iconst 1, 1) := by decide +kernel
theorem dX9_token_45 : decode cX9_token 45 = .ok (.iadd, 1) := by decide +kernel
theorem dX9_token_46 : decode cX9_token 46 = .ok (.putfield 126, 3) := by decide +kernel
theorem dX9_token_49 : decode cX9_token 49 = .ok (.goto (-49), 3) := by decide +kernel
theorem dX9_token_52 : decode cX9_token 52 = .ok (.aload_n 0, 1) := by decide +kernel
theorem dX9_token_53 : decode cX9_token 53 = .ok (.aload_n 0, 1) := by decide +kernel
theorem dX9_token_54 : decode cX9_token 54 = .ok (.getfield 126, 3) := by decide +kernel
theorem dX9_token_57 : decode cX9_token 57 = .ok (.putfield 129, 3) := by decide +kernel
theorem dX9_token_60 : decode cX9_token 60 = .ok (.aload_n 0, 1) := by decide +kernel
theorem dX9_token_61 : decode cX9_token 61 = .ok (.iconst 0, 1) := by decide +kernel
theorem dX9_token_62 : decode cX9_token 62 = .ok (.putfield 132, 3) := by decide +kernel
theorem dX9_token_65 : decode cX9_token 65 = .ok (.aload_n 0, 1) := by decide +kernel
theorem dX9_token_66 : decode cX9_token 66 = .ok (.getfield 126, 3) := by decide +kernel
theorem dX9_token_69 : decode cX9_token 69 = .ok (.aload_n 0, 1) := by decide +kernel
theorem dX9_token_70 : decode cX9_token 70 = .ok (.getfield 119, 3) := by decide +kernel
theorem dX9_token_73 : decode cX9_token 73 = .ok (.if_icmp .ne 4, 3) := by decide +kernel
theorem dX9_token_76 : decode cX9_token 76 = .ok (.return_, 1) := by decide +kernel
theorem dX9_token_77 : decode cX9_token 77 = .ok (.aload_n 0, 1) := by decide +kernel
theorem dX9_token_78 : decode cX9_token 78 = .ok (.aload_n 0, 1) := by decide +kernel
theorem dX9_token_79 : decode cX9_token 79 = .ok (.getfield 19, 3) := by decide +kernel
theorem dX9_token_82 : decode cX9_token 82 = .ok (.aload_n 0, 1) := by decide +kernel
theorem dX9_token_83 : decode cX9_token 83 = .ok (.getfield 126, 3) := by decide +kernel
theorem dX9_token_86 : decode cX9_token 86 = .ok (.iaload, 1) := by decide +kernel
theorem dX9_token_87 : decode cX9_token 87 = .ok (.i2l, 1) := by decide +kernel
theorem dX9_token_88 : decode cX9_token 88 = .ok (.ldc2_w 135, 3) := by decide +kernel
theorem dX9_token_91 : decode cX9_token 91 = .ok (.ldc2_w 137, 3) := by decide +kernel
theorem dX9_token_94 : decode cX9_token 94 = .ok (.invokestatic 91, 3) := by decide +kernel
theorem dX9_token_97 : decode cX9_token 97 = .ok (.ifCond .eq 7, 3) := by decide +kernel
theorem dX9_token_100 : decode cX9_token 100 = .ok (.iconst 1, 1) := by decide +kernel
theorem dX9_token_101 : decode cX9_token 101 = .ok (.goto 48, 3) := by decide +kernel
theorem dX9_token_104 : decode cX9_token 104 = .ok (.aload_n 0, 1) := by decide +kernel
theorem dX9_token_105 : decode cX9_token 105 = .ok (.getfield 19, 3) := by decide +kernel
theorem dX9_token_108 : decode cX9_token 108 = .ok (.aload_n 0, 1) := by decide +kernel
theorem dX9_token_109 : decode cX9_token 109 = .ok (.getfield 126, 3) := by decide +kernel
theorem dX9_token_112 : decode cX9_token 112 = .ok (.iaload, 1) := by decide +kernel
theorem dX9_token_113 : decode cX9_token 113 = .ok (.i2l, 1) := by decide +kernel
theorem dX9_token_114 : decode cX9_token 114 = .ok (.ldc2_w 139, 3) := by decide +kernel
theorem dX9_token_117 : decode cX9_token 117 = .ok (.ldc2_w 141, 3) := by decide +kernel
theorem dX9_token_120 : decode cX9_token 120 = .ok (.invokestatic 91, 3) := by decide +kernel
theorem dX9_token_123 : decode cX9_token 123 = .ok (.ifCond .eq 7, 3) := by decide +kernel
theorem dX9_token_126 : decode cX9_token 126 = .ok (.iconst 2, 1) := by decide +kernel
theorem dX9_token_127 : decode cX9_token 127 = .ok (.goto 22, 3) := by decide +kernel
theorem dX9_token_130 : decode cX9_token 130 = .ok (.aload_n 0, 1) := by decide +kernel
theorem dX9_token_131 : decode cX9_token 131 = .ok (.getfield 19, 3) := by decide +kernel
theorem dX9_token_134 : decode cX9_token 134 = .ok (.aload_n 0, 1) := by decide +kernel
theorem dX9_token_135 : decode cX9_token 135 = .ok (.getfield 126, 3) := by decide +kernel
theorem dX9_token_138 : decode cX9_token 138 = .ok (.iaload, 1) := by decide +kernel
theorem dX9_token_139 : decode cX9_token 139 = .ok (.bipush 59, 2) := by decide +kernel
theorem dX9_token_141 : decode cX9_token 141 = .ok (.if_icmp .ne 7, 3) := by decide +kernel
theorem dX9_token_144 : decode cX9_token 144 = .ok (.iconst 3, 1) := by decide +kernel
theorem dX9_token_145 : decode cX9_token 145 = .ok (.goto 4, 3) := by decide +kernel
theorem dX9_token_148 : decode cX9_token 148 = .ok (.iconst 4, 1) := by decide +kernel
theorem dX9_token_149 : decode cX9_token 149 = .ok (.putfield 132, 3) := by decide +kernel
theorem dX9_token_152 : decode cX9_token 152 = .ok (.aload_n 0, 1) := by decide +kernel
theorem dX9_token_153 : decode cX9_token 153 = .ok (.dup, 1) := by decide +kernel
theorem dX9_token_154 : decode cX9_token 154 = .ok (.getfield 126, 3) := by decide +kernel
theorem dX9_token_157 : decode cX9_token 157 = .ok (.iconst 1, 1) := by decide +kernel
theorem dX9_token_158 : decode cX9_token 158 = .ok (.iadd, 1) := by decide +kernel
theorem dX9_token_159 : decode cX9_token 159 = .ok (.putfield 126, 3) := by decide +kernel
theorem dX9_token_162 : decode cX9_token 162 = .ok (.aload_n 0, 1) := by decide +kernel
theorem dX9_token_163 : decode cX9_token 163 = .ok (.getfield 126, 3) := by decide +kernel
theorem dX9_token_166 : decode cX9_token 166 = .ok (.aload_n 0, 1) := by decide +kernel
theorem dX9_token_167 : decode cX9_token 167 = .ok (.getfield 119, 3) := by decide +kernel
theorem dX9_token_170 : decode cX9_token 170 = .ok (.if_icmp .ge 76, 3) := by decide +kernel
theorem dX9_token_173 : decode cX9_token 173 = .ok (.aload_n 0, 1) := by decide +kernel
theorem dX9_token_174 : decode cX9_token 174 = .ok (.getfield 132, 3) := by decide +kernel
theorem dX9_token_177 : decode cX9_token 177 = .ok (.iconst 1, 1) := by decide +kernel
theorem dX9_token_178 : decode cX9_token 178 = .ok (.if_icmp .ne 25, 3) := by decide +kernel
theorem dX9_token_181 : decode cX9_token 181 = .ok (.aload_n 0, 1) := by decide +kernel
theorem dX9_token_182 : decode cX9_token 182 = .ok (.getfield 19, 3) := by decide +kernel
theorem dX9_token_185 : decode cX9_token 185 = .ok (.aload_n 0, 1) := by decide +kernel
theorem dX9_token_186 : decode cX9_token 186 = .ok (.getfield 126, 3) := by decide +kernel
theorem dX9_token_189 : decode cX9_token 189 = .ok (.iaload, 1) := by decide +kernel
theorem dX9_token_190 : decode cX9_token 190 = .ok (.i2l, 1) := by decide +kernel
theorem dX9_token_191 : decode cX9_token 191 = .ok (.ldc2_w 135, 3) := by decide +kernel
theorem dX9_token_194 : decode cX9_token 194 = .ok (.ldc2_w 137, 3) := by decide +kernel
theorem dX9_token_197 : decode cX9_token 197 = .ok (.invokestatic 91, 3) := by decide +kernel
theorem dX9_token_200 : decode cX9_token 200 = .ok (.ifCond .ne 33, 3) := by decide +kernel
theorem dX9_token_203 : decode cX9_token 203 = .ok (.aload_n 0, 1) := by decide +kernel
theorem dX9_token_204 : decode cX9_token 204 = .ok (.getfield 132, 3) := by decide +kernel
theorem dX9_token_207 : decode cX9_token 207 = .ok (.iconst 2, 1) := by decide +kernel
theorem dX9_token_208 : decode cX9_token 208 = .ok (.if_icmp .ne 38, 3) := by decide +kernel
theorem dX9_token_211 : decode cX9_token 211 = .ok (.aload_n 0, 1) := by decide +kernel
theorem dX9_token_212 : decode cX9_token 212 = .ok (.getfield 19, 3) := by decide +kernel
theorem dX9_token_215 : decode cX9_token 215 = .ok (.aload_n 0, 1) := by decide +kernel
theorem dX9_token_216 : decode cX9_token 216 = .ok (.getfield 126, 3) := by decide +kernel
theorem dX9_token_219 : decode cX9_token 219 = .ok (.iaload, 1) := by decide +kernel
theorem dX9_token_220 : decode cX9_token 220 = .ok (.i2l, 1) := by decide +kernel
theorem dX9_token_221 : decode cX9_token 221 = .ok (.ldc2_w 139, 3) := by decide +kernel
theorem dX9_token_224 : decode cX9_token 224 = .ok (.ldc2_w 141, 3) := by decide +kernel
theorem dX9_token_227 : decode cX9_token 227 = .ok (.invokestatic 91, 3) := by decide +kernel
theorem dX9_token_230 : decode cX9_token 230 = .ok (.ifCond .eq 16, 3) := by decide +kernel
theorem dX9_token_233 : decode cX9_token 233 = .ok (.aload_n 0, 1) := by decide +kernel
theorem dX9_token_234 : decode cX9_token 234 = .ok (.dup, 1) := by decide +kernel
theorem dX9_token_235 : decode cX9_token 235 = .ok (.getfield 126, 3) := by decide +kernel
theorem dX9_token_238 : decode cX9_token 238 = .ok (.iconst 1, 1) := by decide +kernel
theorem dX9_token_239 : decode cX9_token 239 = .ok (.iadd, 1) := by decide +kernel
theorem dX9_token_240 : decode cX9_token 240 = .ok (.putfield 126, 3) := by decide +kernel
theorem dX9_token_243 : decode cX9_token 243 = .ok (.goto (-81), 3) := by decide +kernel
theorem dX9_token_246 : decode cX9_token 246 = .ok (.aload_n 0, 1) := by decide +kernel
theorem dX9_token_247 : decode cX9_token 247 = .ok (.iconst 0, 1) := by decide +kernel
theorem dX9_token_248 : decode cX9_token 248 = .ok (.putfield 143, 3) := by decide +kernel
theorem dX9_token_251 : decode cX9_token 251 = .ok (.aload_n 0, 1) := by decide +kernel
theorem dX9_token_252 : decode cX9_token 252 = .ok (.getfield 132, 3) := by decide +kernel
theorem dX9_token_255 : decode cX9_token 255 = .ok (.iconst 2, 1) := by decide +kernel
theorem dX9_token_256 : decode cX9_token 256 = .ok (.if_icmp .ne 75, 3) := by decide +kernel
theorem dX9_token_259 : decode cX9_token 259 = .ok (.aload_n 0, 1) := by decide +kernel
theorem dX9_token_260 : decode cX9_token 260 = .ok (.getfield 129, 3) := by decide +kernel
theorem dX9_token_263 : decode cX9_token 263 = .ok (.istore_n 1, 1) := by decide +kernel
theorem dX9_token_264 : decode cX9_token 264 = .ok (.iload_n 1, 1) := by decide +kernel
theorem dX9_token_265 : decode cX9_token 265 = .ok (.aload_n 0, 1) := by decide +kernel
theorem dX9_token_266 : decode cX9_token 266 = .ok (.getfield 126, 3) := by decide +kernel
theorem dX9_token_269 : decode cX9_token 269 = .ok (.if_icmp .ge 40, 3) := by decide +kernel
theorem dX9_token_272 : decode cX9_token 272 = .ok (.iload_n 1, 1) := by decide +kernel
theorem dX9_token_273 : decode cX9_token 273 = .ok (.aload_n 0, 1) := by decide +kernel
theorem dX9_token_274 : decode cX9_token 274 = .ok (.getfield 129, 3) := by decide +kernel
theorem dX9_token_277 : decode cX9_token 277 = .ok (.iconst 2, 1) := by decide +kernel
theorem dX9_token_278 : decode cX9_token 278 = .ok (.iadd, 1) := by decide +kernel
theorem dX9_token_279 : decode cX9_token 279 = .ok (.if_icmp .ge 30, 3) := by decide +kernel
theorem dX9_token_282 : decode cX9_token 282 = .ok (.aload_n 0, 1) := by decide +kernel
theorem dX9_token_283 : decode cX9_token 283 = .ok (.bipush 10, 2) := by decide +kernel
theorem dX9_token_285 : decode cX9_token 285 = .ok (.aload_n 0, 1) := by decide +kernel
theorem dX9_token_286 : decode cX9_token 286 = .ok (.getfield 143, 3) := by decide +kernel
theorem dX9_token_289 : decode cX9_token 289 = .ok (.imul, 1) := by decide +kernel
theorem dX9_token_290 : decode cX9_token 290 = .ok (.aload_n 0, 1) := by decide +kernel
theorem dX9_token_291 : decode cX9_token 291 = .ok (.getfield 19, 3) := by decide +kernel
theorem dX9_token_294 : decode cX9_token 294 = .ok (.iload_n 1, 1) := by decide +kernel
theorem dX9_token_295 : decode cX9_token 295 = .ok (.iaload, 1) := by decide +kernel
theorem dX9_token_296 : decode cX9_token 296 = .ok (.iadd, 1) := by decide +kernel
theorem dX9_token_297 : decode cX9_token 297 = .ok (.bipush 48, 2) := by decide +kernel
theorem dX9_token_299 : decode cX9_token 299 = .ok (.isub, 1) := by decide +kernel
theorem dX9_token_300 : decode cX9_token 300 = .ok (.putfield 143, 3) := by decide +kernel
theorem dX9_token_303 : decode cX9_token 303 = .ok (.iinc 1 1, 3) := by decide +kernel
theorem dX9_token_306 : decode cX9_token 306 = .ok (.goto (-42), 3) := by decide +kernel
theorem dX9_token_309 : decode cX9_token 309 = .ok (.aload_n 0, 1) := by decide +kernel
theorem dX9_token_310 : decode cX9_token 310 = .ok (.aload_n 0, 1) := by decide +kernel
theorem dX9_token_311 : decode cX9_token 311 = .ok (.getfield 126, 3) := by decide +kernel
theorem dX9_token_314 : decode cX9_token 314 = .ok (.aload_n 0, 1) := by decide +kernel
theorem dX9_token_315 : decode cX9_token 315 = .ok (.getfield 129, 3) := by decide +kernel
theorem dX9_token_318 : decode cX9_token 318 = .ok (.isub, 1) := by decide +kernel
theorem dX9_token_319 : decode cX9_token 319 = .ok (.iconst 2, 1) := by decide +kernel
theorem dX9_token_320 : decode cX9_token 320 = .ok (.if_icmp .le 7, 3) := by decide +kernel
theorem dX9_token_323 : decode cX9_token 323 = .ok (.iconst 4, 1) := by decide +kernel
theorem dX9_token_324 : decode cX9_token 324 = .ok (.goto 4, 3) := by decide +kernel
theorem dX9_token_327 : decode cX9_token 327 = .ok (.iconst 2, 1) := by decide +kernel
theorem dX9_token_328 : decode cX9_token 328 = .ok (.putfield 132, 3) := by decide +kernel
theorem dX9_token_331 : decode cX9_token 331 = .ok (.return_, 1) := by decide +kernel
def f_HM_token_b309 (σ : St) : Option St :=
  if ((rF σ 46) - (rF σ 47)) ≤ 2 then (lE (stF σ 48 2) fun σ2 => some σ2) else (lE (stF σ 48 4) fun σ4 => some σ4)
set_option maxRecDepth 4000 in
theorem ok_HM_token_b309 {E : gE} {w : wT} {σ' : St} (X : gC E w cX9_token 2 RX9 2) (Y : gQ E w none none σ') (σ : St) (h : f_HM_token_b309 σ = some σ') : gW E w 2 σ 309 [some (.ref (w.1 9))] [] := by
  unfold f_HM_token_b309 at h
  refine g_aload_n X dX9_token_309 rfl rfl ?_
  refine g_aload_n X dX9_token_310 rfl rfl ?_
  refine gf_RX9_126 X dX9_token_311 rfl ?_
  refine g_aload_n X dX9_token_314 rfl rfl ?_
  refine gf_RX9_129 X dX9_token_315 rfl ?_
  refine g_isub X dX9_token_318 rfl ?_
  refine g_iconst X kI_2 dX9_token_319 rfl ?_
  refine g_icmp_le X dX9_token_320 (tgt := 327) rfl rfl (fun c1 => ?_) (fun c1 => ?_)
  · replace h := if_t c1 h
    refine g_iconst X kI_2 dX9_token_327 rfl ?_
    refine gp_RX9_132 X dX9_token_328 rfl (fun σ2 e3 => ?_)
    replace h := lE_c e3 h
    obtain rfl := rv_e h
    exact g_vret X Y dX9_token_331
  · replace h := if_f c1 h
    refine g_iconst X kI_4 dX9_token_323 rfl ?_
    refine g_goto X dX9_token_324 (tgt := 328) rfl ?_
    refine gp_RX9_132 X dX9_token_328 rfl (fun σ4 e5 => ?_)
    replace h := lE_c e5 h
    obtain rfl := rv_e h
    exact g_vret X Y dX9_token_331

def f_HM_token_b264 (k264 : Int32 → St → Option St) (x1 : Int32) (σ : St) : Option St :=
  if (rF σ 46) ≤ x1 then (f_HM_token_b309 σ) else (if ((rF σ 47) + 2) ≤ x1 then (f_HM_token_b309 σ) else (ck (ib x1 600) <| lE (stF σ 49 (((10 * (rF σ 49)) + (rI σ 66 x1)) - 48)) fun σ4 => k264 (x1 + 1) σ4))
set_option maxRecDepth 4000 in
theorem ok_HM_token_b264 {E : gE} {w : wT} {σ' : St} (X : gC E w cX9_token 2 RX9 2) (Y : gQ E w none none σ') {k264 : Int32 → St → Option St} (hk264 : ∀ (x1 : Int32) (σ : St), k264 x1 σ = some σ' → gW E w 2 σ 264 [some (.ref (w.1 9)), some (.int x1)] []) {x1 : Int32} (σ : St) (h : f_HM_token_b264 k264 x1 σ = some σ') : gW E w 2 σ 264 [some (.ref (w.1 9)), some (.int x1)] [] := by
  unfold f_HM_token_b264 at h
  refine g_iload_n X dX9_token_264 rfl rfl ?_
  refine g_aload_n X dX9_token_265 rfl rfl ?_
  refine gf_RX9_126 X dX9_token_266 rfl ?_
  refine g_icmp_ge X dX9_token_269 (tgt := 309) rfl rfl (fun c1 => ?_) (fun c1 => ?_)
  · replace h := if_t c1 h
    exact g_le (lle_s (lle_0)) (ok_HM_token_b309 X Y σ h)
  · replace h := if_f c1 h
    refine g_iload_n X dX9_token_272 rfl rfl ?_
    refine g_aload_n X dX9_token_273 rfl rfl ?_
    refine gf_RX9_129 X dX9_token_274 rfl ?_
    refine g_iconst X kI_2 dX9_token_277 rfl ?_
    refine g_iadd X dX9_token_278 rfl ?_
    refine g_icmp_ge X dX9_token_279 (tgt := 309) rfl rfl (fun c2 => ?_) (fun c2 => ?_)
    · replace h := if_t c2 h
      exact g_le (lle_s (lle_0)) (ok_HM_token_b309 X Y σ h)
    · replace h := if_f c2 h
      refine g_aload_n X dX9_token_282 rfl rfl ?_
      refine g_bipush X kB_10 dX9_token_283 rfl ?_
      refine g_aload_n X dX9_token_285 rfl rfl ?_
      refine gf_RX9_143 X dX9_token_286 rfl ?_
      refine g_imul X dX9_token_289 rfl ?_
      refine g_aload_n X dX9_token_290 rfl rfl ?_
      refine gf_RX9_19 X dX9_token_291 rfl ?_
      refine g_iload_n X dX9_token_294 rfl rfl ?_
      obtain ⟨c3, h⟩ := ck_e h
      refine g_iald X ar_66.1 ar_66.2.1 ar_66.2.2 (ib_e c3) dX9_token_295 rfl ?_
      refine g_iadd X dX9_token_296 rfl ?_
      refine g_bipush X kB_48 dX9_token_297 rfl ?_
      refine g_isub X dX9_token_299 rfl ?_
      refine gp_RX9_143 X dX9_token_300 rfl (fun σ4 e5 => ?_)
      replace h := lE_c e5 h
      refine g_iinc X [some (.ref (w.1 9)), some (.int (x1 + 1))] dX9_token_303 rfl (ii_1 x1) (Nat.le_of_ble_eq_true rfl) rfl rfl rfl ?_
      refine g_goto X dX9_token_306 (tgt := 264) rfl ?_
      exact hk264 (x1 + 1) σ4 h
def f_HM_token_l264 : Int32 → St → Option St := lp (fun _ _ => none) (f_HM_token_b264) FU
theorem ok_HM_token_l264 {E : gE} {w : wT} {σ' : St} (X : gC E w cX9_token 2 RX9 2) (Y : gQ E w none none σ') {x1 : Int32} (σ : St) (h : f_HM_token_l264 x1 σ = some σ') : gW E w 2 σ 264 [some (.ref (w.1 9)), some (.int x1)] [] :=
  lp_ind (P := fun (k : Int32 → St → Option St) => ∀ (x1 : Int32) (σ : St), k x1 σ = some σ' → gW E w 2 σ 264 [some (.ref (w.1 9)), some (.int x1)] []) (fun _ _ hh => nn hh) (fun k hk x1 σ  hh => ok_HM_token_b264 X Y hk σ hh) FU x1 σ  h

def f_HM_token_b246 (σ : St) : Option St :=
  lE (stF σ 49 0) fun σ1 => if (rF σ1 48) = 2 then (f_HM_token_l264 (rF σ1 47) σ1) else (some σ1)
set_option maxRecDepth 4000 in
theorem ok_HM_token_b246 {E : gE} {w : wT} {σ' : St} (X : gC E w cX9_token 2 RX9 2) (Y : gQ E w none none σ') (σ : St) (h : f_HM_token_b246 σ = some σ') : gW E w 2 σ 246 [some (.ref (w.1 9))] [] := by
  unfold f_HM_token_b246 at h
  refine g_aload_n X dX9_token_246 rfl rfl ?_
  refine g_iconst X kI_0 dX9_token_247 rfl ?_
  refine gp_RX9_143 X dX9_token_248 rfl (fun σ1 e2 => ?_)
  replace h := lE_c e2 h
  refine g_aload_n X dX9_token_251 rfl rfl ?_
  refine gf_RX9_132 X dX9_token_252 rfl ?_
  refine g_iconst X kI_2 dX9_token_255 rfl ?_
  refine g_icmp_ne X dX9_token_256 (tgt := 331) rfl rfl (fun c3 => ?_) (fun c3 => ?_)
  · replace h := if_f c3 h
    obtain rfl := rv_e h
    exact g_vret X Y dX9_token_331
  · replace h := if_t c3 h
    refine g_aload_n X dX9_token_259 rfl rfl ?_
    refine gf_RX9_129 X dX9_token_260 rfl ?_
    refine g_istore_n X [some (.ref (w.1 9)), some (.int (rF σ1 47))] dX9_token_263 (Nat.le_of_ble_eq_true rfl) rfl rfl rfl ?_
    exact ok_HM_token_l264 X Y σ1 h

def f_HM_token_b233 (k162 : St → Option St) (σ : St) : Option St :=
  lE (stF σ 46 ((rF σ 46) + 1)) fun σ1 => k162 σ1
set_option maxRecDepth 4000 in
theorem ok_HM_token_b233 {E : gE} {w : wT} {σ' : St} (X : gC E w cX9_token 2 RX9 2) (Y : gQ E w none none σ') {k162 : St → Option St} (hk162 : ∀ (σ : St), k162 σ = some σ' → gW E w 2 σ 162 [some (.ref (w.1 9))] []) (σ : St) (h : f_HM_token_b233 k162 σ = some σ') : gW E w 2 σ 233 [some (.ref (w.1 9))] [] := by
  unfold f_HM_token_b233 at h
  refine g_aload_n X dX9_token_233 rfl rfl ?_
  refine g_dup X dX9_token_234 rfl rfl ?_
  refine gf_RX9_126 X dX9_token_235 rfl ?_
  refine g_iconst X kI_1 dX9_token_238 rfl ?_
  refine g_iadd X dX9_token_239 rfl ?_
  refine gp_RX9_126 X dX9_token_240 rfl (fun σ1 e2 => ?_)
  replace h := lE_c e2 h
  refine g_goto X dX9_token_243 (tgt := 162) rfl ?_
  exact hk162 σ1 h

def f_HM_token_b203 (k162 : St → Option St) (σ : St) : Option St :=
  if (rF σ 48) = 2 then (ck (ib (rF σ 46) 600) <| bd (f_HM_in ((rI σ 66 (rF σ 46)).toInt64) 48 57 σ) fun r5 σ4 => if r5 = 0 then (f_HM_token_b246 σ4) else (f_HM_token_b233 k162 σ4)) else (f_HM_token_b246 σ)
set_option maxRecDepth 4000 in
theorem ok_HM_token_b203 {E : gE} {w : wT} {σ' : St} (X : gC E w cX9_token 2 RX9 2) (Y : gQ E w none none σ') {k162 : St → Option St} (hk162 : ∀ (σ : St), k162 σ = some σ' → gW E w 2 σ 162 [some (.ref (w.1 9))] []) (σ : St) (h : f_HM_token_b203 k162 σ = some σ') : gW E w 2 σ 203 [some (.ref (w.1 9))] [] := by
  unfold f_HM_token_b203 at h
  refine g_aload_n X dX9_token_203 rfl rfl ?_
  refine gf_RX9_132 X dX9_token_204 rfl ?_
  refine g_iconst X kI_2 dX9_token_207 rfl ?_
  refine g_icmp_ne X dX9_token_208 (tgt := 246) rfl rfl (fun c1 => ?_) (fun c1 => ?_)
  · replace h := if_f c1 h
    exact ok_HM_token_b246 X Y σ h
  · replace h := if_t c1 h
    refine g_aload_n X dX9_token_211 rfl rfl ?_
    refine gf_RX9_19 X dX9_token_212 rfl ?_
    refine g_aload_n X dX9_token_215 rfl rfl ?_
    refine gf_RX9_126 X dX9_token_216 rfl ?_
    obtain ⟨c2, h⟩ := ck_e h
    refine g_iald X ar_66.1 ar_66.2.1 ar_66.2.2 (ib_e c2) dX9_token_219 rfl ?_
    refine g_i2l X dX9_token_220 rfl ?_
    refine g_ldc2 X dX9_token_221 kc_RX9_139 rfl ?_
    refine g_ldc2 X dX9_token_224 kc_RX9_141 rfl ?_
    obtain ⟨r5, σ4, h3, h⟩ := bd_e h
    refine g_callSI X [.long ((rI σ 66 (rF σ 46)).toInt64), .long 48, .long 57] (ok_HM_in X.inj h3) my_yX9_in mt_yX9_in ml_RX9_91 (by decide) rfl dX9_token_227 (Nat.le_of_ble_eq_true rfl) rfl rfl ?_
    refine g_if_eq X dX9_token_230 (tgt := 246) rfl rfl (fun c6 => ?_) (fun c6 => ?_)
    · replace h := if_t c6 h
      exact ok_HM_token_b246 X Y σ4 h
    · replace h := if_f c6 h
      exact ok_HM_token_b233 X Y hk162 σ4 h

def f_HM_token_b162 (k162 : St → Option St) (σ : St) : Option St :=
  if (rF σ 41) ≤ (rF σ 46) then (f_HM_token_b246 σ) else (if (rF σ 48) = 1 then (ck (ib (rF σ 46) 600) <| bd (f_HM_in ((rI σ 66 (rF σ 46)).toInt64) 97 122 σ) fun r6 σ5 => if r6 = 0 then (f_HM_token_b203 k162 σ5) else (f_HM_token_b233 k162 σ5)) else (f_HM_token_b203 k162 σ))
set_option maxRecDepth 4000 in
theorem ok_HM_token_b162 {E : gE} {w : wT} {σ' : St} (X : gC E w cX9_token 2 RX9 2) (Y : gQ E w none none σ') {k162 : St → Option St} (hk162 : ∀ (σ : St), k162 σ = some σ' → gW E w 2 σ 162 [some (.ref (w.1 9))] []) (σ : St) (h : f_HM_token_b162 k162 σ = some σ') : gW E w 2 σ 162 [some (.ref (w.1 9))] [] := by
  unfold f_HM_token_b162 at h
  refine g_aload_n X dX9_token_162 rfl rfl ?_
  refine gf_RX9_126 X dX9_token_163 rfl ?_
  refine g_aload_n X dX9_token_166 rfl rfl ?_
  refine gf_RX9_119 X dX9_token_167 rfl ?_
  refine g_icmp_ge X dX9_token_170 (tgt := 246) rfl rfl (fun c1 => ?_) (fun c1 => ?_)
  · replace h := if_t c1 h
    exact ok_HM_token_b246 X Y σ h
  · replace h := if_f c1 h
    refine g_aload_n X dX9_token_173 rfl rfl ?_
    refine gf_RX9_132 X dX9_token_174 rfl ?_
    refine g_iconst X kI_1 dX9_token_177 rfl ?_
    refine g_icmp_ne X dX9_token_178 (tgt := 203) rfl rfl (fun c2 => ?_) (fun c2 => ?_)
    · replace h := if_f c2 h
      exact ok_HM_token_b203 X Y hk162 σ h
    · replace h := if_t c2 h
      refine g_aload_n X dX9_token_181 rfl rfl ?_
      refine gf_RX9_19 X dX9_token_182 rfl ?_
      refine g_aload_n X dX9_token_185 rfl rfl ?_
      refine gf_RX9_126 X dX9_token_186 rfl ?_
      obtain ⟨c3, h⟩ := ck_e h
      refine g_iald X ar_66.1 ar_66.2.1 ar_66.2.2 (ib_e c3) dX9_token_189 rfl ?_
      refine g_i2l X dX9_token_190 rfl ?_
      refine g_ldc2 X dX9_token_191 kc_RX9_135 rfl ?_
      refine g_ldc2 X dX9_token_194 kc_RX9_137 rfl ?_
      obtain ⟨r6, σ5, h4, h⟩ := bd_e h
      refine g_callSI X [.long ((rI σ 66 (rF σ 46)).toInt64), .long 97, .long 122] (ok_HM_in X.inj h4) my_yX9_in mt_yX9_in ml_RX9_91 (by decide) rfl dX9_token_197 (Nat.le_of_ble_eq_true rfl) rfl rfl ?_
      refine g_if_ne X dX9_token_200 (tgt := 233) rfl rfl (fun c7 => ?_) (fun c7 => ?_)
      · replace h := if_f c7 h
        exact ok_HM_token_b233 X Y hk162 σ5 h
      · replace h := if_t c7 h
        exact ok_HM_token_b203 X Y hk162 σ5 h
def f_HM_token_l162 : St → Option St := lp (fun _ => none) (f_HM_token_b162) FU
theorem ok_HM_token_l162 {E : gE} {w : wT} {σ' : St} (X : gC E w cX9_token 2 RX9 2) (Y : gQ E w none none σ') (σ : St) (h : f_HM_token_l162 σ = some σ') : gW E w 2 σ 162 [some (.ref (w.1 9))] [] :=
  lp_ind (P := fun (k : St → Option St) => ∀ (σ : St), k  σ = some σ' → gW E w 2 σ 162 [some (.ref (w.1 9))] []) (fun _ hh => nn hh) (fun k hk  σ  hh => ok_HM_token_b162 X Y hk σ hh) FU  σ  h

def f_HM_token_b149 (xs1 : Int32) (σ : St) : Option St :=
  lE (stF σ 48 xs1) fun σ1 => lE (stF σ1 46 ((rF σ1 46) + 1)) fun σ3 => f_HM_token_l162 σ3
set_option maxRecDepth 4000 in
theorem ok_HM_token_b149 {E : gE} {w : wT} {σ' : St} (X : gC E w cX9_token 2 RX9 2) (Y : gQ E w none none σ') {xs1 : Int32} (σ : St) (h : f_HM_token_b149 xs1 σ = some σ') : gW E w 2 σ 149 [some (.ref (w.1 9))] [.int xs1, .ref (w.1 9)] := by
  unfold f_HM_token_b149 at h
  refine gp_RX9_132 X dX9_token_149 rfl (fun σ1 e2 => ?_)
  replace h := lE_c e2 h
  refine g_aload_n X dX9_token_152 rfl rfl ?_
  refine g_dup X dX9_token_153 rfl rfl ?_
  refine gf_RX9_126 X dX9_token_154 rfl ?_
  refine g_iconst X kI_1 dX9_token_157 rfl ?_
  refine g_iadd X dX9_token_158 rfl ?_
  refine gp_RX9_126 X dX9_token_159 rfl (fun σ3 e4 => ?_)
  replace h := lE_c e4 h
  exact ok_HM_token_l162 X Y σ3 h

def f_HM_token_b52 (σ : St) : Option St :=
  lE (stF σ 47 (rF σ 46)) fun σ1 => lE (stF σ1 48 0) fun σ3 => if (rF σ3 46) = (rF σ3 41) then (some σ3) else (ck (ib (rF σ3 46) 600) <| bd (f_HM_in ((rI σ3 66 (rF σ3 46)).toInt64) 97 122 σ3) fun r9 σ8 => if r9 = 0 then (ck (ib (rF σ8 46) 600) <| bd (f_HM_in ((rI σ8 66 (rF σ8 46)).toInt64) 48 57 σ8) fun r14 σ13 => if r14 = 0 then (ck (ib (rF σ13 46) 600) <| if (rI σ13 66 (rF σ13 46)) = 59 then (f_HM_token_b149 3 σ13) else (f_HM_token_b149 4 σ13)) else (f_HM_token_b149 2 σ13)) else (f_HM_token_b149 1 σ8))
set_option maxRecDepth 4000 in
theorem ok_HM_token_b52 {E : gE} {w : wT} {σ' : St} (X : gC E w cX9_token 2 RX9 2) (Y : gQ E w none none σ') (σ : St) (h : f_HM_token_b52 σ = some σ') : gW E w 2 σ 52 [some (.ref (w.1 9))] [] := by
  unfold f_HM_token_b52 at h
  refine g_aload_n X dX9_token_52 rfl rfl ?_
  refine g_aload_n X dX9_token_53 rfl rfl ?_
  refine gf_RX9_126 X dX9_token_54 rfl ?_
  refine gp_RX9_129 X dX9_token_57 rfl (fun σ1 e2 => ?_)
  replace h := lE_c e2 h
  refine g_aload_n X dX9_token_60 rfl rfl ?_
  refine g_iconst X kI_0 dX9_token_61 rfl ?_
  refine gp_RX9_132 X dX9_token_62 rfl (fun σ3 e4 => ?_)
  replace h := lE_c e4 h
  refine g_aload_n X dX9_token_65 rfl rfl ?_
  refine gf_RX9_126 X dX9_token_66 rfl ?_
  refine g_aload_n X dX9_token_69 rfl rfl ?_
  refine gf_RX9_119 X dX9_token_70 rfl ?_
  refine g_icmp_ne X dX9_token_73 (tgt := 77) rfl rfl (fun c5 => ?_) (fun c5 => ?_)
  · replace h := if_f c5 h
    refine g_aload_n X dX9_token_77 rfl rfl ?_
    refine g_aload_n X dX9_token_78 rfl rfl ?_
    refine gf_RX9_19 X dX9_token_79 rfl ?_
    refine g_aload_n X dX9_token_82 rfl rfl ?_
    refine gf_RX9_126 X dX9_token_83 rfl ?_
    obtain ⟨c6, h⟩ := ck_e h
    refine g_iald X ar_66.1 ar_66.2.1 ar_66.2.2 (ib_e c6) dX9_token_86 rfl ?_
    refine g_i2l X dX9_token_87 rfl ?_
    refine g_ldc2 X dX9_token_88 kc_RX9_135 rfl ?_
    refine g_ldc2 X dX9_token_91 kc_RX9_137 rfl ?_
    obtain ⟨r9, σ8, h7, h⟩ := bd_e h
    refine g_callSI X [.long ((rI σ3 66 (rF σ3 46)).toInt64), .long 97, .long 122] (ok_HM_in X.inj h7) my_yX9_in mt_yX9_in ml_RX9_91 (by decide) rfl dX9_token_94 (Nat.le_of_ble_eq_true rfl) rfl rfl ?_
    refine g_if_eq X dX9_token_97 (tgt := 104) rfl rfl (fun c10 => ?_) (fun c10 => ?_)
    · replace h := if_t c10 h
      refine g_aload_n X dX9_token_104 rfl rfl ?_
      refine gf_RX9_19 X dX9_token_105 rfl ?_
      refine g_aload_n X dX9_token_108 rfl rfl ?_
      refine gf_RX9_126 X dX9_token_109 rfl ?_
      obtain ⟨c11, h⟩ := ck_e h
      refine g_iald X ar_66.1 ar_66.2.1 ar_66.2.2 (ib_e c11) dX9_token_112 rfl ?_
      refine g_i2l X dX9_token_113 rfl ?_
      refine g_ldc2 X dX9_token_114 kc_RX9_139 rfl ?_
      refine g_ldc2 X dX9_token_117 kc_RX9_141 rfl ?_
      obtain ⟨r14, σ13, h12, h⟩ := bd_e h
      refine g_callSI X [.long ((rI σ8 66 (rF σ8 46)).toInt64), .long 48, .long 57] (ok_HM_in X.inj h12) my_yX9_in mt_yX9_in ml_RX9_91 (by decide) rfl dX9_token_120 (Nat.le_of_ble_eq_true rfl) rfl rfl ?_
      refine g_if_eq X dX9_token_123 (tgt := 130) rfl rfl (fun c15 => ?_) (fun c15 => ?_)
      · replace h := if_t c15 h
        refine g_aload_n X dX9_token_130 rfl rfl ?_
        refine gf_RX9_19 X dX9_token_131 rfl ?_
        refine g_aload_n X dX9_token_134 rfl rfl ?_
        refine gf_RX9_126 X dX9_token_135 rfl ?_
        obtain ⟨c16, h⟩ := ck_e h
        refine g_iald X ar_66.1 ar_66.2.1 ar_66.2.2 (ib_e c16) dX9_token_138 rfl ?_
        refine g_bipush X kB_59 dX9_token_139 rfl ?_
        refine g_icmp_ne X dX9_token_141 (tgt := 148) rfl rfl (fun c17 => ?_) (fun c17 => ?_)
        · replace h := if_f c17 h
          refine g_iconst X kI_4 dX9_token_148 rfl ?_
          exact ok_HM_token_b149 X Y σ13 h
        · replace h := if_t c17 h
          refine g_iconst X kI_3 dX9_token_144 rfl ?_
          refine g_goto X dX9_token_145 (tgt := 149) rfl ?_
          exact ok_HM_token_b149 X Y σ13 h
      · replace h := if_f c15 h
        refine g_iconst X kI_2 dX9_token_126 rfl ?_
        refine g_goto X dX9_token_127 (tgt := 149) rfl ?_
        exact ok_HM_token_b149 X Y σ13 h
    · replace h := if_f c10 h
      refine g_iconst X kI_1 dX9_token_100 rfl ?_
      refine g_goto X dX9_token_101 (tgt := 149) rfl ?_
      exact ok_HM_token_b149 X Y σ8 h
  · replace h := if_t c5 h
    obtain rfl := rv_e h
    exact g_vret X Y dX9_token_76

def f_HM_token_b39 (k0 : St → Option St) (σ : St) : Option St :=
  lE (stF σ 46 ((rF σ 46) + 1)) fun σ1 => k0 σ1
set_option maxRecDepth 4000 in
theorem ok_HM_token_b39 {E : gE} {w : wT} {σ' : St} (X : gC E w cX9_token 2 RX9 2) (Y : gQ E w none none σ') {k0 : St → Option St} (hk0 : ∀ (σ : St), k0 σ = some σ' → gW E w 2 σ 0 [some (.ref (w.1 9))] []) (σ : St) (h : f_HM_token_b39 k0 σ = some σ') : gW E w 2 σ 39 [some (.ref (w.1 9))] [] := by
  unfold f_HM_token_b39 at h
  refine g_aload_n X dX9_token_39 rfl rfl ?_
  refine g_dup X dX9_token_40 rfl rfl ?_
  refine gf_RX9_126 X dX9_token_41 rfl ?_
  refine g_iconst X kI_1 dX9_token_44 rfl ?_
  refine g_iadd X dX9_token_45 rfl ?_
  refine gp_RX9_126 X dX9_token_46 rfl (fun σ1 e2 => ?_)
  replace h := lE_c e2 h
  refine g_goto X dX9_token_49 (tgt := 0) rfl ?_
  exact hk0 σ1 h

def f_HM_token_b0 (k0 : St → Option St) (σ : St) : Option St :=
  if (rF σ 41) ≤ (rF σ 46) then (f_HM_token_b52 σ) else (ck (ib (rF σ 46) 600) <| if (rI σ 66 (rF σ 46)) = 32 then (f_HM_token_b39 k0 σ) else (ck (ib (rF σ 46) 600) <| if (rI σ 66 (rF σ 46)) = 10 then (f_HM_token_b39 k0 σ) else (f_HM_token_b52 σ)))
set_option maxRecDepth 4000 in
theorem ok_HM_token_b0 {E : gE} {w : wT} {σ' : St} (X : gC E w cX9_token 2 RX9 2) (Y : gQ E w none none σ') {k0 : St → Option St} (hk0 : ∀ (σ : St), k0 σ = some σ' → gW E w 2 σ 0 [some (.ref (w.1 9))] []) (σ : St) (h : f_HM_token_b0 k0 σ = some σ') : gW E w 2 σ 0 [some (.ref (w.1 9))] [] := by
  unfold f_HM_token_b0 at h
  refine g_aload_n X dX9_token_0 rfl rfl ?_
  refine gf_RX9_126 X dX9_token_1 rfl ?_
  refine g_aload_n X dX9_token_4 rfl rfl ?_
  refine gf_RX9_119 X dX9_token_5 rfl ?_
  refine g_icmp_ge X dX9_token_8 (tgt := 52) rfl rfl (fun c1 => ?_) (fun c1 => ?_)
  · replace h := if_t c1 h
    exact ok_HM_token_b52 X Y σ h
  · replace h := if_f c1 h
    refine g_aload_n X dX9_token_11 rfl rfl ?_
    refine gf_RX9_19 X dX9_token_12 rfl ?_
    refine g_aload_n X dX9_token_15 rfl rfl ?_
    refine gf_RX9_126 X dX9_token_16 rfl ?_
    obtain ⟨c2, h⟩ := ck_e h
    refine g_iald X ar_66.1 ar_66.2.1 ar_66.2.2 (ib_e c2) dX9_token_19 rfl ?_
    refine g_bipush X kB_32 dX9_token_20 rfl ?_
    refine g_icmp_eq X dX9_token_22 (tgt := 39) rfl rfl (fun c3 => ?_) (fun c3 => ?_)
    · replace h := if_t c3 h
      exact ok_HM_token_b39 X Y hk0 σ h
    · replace h := if_f c3 h
      refine g_aload_n X dX9_token_25 rfl rfl ?_
      refine gf_RX9_19 X dX9_token_26 rfl ?_
      refine g_aload_n X dX9_token_29 rfl rfl ?_
      refine gf_RX9_126 X dX9_token_30 rfl ?_
      obtain ⟨c4, h⟩ := ck_e h
      refine g_iald X ar_66.1 ar_66.2.1 ar_66.2.2 (ib_e c4) dX9_token_33 rfl ?_
      refine g_bipush X kB_10 dX9_token_34 rfl ?_
      refine g_icmp_ne X dX9_token_36 (tgt := 52) rfl rfl (fun c5 => ?_) (fun c5 => ?_)
      · replace h := if_f c5 h
        exact ok_HM_token_b52 X Y σ h
      · replace h := if_t c5 h
        exact ok_HM_token_b39 X Y hk0 σ h
def f_HM_token_l0 : St → Option St := lp (fun _ => none) (f_HM_token_b0) FU
theorem ok_HM_token_l0 {E : gE} {w : wT} {σ' : St} (X : gC E w cX9_token 2 RX9 2) (Y : gQ E w none none σ') (σ : St) (h : f_HM_token_l0 σ = some σ') : gW E w 2 σ 0 [some (.ref (w.1 9))] [] :=
  lp_ind (P := fun (k : St → Option St) => ∀ (σ : St), k  σ = some σ' → gW E w 2 σ 0 [some (.ref (w.1 9))] []) (fun _ hh => nn hh) (fun k hk  σ  hh => ok_HM_token_b0 X Y hk σ hh) FU  σ  h

def f_HM_token (σ : St) : Option St :=
  f_HM_token_l0 σ
set_option maxRecDepth 4000 in
theorem ok_HM_token {w : wT} (hi : wInj w) {l : Launch} {σ σ' : St} (h : f_HM_token σ = some σ') : gM w l yX9_token cX9_token 2 none 2 [.ref (w.1 9)] σ none σ' := by
  unfold f_HM_token at h
  refine gM_of hi (by decide) [some (.ref (w.1 9))] rfl (Nat.le_of_ble_eq_true rfl) (fun E hl X Y => ?_)
  exact ok_HM_token_l0 X Y σ h

theorem dX9_readsShare_0 : decode cX9_readsShare 0 = .ok (.aload_n 0, 1) := by decide +kernel
theorem dX9_readsShare_1 : decode cX9_readsShare 1 = .ok (.invokevirtual 150, 3) := by decide +kernel
theorem dX9_readsShare_4 : decode cX9_readsShare 4 = .ok (.aload_n 0, 1) := by decide +kernel
theorem dX9_readsShare_5 : decode cX9_readsShare 5 = .ok (.getfield 132, 3) := by decide +kernel
theorem dX9_readsShare_8 : decode cX9_readsShare 8 = .ok (.iconst 2, 1) := by decide +kernel
theorem dX9_readsShare_9 : decode cX9_readsShare 9 = .ok (.if_icmp .eq 5, 3) := by decide +kernel
theorem dX9_readsShare_12 : decode cX9_readsShare 12 = .ok (.iconst 1, 1) := by decide +kernel
theorem dX9_readsShare_13 : decode cX9_readsShare 13 = .ok (.ireturn, 1) := by decide +kernel
theorem dX9_readsShare_14 : decode cX9_readsShare 14 = .ok (.aload_n 0, 1) := by decide +kernel
theorem dX9_readsShare_15 : decode cX9_readsShare 15 = .ok (.getfield 160, 3) := by decide +kernel
theorem dX9_readsShare_18 : decode cX9_readsShare 18 = .ok (.iconst 1, 1) := by decide +kernel
theorem dX9_readsShare_19 : decode cX9_readsShare 19 = .ok (.isub, 1) := by decide +kernel
theorem dX9_readsShare_20 : decode cX9_readsShare 20 = .ok (.istore_n 1, 1) := by decide +kernel
theorem dX9_readsShare_21 : decode cX9_readsShare 21 = .ok (.aload_n 0, 1) := by decide +kernel
theorem dX9_readsShare_22 : decode cX9_readsShare 22 = .ok (.getfield 70, 3) := by decide +kernel
theorem dX9_readsShare_25 : decode cX9_readsShare 25 = .ok (.iload_n 1, 1) := by decide +kernel
theorem dX9_readsShare_26 : decode cX9_readsShare 26 = .ok (.iaload, 1) := by decide +kernel
theorem dX9_readsShare_27 : decode cX9_readsShare 27 = .ok (.aload_n 0, 1) := by decide +kernel
theorem dX9_readsShare_28 : decode cX9_readsShare 28 = .ok (.getfield 143, 3) := by decide +kernel
theorem dX9_readsShare_31 : decode cX9_readsShare 31 = .ok (.iadd, 1) := by decide +kernel
theorem dX9_readsShare_32 : decode cX9_readsShare 32 = .ok (.istore_n 2, 1) := by decide +kernel
theorem dX9_readsShare_33 : decode cX9_readsShare 33 = .ok (.aload_n 0, 1) := by decide +kernel
theorem dX9_readsShare_34 : decode cX9_readsShare 34 = .ok (.getfield 143, 3) := by decide +kernel
theorem dX9_readsShare_37 : decode cX9_readsShare 37 = .ok (.i2l, 1) := by decide +kernel
theorem dX9_readsShare_38 : decode cX9_readsShare 38 = .ok (.lconst 1, 1) := by decide +kernel
theorem dX9_readsShare_39 : decode cX9_readsShare 39 = .ok (.ldc2_w 176, 3) := by decide +kernel
theorem dX9_readsShare_42 : decode cX9_readsShare 42 = .ok (.invokestatic 91, 3) := by decide +kernel
theorem dX9_readsShare_45 : decode cX9_readsShare 45 = .ok (.ifCond .eq 25, 3) := by decide +kernel
theorem dX9_readsShare_48 : decode cX9_readsShare 48 = .ok (.iload_n 2, 1) := by decide +kernel
theorem dX9_readsShare_49 : decode cX9_readsShare 49 = .ok (.bipush 12, 2) := by decide +kernel
theorem dX9_readsShare_51 : decode cX9_readsShare 51 = .ok (.if_icmp .gt 19, 3) := by decide +kernel
theorem dX9_readsShare_54 : decode cX9_readsShare 54 = .ok (.aload_n 0, 1) := by decide +kernel
theorem dX9_readsShare_55 : decode cX9_readsShare 55 = .ok (.getfield 67, 3) := by decide +kernel
theorem dX9_readsShare_58 : decode cX9_readsShare 58 = .ok (.iload_n 1, 1) := by decide +kernel
theorem dX9_readsShare_59 : decode cX9_readsShare 59 = .ok (.iaload, 1) := by decide +kernel
theorem dX9_readsShare_60 : decode cX9_readsShare 60 = .ok (.iconst 1, 1) := by decide +kernel
theorem dX9_readsShare_61 : decode cX9_readsShare 61 = .ok (.if_icmp .ne 11, 3) := by decide +kernel
theorem dX9_readsShare_64 : decode cX9_readsShare 64 = .ok (.iload_n 2, 1) := by decide +kernel
theorem dX9_readsShare_65 : decode cX9_readsShare 65 = .ok (.bipush 12, 2) := by decide +kernel
theorem dX9_readsShare_67 : decode cX9_readsShare 67 = .ok (.if_icmp .ge 5, 3) := by decide +kernel
theorem dX9_readsShare_70 : decode cX9_readsShare 70 = .ok (.iconst 2, 1) := by decide +kernel
theorem dX9_readsShare_71 : decode cX9_readsShare 71 = .ok (.ireturn, 1) := by decide +kernel
theorem dX9_readsShare_72 : decode cX9_readsShare 72 = .ok (.aload_n 0, 1) := by decide +kernel
theorem dX9_readsShare_73 : decode cX9_readsShare 73 = .ok (.getfield 70, 3) := by decide +kernel
theorem dX9_readsShare_76 : decode cX9_readsShare 76 = .ok (.iload_n 1, 1) := by decide +kernel
theorem dX9_readsShare_77 : decode cX9_readsShare 77 = .ok (.iload_n 2, 1) := by decide +kernel
theorem dX9_readsShare_78 : decode cX9_readsShare 78 = .ok (.iastore, 1) := by decide +kernel
theorem dX9_readsShare_79 : decode cX9_readsShare 79 = .ok (.iconst 0, 1) := by decide +kernel
theorem dX9_readsShare_80 : decode cX9_readsShare 80 = .ok (.ireturn, 1) := by decide +kernel
def f_HM_readsShare_b72 (x1 : Int32) (x2 : Int32) (σ : St) : Option (Int32 × St) :=
  ck (ib x1 9) <| lE (stA σ 83 x1.toNatClampNeg x2) fun σ2 => some (0, σ2)
set_option maxRecDepth 4000 in
theorem ok_HM_readsShare_b72 {E : gE} {w : wT} {σ' : St} {r : Int32} (X : gC E w cX9_readsShare 3 RX9 3) (Y : gQ E w (some .int) (some (.int r)) σ') {x1 : Int32} {x2 : Int32} (σ : St) (h : f_HM_readsShare_b72 x1 x2 σ = some (r, σ')) : gW E w 3 σ 72 [some (.ref (w.1 9)), some (.int x1), some (.int x2)] [] := by
  unfold f_HM_readsShare_b72 at h
  refine g_aload_n X dX9_readsShare_72 rfl rfl ?_
  refine gf_RX9_70 X dX9_readsShare_73 rfl ?_
  refine g_iload_n X dX9_readsShare_76 rfl rfl ?_
  refine g_iload_n X dX9_readsShare_77 rfl rfl ?_
  obtain ⟨c1, h⟩ := ck_e h
  refine g_iast X ar_83.1 ar_83.2.1 ar_83.2.2 (ib_e c1) dX9_readsShare_78 rfl (fun σ2 e3 => ?_)
  replace h := lE_c e3 h
  refine g_iconst X kI_0 dX9_readsShare_79 rfl ?_
  obtain ⟨rfl, rfl⟩ := rt_e h
  exact g_iret X Y dX9_readsShare_80

def f_HM_readsShare (σ : St) : Option (Int32 × St) :=
  bv (f_HM_token σ) fun σ2 => if (rF σ2 48) = 2 then (ck (ib ((rF σ2 50) - 1) 9) <| bd (f_HM_in ((rF σ2 49).toInt64) 1 11 σ2) fun r7 σ6 => if r7 = 0 then (some (2, σ6)) else (if (12 : Int32) < ((rI σ2 83 ((rF σ2 50) - 1)) + (rF σ2 49)) then (some (2, σ6)) else (ck (ib ((rF σ2 50) - 1) 9) <| if (rI σ6 82 ((rF σ2 50) - 1)) = 1 then (if (12 : Int32) ≤ ((rI σ2 83 ((rF σ2 50) - 1)) + (rF σ2 49)) then (f_HM_readsShare_b72 ((rF σ2 50) - 1) ((rI σ2 83 ((rF σ2 50) - 1)) + (rF σ2 49)) σ6) else (some (2, σ6))) else (f_HM_readsShare_b72 ((rF σ2 50) - 1) ((rI σ2 83 ((rF σ2 50) - 1)) + (rF σ2 49)) σ6)))) else (some (1, σ2))
set_option maxRecDepth 4000 in
theorem ok_HM_readsShare {w : wT} (hi : wInj w) {l : Launch} {σ σ' : St} {r : Int32} (h : f_HM_readsShare σ = some (r, σ')) : gM w l yX9_readsShare cX9_readsShare 3 (some .int) 3 [.ref (w.1 9)] σ (some (.int r)) σ' := by
  unfold f_HM_readsShare at h
  refine gM_of hi (by decide) [some (.ref (w.1 9))] rfl (Nat.le_of_ble_eq_true rfl) (fun E hl X Y => ?_)
  refine g_aload_n X dX9_readsShare_0 rfl rfl ?_
  obtain ⟨σ2, h1, h⟩ := bv_e h
  refine g_callVV X [] (ok_HM_token X.inj h1) my_yX9_token mi_yX9_token ms_yX9_token ml_RX9_150 (by decide) rfl rfl (by decide) rfl dX9_readsShare_1 (Nat.le_of_ble_eq_true rfl) rfl rfl ?_
  refine g_aload_n X dX9_readsShare_4 rfl rfl ?_
  refine gf_RX9_132 X dX9_readsShare_5 rfl ?_
  refine g_iconst X kI_2 dX9_readsShare_8 rfl ?_
  refine g_icmp_eq X dX9_readsShare_9 (tgt := 14) rfl rfl (fun c3 => ?_) (fun c3 => ?_)
  · replace h := if_t c3 h
    refine g_aload_n X dX9_readsShare_14 rfl rfl ?_
    refine gf_RX9_160 X dX9_readsShare_15 rfl ?_
    refine g_iconst X kI_1 dX9_readsShare_18 rfl ?_
    refine g_isub X dX9_readsShare_19 rfl ?_
    refine g_istore_n X [some (.ref (w.1 9)), some (.int ((rF σ2 50) - 1))] dX9_readsShare_20 (Nat.le_of_ble_eq_true rfl) rfl rfl rfl ?_
    refine g_aload_n X dX9_readsShare_21 rfl rfl ?_
    refine gf_RX9_70 X dX9_readsShare_22 rfl ?_
    refine g_iload_n X dX9_readsShare_25 rfl rfl ?_
    obtain ⟨c4, h⟩ := ck_e h
    refine g_iald X ar_83.1 ar_83.2.1 ar_83.2.2 (ib_e c4) dX9_readsShare_26 rfl ?_
    refine g_aload_n X dX9_readsShare_27 rfl rfl ?_
    refine gf_RX9_143 X dX9_readsShare_28 rfl ?_
    refine g_iadd X dX9_readsShare_31 rfl ?_
    refine g_istore_n X [some (.ref (w.1 9)), some (.int ((rF σ2 50) - 1)), some (.int ((rI σ2 83 ((rF σ2 50) - 1)) + (rF σ2 49)))] dX9_readsShare_32 (Nat.le_of_ble_eq_true rfl) rfl rfl rfl ?_
    refine g_aload_n X dX9_readsShare_33 rfl rfl ?_
    refine gf_RX9_143 X dX9_readsShare_34 rfl ?_
    refine g_i2l X dX9_readsShare_37 rfl ?_
    refine g_lconst X kL_1 dX9_readsShare_38 rfl ?_
    refine g_ldc2 X dX9_readsShare_39 kc_RX9_176 rfl ?_
    obtain ⟨r7, σ6, h5, h⟩ := bd_e h
    refine g_callSI X [.long ((rF σ2 49).toInt64), .long 1, .long 11] (ok_HM_in X.inj h5) my_yX9_in mt_yX9_in ml_RX9_91 (by decide) rfl dX9_readsShare_42 (Nat.le_of_ble_eq_true rfl) rfl rfl ?_
    refine g_if_eq X dX9_readsShare_45 (tgt := 70) rfl rfl (fun c8 => ?_) (fun c8 => ?_)
    · replace h := if_t c8 h
      refine g_iconst X kI_2 dX9_readsShare_70 rfl ?_
      obtain ⟨rfl, rfl⟩ := rt_e h
      exact g_iret X Y dX9_readsShare_71
    · replace h := if_f c8 h
      refine g_iload_n X dX9_readsShare_48 rfl rfl ?_
      refine g_bipush X kB_12 dX9_readsShare_49 rfl ?_
      refine g_icmp_gt X dX9_readsShare_51 (tgt := 70) rfl rfl (fun c9 => ?_) (fun c9 => ?_)
      · replace h := if_t c9 h
        refine g_iconst X kI_2 dX9_readsShare_70 rfl ?_
        obtain ⟨rfl, rfl⟩ := rt_e h
        exact g_iret X Y dX9_readsShare_71
      · replace h := if_f c9 h
        refine g_aload_n X dX9_readsShare_54 rfl rfl ?_
        refine gf_RX9_67 X dX9_readsShare_55 rfl ?_
        refine g_iload_n X dX9_readsShare_58 rfl rfl ?_
        obtain ⟨c10, h⟩ := ck_e h
        refine g_iald X ar_82.1 ar_82.2.1 ar_82.2.2 (ib_e c10) dX9_readsShare_59 rfl ?_
        refine g_iconst X kI_1 dX9_readsShare_60 rfl ?_
        refine g_icmp_ne X dX9_readsShare_61 (tgt := 72) rfl rfl (fun c11 => ?_) (fun c11 => ?_)
        · replace h := if_f c11 h
          exact ok_HM_readsShare_b72 X Y σ6 h
        · replace h := if_t c11 h
          refine g_iload_n X dX9_readsShare_64 rfl rfl ?_
          refine g_bipush X kB_12 dX9_readsShare_65 rfl ?_
          refine g_icmp_ge X dX9_readsShare_67 (tgt := 72) rfl rfl (fun c12 => ?_) (fun c12 => ?_)
          · replace h := if_t c12 h
            exact ok_HM_readsShare_b72 X Y σ6 h
          · replace h := if_f c12 h
            refine g_iconst X kI_2 dX9_readsShare_70 rfl ?_
            obtain ⟨rfl, rfl⟩ := rt_e h
            exact g_iret X Y dX9_readsShare_71
  · replace h := if_f c3 h
    refine g_iconst X kI_1 dX9_readsShare_12 rfl ?_
    obtain ⟨rfl, rfl⟩ := rt_e h
    exact g_iret X Y dX9_readsShare_13

theorem dX9_isWord_0 : decode cX9_isWord 0 = .ok (.iload 4, 2) := by decide +kernel
theorem dX9_isWord_2 : decode cX9_isWord 2 = .ok (.ifCond .ne 7, 3) := by decide +kernel
theorem dX9_isWord_5 : decode cX9_isWord 5 = .ok (.iconst 3, 1) := by decide +kernel
theorem dX9_isWord_6 : decode cX9_isWord 6 = .ok (.goto 4, 3) := by decide +kernel
theorem dX9_isWord_9 : decode cX9_isWord 9 = .ok (.iconst 4, 1) := by decide +kernel
theorem dX9_isWord_10 : decode cX9_isWord 10 = .ok (.istore 5, 2) := by decide +kernel
theorem dX9_isWord_12 : decode cX9_isWord 12 = .ok (.aload_n 0, 1) := by decide +kernel
theorem dX9_isWord_13 : decode cX9_isWord 13 = .ok (.getfield 132, 3) := by decide +kernel
theorem dX9_isWord_16 : decode cX9_isWord 16 = .ok (.iconst 1, 1) := by decide +kernel
theorem dX9_isWord_17 : decode cX9_isWord 17 = .ok (.if_icmp .ne 85, 3) := by decide +kernel
theorem dX9_isWord_20 : decode cX9_isWord 20 = .ok (.aload_n 0, 1) := by decide +kernel
theorem dX9_isWord_21 : decode cX9_isWord 21 = .ok (.getfield 126, 3) := by decide +kernel
theorem dX9_isWord_24 : decode cX9_isWord 24 = .ok (.aload_n 0, 1) := by decide +kernel
theorem dX9_isWord_25 : decode cX9_isWord 25 = .ok (.getfield 129, 3) := by decide +kernel
theorem dX9_isWord_28 : decode cX9_isWord 28 = .ok (.isub, 1) := by decide +kernel
theorem dX9_isWord_29 : decode cX9_isWord 29 = .ok (.iload 5, 2) := by decide +kernel
theorem dX9_isWord_31 : decode cX9_isWord 31 = .ok (.if_icmp .ne 71, 3) := by decide +kernel
theorem dX9_isWord_34 : decode cX9_isWord 34 = .ok (.aload_n 0, 1) := by decide +kernel
theorem dX9_isWord_35 : decode cX9_isWord 35 = .ok (.getfield 19, 3) := by decide +kernel
theorem dX9_isWord_38 : decode cX9_isWord 38 = .ok (.aload_n 0, 1) := by decide +kernel
theorem dX9_isWord_39 : decode cX9_isWord 39 = .ok (.getfield 129, 3) := by decide +kernel
theorem dX9_isWord_42 : decode cX9_isWord 42 = .ok (.iaload, 1) := by decide +kernel
theorem dX9_isWord_43 : decode cX9_isWord 43 = .ok (.iload_n 1, 1) := by decide +kernel
theorem dX9_isWord_44 : decode cX9_isWord 44 = .ok (.if_icmp .ne 58, 3) := by decide +kernel
theorem dX9_isWord_47 : decode cX9_isWord 47 = .ok (.aload_n 0, 1) := by decide +kernel
theorem dX9_isWord_48 : decode cX9_isWord 48 = .ok (.getfield 19, 3) := by decide +kernel
theorem dX9_isWord_51 : decode cX9_isWord 51 = .ok (.aload_n 0, 1) := by decide +kernel
theorem dX9_isWord_52 : decode cX9_isWord 52 = .ok (.getfield 129, 3) := by decide +kernel
theorem dX9_isWord_55 : decode cX9_isWord 55 = .ok (.iconst 1, 1) := by decide +kernel
theorem dX9_isWord_56 : decode cX9_isWord 56 = .ok (.iadd, 1) := by decide +kernel
theorem dX9_isWord_57 : decode cX9_isWord 57 = .ok (.iaload, 1) := by decide +kernel
theorem dX9_isWord_58 : decode cX9_isWord 58 = .ok (.iload_n 2, 1) := by decide +kernel
theorem dX9_isWord_59 : decode cX9_isWord 59 = .ok (.if_icmp .ne 43, 3) := by decide +kernel
theorem dX9_isWord_62 : decode cX9_isWord 62 = .ok (.aload_n 0, 1) := by decide +kernel
theorem dX9_isWord_63 : decode cX9_isWord 63 = .ok (.getfield 19, 3) := by decide +kernel
theorem dX9_isWord_66 : decode cX9_isWord 66 = .ok (.aload_n 0, 1) := by decide +kernel
theorem dX9_isWord_67 : decode cX9_isWord 67 = .ok (.getfield 129, 3) := by decide +kernel
theorem dX9_isWord_70 : decode cX9_isWord 70 = .ok (.iconst 2, 1) := by decide +kernel
theorem dX9_isWord_71 : decode cX9_isWord 71 = .ok (.iadd, 1) := by decide +kernel
theorem dX9_isWord_72 : decode cX9_isWord 72 = .ok (.iaload, 1) := by decide +kernel
theorem dX9_isWord_73 : decode cX9_isWord 73 = .ok (.iload_n 3, 1) := by decide +kernel
theorem dX9_isWord_74 : decode cX9_isWord 74 = .ok (.if_icmp .ne 28, 3) := by decide +kernel
theorem dX9_isWord_77 : decode cX9_isWord 77 = .ok (.iload 4, 2) := by decide +kernel
theorem dX9_isWord_79 : decode cX9_isWord 79 = .ok (.ifCond .eq 19, 3) := by decide +kernel
theorem dX9_isWord_82 : decode cX9_isWord 82 = .ok (.aload_n 0, 1) := by decide +kernel
theorem dX9_isWord_83 : decode cX9_isWord 83 = .ok (.getfield 19, 3) := by decide +kernel
theorem dX9_isWord_86 : decode cX9_isWord 86 = .ok (.aload_n 0, 1) := by decide +kernel
theorem dX9_isWord_87 : decode cX9_isWord 87 = .ok (.getfield 129, 3) := by decide +kernel
theorem dX9_isWord_90 : decode cX9_isWord 90 = .ok (.iconst 3, 1) := by decide +kernel
theorem dX9_isWord_91 : decode cX9_isWord 91 = .ok (.iadd, 1) := by decide +kernel
theorem dX9_isWord_92 : decode cX9_isWord 92 = .ok (.iaload, 1) := by decide +kernel
theorem dX9_isWord_93 : decode cX9_isWord 93 = .ok (.iload 4, 2) := by decide +kernel
theorem dX9_isWord_95 : decode cX9_isWord 95 = .ok (.if_icmp .ne 7, 3) := by decide +kernel
theorem dX9_isWord_98 : decode cX9_isWord 98 = .ok (.iconst 1, 1) := by decide +kernel
theorem dX9_isWord_99 : decode cX9_isWord 99 = .ok (.goto 4, 3) := by decide +kernel
theorem dX9_isWord_102 : decode cX9_isWord 102 = .ok (.iconst 0, 1) := by decide +kernel
theorem dX9_isWord_103 : decode cX9_isWord 103 = .ok (.ireturn, 1) := by decide +kernel
def f_HM_isWord_b98 (σ : St) : Option (Int32 × St) :=
  some (1, σ)
set_option maxRecDepth 4000 in
theorem ok_HM_isWord_b98 {E : gE} {w : wT} {σ' : St} {r : Int32} (X : gC E w cX9_isWord 6 RX9 1) (Y : gQ E w (some .boolean) (some (.int r)) σ') (σ : St) (h : f_HM_isWord_b98 σ = some (r, σ')) : gW E w 6 σ 98 [] [] := by
  unfold f_HM_isWord_b98 at h
  refine g_iconst X kI_1 dX9_isWord_98 rfl ?_
  refine g_goto X dX9_isWord_99 (tgt := 103) rfl ?_
  obtain ⟨rfl, rfl⟩ := rt_e h
  exact g_zret X Y rfl dX9_isWord_103

def f_HM_isWord_b10 (x1 : Int32) (x2 : Int32) (x3 : Int32) (x4 : Int32) (xs0 : Int32) (σ : St) : Option (Int32 × St) :=
  if (rF σ 48) = 1 then (if ((rF σ 46) - (rF σ 47)) = xs0 then (ck (ib (rF σ 47) 600) <| if (rI σ 66 (rF σ 47)) = x1 then (ck (ib ((rF σ 47) + 1) 600) <| if (rI σ 66 ((rF σ 47) + 1)) = x2 then (ck (ib ((rF σ 47) + 2) 600) <| if (rI σ 66 ((rF σ 47) + 2)) = x3 then (if x4 = 0 then (f_HM_isWord_b98 σ) else (ck (ib ((rF σ 47) + 3) 600) <| if (rI σ 66 ((rF σ 47) + 3)) = x4 then (f_HM_isWord_b98 σ) else (some (0, σ)))) else (some (0, σ))) else (some (0, σ))) else (some (0, σ))) else (some (0, σ))) else (some (0, σ))
set_option maxRecDepth 4000 in
theorem ok_HM_isWord_b10 {E : gE} {w : wT} {σ' : St} {r : Int32} (X : gC E w cX9_isWord 6 RX9 1) (Y : gQ E w (some .boolean) (some (.int r)) σ') {x1 : Int32} {x2 : Int32} {x3 : Int32} {x4 : Int32} {xs0 : Int32} (σ : St) (h : f_HM_isWord_b10 x1 x2 x3 x4 xs0 σ = some (r, σ')) : gW E w 6 σ 10 [some (.ref (w.1 9)), some (.int x1), some (.int x2), some (.int x3), some (.int x4)] [.int xs0] := by
  unfold f_HM_isWord_b10 at h
  refine g_istore X [some (.ref (w.1 9)), some (.int x1), some (.int x2), some (.int x3), some (.int x4), some (.int xs0)] dX9_isWord_10 (Nat.le_of_ble_eq_true rfl) rfl rfl rfl ?_
  refine g_aload_n X dX9_isWord_12 rfl rfl ?_
  refine gf_RX9_132 X dX9_isWord_13 rfl ?_
  refine g_iconst X kI_1 dX9_isWord_16 rfl ?_
  refine g_icmp_ne X dX9_isWord_17 (tgt := 102) rfl rfl (fun c1 => ?_) (fun c1 => ?_)
  · replace h := if_f c1 h
    refine g_iconst X kI_0 dX9_isWord_102 rfl ?_
    obtain ⟨rfl, rfl⟩ := rt_e h
    exact g_zret X Y rfl dX9_isWord_103
  · replace h := if_t c1 h
    refine g_aload_n X dX9_isWord_20 rfl rfl ?_
    refine gf_RX9_126 X dX9_isWord_21 rfl ?_
    refine g_aload_n X dX9_isWord_24 rfl rfl ?_
    refine gf_RX9_129 X dX9_isWord_25 rfl ?_
    refine g_isub X dX9_isWord_28 rfl ?_
    refine g_iload X dX9_isWord_29 rfl rfl ?_
    refine g_icmp_ne X dX9_isWord_31 (tgt := 102) rfl rfl (fun c2 => ?_) (fun c2 => ?_)
    · replace h := if_f c2 h
      refine g_iconst X kI_0 dX9_isWord_102 rfl ?_
      obtain ⟨rfl, rfl⟩ := rt_e h
      exact g_zret X Y rfl dX9_isWord_103
    · replace h := if_t c2 h
      refine g_aload_n X dX9_isWord_34 rfl rfl ?_
      refine gf_RX9_19 X dX9_isWord_35 rfl ?_
      refine g_aload_n X dX9_isWord_38 rfl rfl ?_
      refine gf_RX9_129 X dX9_isWord_39 rfl ?_
      obtain ⟨c3, h⟩ := ck_e h
      refine g_iald X ar_66.1 ar_66.2.1 ar_66.2.2 (ib_e c3) dX9_isWord_42 rfl ?_
      refine g_iload_n X dX9_isWord_43 rfl rfl ?_
      refine g_icmp_ne X dX9_isWord_44 (tgt := 102) rfl rfl (fun c4 => ?_) (fun c4 => ?_)
      · replace h := if_f c4 h
        refine g_iconst X kI_0 dX9_isWord_102 rfl ?_
        obtain ⟨rfl, rfl⟩ := rt_e h
        exact g_zret X Y rfl dX9_isWord_103
      · replace h := if_t c4 h
        refine g_aload_n X dX9_isWord_47 rfl rfl ?_
        refine gf_RX9_19 X dX9_isWord_48 rfl ?_
        refine g_aload_n X dX9_isWord_51 rfl rfl ?_
        refine gf_RX9_129 X dX9_isWord_52 rfl ?_
        refine g_iconst X kI_1 dX9_isWord_55 rfl ?_
        refine g_iadd X dX9_isWord_56 rfl ?_
        obtain ⟨c5, h⟩ := ck_e h
        refine g_iald X ar_66.1 ar_66.2.1 ar_66.2.2 (ib_e c5) dX9_isWord_57 rfl ?_
        refine g_iload_n X dX9_isWord_58 rfl rfl ?_
        refine g_icmp_ne X dX9_isWord_59 (tgt := 102) rfl rfl (fun c6 => ?_) (fun c6 => ?_)
        · replace h := if_f c6 h
          refine g_iconst X kI_0 dX9_isWord_102 rfl ?_
          obtain ⟨rfl, rfl⟩ := rt_e h
          exact g_zret X Y rfl dX9_isWord_103
        · replace h := if_t c6 h
          refine g_aload_n X dX9_isWord_62 rfl rfl ?_
          refine gf_RX9_19 X dX9_isWord_63 rfl ?_
          refine g_aload_n X dX9_isWord_66 rfl rfl ?_
          refine gf_RX9_129 X dX9_isWord_67 rfl ?_
          refine g_iconst X kI_2 dX9_isWord_70 rfl ?_
          refine g_iadd X dX9_isWord_71 rfl ?_
          obtain ⟨c7, h⟩ := ck_e h
          refine g_iald X ar_66.1 ar_66.2.1 ar_66.2.2 (ib_e c7) dX9_isWord_72 rfl ?_
          refine g_iload_n X dX9_isWord_73 rfl rfl ?_
          refine g_icmp_ne X dX9_isWord_74 (tgt := 102) rfl rfl (fun c8 => ?_) (fun c8 => ?_)
          · replace h := if_f c8 h
            refine g_iconst X kI_0 dX9_isWord_102 rfl ?_
            obtain ⟨rfl, rfl⟩ := rt_e h
            exact g_zret X Y rfl dX9_isWord_103
          · replace h := if_t c8 h
            refine g_iload X dX9_isWord_77 rfl rfl ?_
            refine g_if_eq X dX9_isWord_79 (tgt := 98) rfl rfl (fun c9 => ?_) (fun c9 => ?_)
            · replace h := if_t c9 h
              exact g_le (lle_0) (ok_HM_isWord_b98 X Y σ h)
            · replace h := if_f c9 h
              refine g_aload_n X dX9_isWord_82 rfl rfl ?_
              refine gf_RX9_19 X dX9_isWord_83 rfl ?_
              refine g_aload_n X dX9_isWord_86 rfl rfl ?_
              refine gf_RX9_129 X dX9_isWord_87 rfl ?_
              refine g_iconst X kI_3 dX9_isWord_90 rfl ?_
              refine g_iadd X dX9_isWord_91 rfl ?_
              obtain ⟨c10, h⟩ := ck_e h
              refine g_iald X ar_66.1 ar_66.2.1 ar_66.2.2 (ib_e c10) dX9_isWord_92 rfl ?_
              refine g_iload X dX9_isWord_93 rfl rfl ?_
              refine g_icmp_ne X dX9_isWord_95 (tgt := 102) rfl rfl (fun c11 => ?_) (fun c11 => ?_)
              · replace h := if_f c11 h
                refine g_iconst X kI_0 dX9_isWord_102 rfl ?_
                obtain ⟨rfl, rfl⟩ := rt_e h
                exact g_zret X Y rfl dX9_isWord_103
              · replace h := if_t c11 h
                exact g_le (lle_0) (ok_HM_isWord_b98 X Y σ h)

def f_HM_isWord (x1 : Int32) (x2 : Int32) (x3 : Int32) (x4 : Int32) (σ : St) : Option (Int32 × St) :=
  if x4 = 0 then (f_HM_isWord_b10 x1 x2 x3 x4 3 σ) else (f_HM_isWord_b10 x1 x2 x3 x4 4 σ)
set_option maxRecDepth 4000 in
theorem ok_HM_isWord {w : wT} (hi : wInj w) {l : Launch} {x1 : Int32} {x2 : Int32} {x3 : Int32} {x4 : Int32} {σ σ' : St} {r : Int32} (h : f_HM_isWord x1 x2 x3 x4 σ = some (r, σ')) : gM w l yX9_isWord cX9_isWord 6 (some .boolean) 1 [.ref (w.1 9), .int x1, .int x2, .int x3, .int x4] σ (some (.int r)) σ' := by
  unfold f_HM_isWord at h
  refine gM_of hi (by decide) [some (.ref (w.1 9)), some (.int x1), some (.int x2), some (.int x3), some (.int x4)] rfl (Nat.le_of_ble_eq_true rfl) (fun E hl X Y => ?_)
  refine g_iload X dX9_isWord_0 rfl rfl ?_
  refine g_if_ne X dX9_isWord_2 (tgt := 9) rfl rfl (fun c1 => ?_) (fun c1 => ?_)
  · replace h := if_f c1 h
    refine g_iconst X kI_4 dX9_isWord_9 rfl ?_
    exact ok_HM_isWord_b10 X Y σ h
  · replace h := if_t c1 h
    refine g_iconst X kI_3 dX9_isWord_5 rfl ?_
    refine g_goto X dX9_isWord_6 (tgt := 10) rfl ?_
    exact ok_HM_isWord_b10 X Y σ h

theorem dX9_wordNow_0 : decode cX9_wordNow 0 = .ok (.aload_n 0, 1) := by decide +kernel
theorem dX9_wordNow_1 : decode cX9_wordNow 1 = .ok (.bipush 101, 2) := by decide +kernel
theorem dX9_wordNow_3 : decode cX9_wordNow 3 = .ok (.bipush 110, 2) := by decide +kernel
theorem dX9_wordNow_5 : decode cX9_wordNow 5 = .ok (.bipush 100, 2) := by decide +kernel
theorem dX9_wordNow_7 : decode cX9_wordNow 7 = .ok (.iconst 0, 1) := by decide +kernel
theorem dX9_wordNow_8 : decode cX9_wordNow 8 = .ok (.invokevirtual 146, 3) := by decide +kernel
theorem dX9_wordNow_11 : decode cX9_wordNow 11 = .ok (.ifCond .eq 7, 3) := by decide +kernel
theorem dX9_wordNow_14 : decode cX9_wordNow 14 = .ok (.iconst 0, 1) := by decide +kernel
theorem dX9_wordNow_15 : decode cX9_wordNow 15 = .ok (.goto 59, 3) := by decide +kernel
theorem dX9_wordNow_18 : decode cX9_wordNow 18 = .ok (.aload_n 0, 1) := by decide +kernel
theorem dX9_wordNow_19 : decode cX9_wordNow 19 = .ok (.bipush 100, 2) := by decide +kernel
theorem dX9_wordNow_21 : decode cX9_wordNow 21 = .ok (.bipush 101, 2) := by decide +kernel
theorem dX9_wordNow_23 : decode cX9_wordNow 23 = .ok (.bipush 97, 2) := by decide +kernel
theorem dX9_wordNow_25 : decode cX9_wordNow 25 = .ok (.bipush 108, 2) := by decide +kernel
theorem dX9_wordNow_27 : decode cX9_wordNow 27 = .ok (.invokevirtual 146, 3) := by decide +kernel
theorem dX9_wordNow_30 : decode cX9_wordNow 30 = .ok (.ifCond .eq 7, 3) := by decide +kernel
theorem dX9_wordNow_33 : decode cX9_wordNow 33 = .ok (.iconst 1, 1) := by decide +kernel
theorem dX9_wordNow_34 : decode cX9_wordNow 34 = .ok (.goto 40, 3) := by decide +kernel
theorem dX9_wordNow_37 : decode cX9_wordNow 37 = .ok (.aload_n 0, 1) := by decide +kernel
theorem dX9_wordNow_38 : decode cX9_wordNow 38 = .ok (.bipush 111, 2) := by decide +kernel
theorem dX9_wordNow_40 : decode cX9_wordNow 40 = .ok (.bipush 110, 2) := by decide +kernel
theorem dX9_wordNow_42 : decode cX9_wordNow 42 = .ok (.bipush 101, 2) := by decide +kernel
theorem dX9_wordNow_44 : decode cX9_wordNow 44 = .ok (.iconst 0, 1) := by decide +kernel
theorem dX9_wordNow_45 : decode cX9_wordNow 45 = .ok (.invokevirtual 146, 3) := by decide +kernel
theorem dX9_wordNow_48 : decode cX9_wordNow 48 = .ok (.ifCond .eq 7, 3) := by decide +kernel
theorem dX9_wordNow_51 : decode cX9_wordNow 51 = .ok (.iconst 2, 1) := by decide +kernel
theorem dX9_wordNow_52 : decode cX9_wordNow 52 = .ok (.goto 22, 3) := by decide +kernel
theorem dX9_wordNow_55 : decode cX9_wordNow 55 = .ok (.aload_n 0, 1) := by decide +kernel
theorem dX9_wordNow_56 : decode cX9_wordNow 56 = .ok (.bipush 116, 2) := by decide +kernel
theorem dX9_wordNow_58 : decode cX9_wordNow 58 = .ok (.bipush 119, 2) := by decide +kernel
theorem dX9_wordNow_60 : decode cX9_wordNow 60 = .ok (.bipush 111, 2) := by decide +kernel
theorem dX9_wordNow_62 : decode cX9_wordNow 62 = .ok (.iconst 0, 1) := by decide +kernel
theorem dX9_wordNow_63 : decode cX9_wordNow 63 = .ok (.invokevirtual 146, 3) := by decide +kernel
theorem dX9_wordNow_66 : decode cX9_wordNow 66 = .ok (.ifCond .eq 7, 3) := by decide +kernel
theorem dX9_wordNow_69 : decode cX9_wordNow 69 = .ok (.iconst 3, 1) := by decide +kernel
theorem dX9_wordNow_70 : decode cX9_wordNow 70 = .ok (.goto 4, 3) := by decide +kernel
theorem dX9_wordNow_73 : decode cX9_wordNow 73 = .ok (.iconst (-1), 1) := by decide +kernel
theorem dX9_wordNow_74 : decode cX9_wordNow 74 = .ok (.ireturn, 1) := by decide +kernel
def f_HM_wordNow (σ : St) : Option (Int32 × St) :=
  bd (f_HM_isWord 101 110 100 0 σ) fun r3 σ2 => if r3 = 0 then (bd (f_HM_isWord 100 101 97 108 σ2) fun r7 σ6 => if r7 = 0 then (bd (f_HM_isWord 111 110 101 0 σ6) fun r11 σ10 => if r11 = 0 then (bd (f_HM_isWord 116 119 111 0 σ10) fun r15 σ14 => if r15 = 0 then (some ((-1), σ14)) else (some (3, σ14))) else (some (2, σ10))) else (some (1, σ6))) else (some (0, σ2))
set_option maxRecDepth 4000 in
theorem ok_HM_wordNow {w : wT} (hi : wInj w) {l : Launch} {σ σ' : St} {r : Int32} (h : f_HM_wordNow σ = some (r, σ')) : gM w l yX9_wordNow cX9_wordNow 1 (some .int) 2 [.ref (w.1 9)] σ (some (.int r)) σ' := by
  unfold f_HM_wordNow at h
  refine gM_of hi (by decide) [some (.ref (w.1 9))] rfl (Nat.le_of_ble_eq_true rfl) (fun E hl X Y => ?_)
  refine g_aload_n X dX9_wordNow_0 rfl rfl ?_
  refine g_bipush X kB_101 dX9_wordNow_1 rfl ?_
  refine g_bipush X kB_110 dX9_wordNow_3 rfl ?_
  refine g_bipush X kB_100 dX9_wordNow_5 rfl ?_
  refine g_iconst X kI_0 dX9_wordNow_7 rfl ?_
  obtain ⟨r3, σ2, h1, h⟩ := bd_e h
  refine g_callVI X [.int 101, .int 110, .int 100, .int 0] (ok_HM_isWord X.inj h1) my_yX9_isWord mi_yX9_isWord ms_yX9_isWord ml_RX9_146 (by decide) rfl rfl (by decide) rfl dX9_wordNow_8 (Nat.le_of_ble_eq_true rfl) rfl rfl ?_
  refine g_if_eq X dX9_wordNow_11 (tgt := 18) rfl rfl (fun c4 => ?_) (fun c4 => ?_)
  · replace h := if_t c4 h
    refine g_aload_n X dX9_wordNow_18 rfl rfl ?_
    refine g_bipush X kB_100 dX9_wordNow_19 rfl ?_
    refine g_bipush X kB_101 dX9_wordNow_21 rfl ?_
    refine g_bipush X kB_97 dX9_wordNow_23 rfl ?_
    refine g_bipush X kB_108 dX9_wordNow_25 rfl ?_
    obtain ⟨r7, σ6, h5, h⟩ := bd_e h
    refine g_callVI X [.int 100, .int 101, .int 97, .int 108] (ok_HM_isWord X.inj h5) my_yX9_isWord mi_yX9_isWord ms_yX9_isWord ml_RX9_146 (by decide) rfl rfl (by decide) rfl dX9_wordNow_27 (Nat.le_of_ble_eq_true rfl) rfl rfl ?_
    refine g_if_eq X dX9_wordNow_30 (tgt := 37) rfl rfl (fun c8 => ?_) (fun c8 => ?_)
    · replace h := if_t c8 h
      refine g_aload_n X dX9_wordNow_37 rfl rfl ?_
      refine g_bipush X kB_111 dX9_wordNow_38 rfl ?_
      refine g_bipush X kB_110 dX9_wordNow_40 rfl ?_
      refine g_bipush X kB_101 dX9_wordNow_42 rfl ?_
      refine g_iconst X kI_0 dX9_wordNow_44 rfl ?_
      obtain ⟨r11, σ10, h9, h⟩ := bd_e h
      refine g_callVI X [.int 111, .int 110, .int 101, .int 0] (ok_HM_isWord X.inj h9) my_yX9_isWord mi_yX9_isWord ms_yX9_isWord ml_RX9_146 (by decide) rfl rfl (by decide) rfl dX9_wordNow_45 (Nat.le_of_ble_eq_true rfl) rfl rfl ?_
      refine g_if_eq X dX9_wordNow_48 (tgt := 55) rfl rfl (fun c12 => ?_) (fun c12 => ?_)
      · replace h := if_t c12 h
        refine g_aload_n X dX9_wordNow_55 rfl rfl ?_
        refine g_bipush X kB_116 dX9_wordNow_56 rfl ?_
        refine g_bipush X kB_119 dX9_wordNow_58 rfl ?_
        refine g_bipush X kB_111 dX9_wordNow_60 rfl ?_
        refine g_iconst X kI_0 dX9_wordNow_62 rfl ?_
        obtain ⟨r15, σ14, h13, h⟩ := bd_e h
        refine g_callVI X [.int 116, .int 119, .int 111, .int 0] (ok_HM_isWord X.inj h13) my_yX9_isWord mi_yX9_isWord ms_yX9_isWord ml_RX9_146 (by decide) rfl rfl (by decide) rfl dX9_wordNow_63 (Nat.le_of_ble_eq_true rfl) rfl rfl ?_
        refine g_if_eq X dX9_wordNow_66 (tgt := 73) rfl rfl (fun c16 => ?_) (fun c16 => ?_)
        · replace h := if_t c16 h
          refine g_iconst X kI_m1 dX9_wordNow_73 rfl ?_
          obtain ⟨rfl, rfl⟩ := rt_e h
          exact g_iret X Y dX9_wordNow_74
        · replace h := if_f c16 h
          refine g_iconst X kI_3 dX9_wordNow_69 rfl ?_
          refine g_goto X dX9_wordNow_70 (tgt := 74) rfl ?_
          obtain ⟨rfl, rfl⟩ := rt_e h
          exact g_iret X Y dX9_wordNow_74
      · replace h := if_f c12 h
        refine g_iconst X kI_2 dX9_wordNow_51 rfl ?_
        refine g_goto X dX9_wordNow_52 (tgt := 74) rfl ?_
        obtain ⟨rfl, rfl⟩ := rt_e h
        exact g_iret X Y dX9_wordNow_74
    · replace h := if_f c8 h
      refine g_iconst X kI_1 dX9_wordNow_33 rfl ?_
      refine g_goto X dX9_wordNow_34 (tgt := 74) rfl ?_
      obtain ⟨rfl, rfl⟩ := rt_e h
      exact g_iret X Y dX9_wordNow_74
  · replace h := if_f c4 h
    refine g_iconst X kI_0 dX9_wordNow_14 rfl ?_
    refine g_goto X dX9_wordNow_15 (tgt := 74) rfl ?_
    obtain ⟨rfl, rfl⟩ := rt_e h
    exact g_iret X Y dX9_wordNow_74

theorem dX9_readsDeal_0 : decode cX9_readsDeal 0 = .ok (.aload_n 0, 1) := by decide +kernel
theorem dX9_readsDeal_1 : decode cX9_readsDeal 1 = .ok (.getfield 31, 3) := by decide +kernel
theorem dX9_readsDeal_4 : decode cX9_readsDeal 4 = .ok (.iload_n 1, 1) := by decide +kernel
theorem dX9_readsDeal_5 : decode cX9_readsDeal 5 = .ok (.aload_n 0, 1) := by decide +kernel
theorem dX9_readsDeal_6 : decode cX9_readsDeal 6 = .ok (.getfield 143, 3) := by decide +kernel
theorem dX9_readsDeal_9 : decode cX9_readsDeal 9 = .ok (.iastore, 1) := by decide +kernel
theorem dX9_readsDeal_10 : decode cX9_readsDeal 10 = .ok (.aload_n 0, 1) := by decide +kernel
theorem dX9_readsDeal_11 : decode cX9_readsDeal 11 = .ok (.getfield 143, 3) := by decide +kernel
theorem dX9_readsDeal_14 : decode cX9_readsDeal 14 = .ok (.i2l, 1) := by decide +kernel
theorem dX9_readsDeal_15 : decode cX9_readsDeal 15 = .ok (.ldc2_w 105, 3) := by decide +kernel
theorem dX9_readsDeal_18 : decode cX9_readsDeal 18 = .ok (.ldc2_w 172, 3) := by decide +kernel
theorem dX9_readsDeal_21 : decode cX9_readsDeal 21 = .ok (.invokestatic 91, 3) := by decide +kernel
theorem dX9_readsDeal_24 : decode cX9_readsDeal 24 = .ok (.ifCond .eq 7, 3) := by decide +kernel
theorem dX9_readsDeal_27 : decode cX9_readsDeal 27 = .ok (.iconst 0, 1) := by decide +kernel
theorem dX9_readsDeal_28 : decode cX9_readsDeal 28 = .ok (.goto 4, 3) := by decide +kernel
theorem dX9_readsDeal_31 : decode cX9_readsDeal 31 = .ok (.iconst 2, 1) := by decide +kernel
theorem dX9_readsDeal_32 : decode cX9_readsDeal 32 = .ok (.ireturn, 1) := by decide +kernel
def f_HM_readsDeal (x1 : Int32) (σ : St) : Option (Int32 × St) :=
  ck (ib x1 120) <| lE (stA σ 70 x1.toNatClampNeg (rF σ 49)) fun σ2 => bd (f_HM_in ((rF σ2 49).toInt64) 2 4 σ2) fun r6 σ5 => if r6 = 0 then (some (2, σ5)) else (some (0, σ5))
set_option maxRecDepth 4000 in
theorem ok_HM_readsDeal {w : wT} (hi : wInj w) {l : Launch} {x1 : Int32} {σ σ' : St} {r : Int32} (h : f_HM_readsDeal x1 σ = some (r, σ')) : gM w l yX9_readsDeal cX9_readsDeal 2 (some .int) 2 [.ref (w.1 9), .int x1] σ (some (.int r)) σ' := by
  unfold f_HM_readsDeal at h
  refine gM_of hi (by decide) [some (.ref (w.1 9)), some (.int x1)] rfl (Nat.le_of_ble_eq_true rfl) (fun E hl X Y => ?_)
  refine g_aload_n X dX9_readsDeal_0 rfl rfl ?_
  refine gf_RX9_31 X dX9_readsDeal_1 rfl ?_
  refine g_iload_n X dX9_readsDeal_4 rfl rfl ?_
  refine g_aload_n X dX9_readsDeal_5 rfl rfl ?_
  refine gf_RX9_143 X dX9_readsDeal_6 rfl ?_
  obtain ⟨c1, h⟩ := ck_e h
  refine g_iast X ar_70.1 ar_70.2.1 ar_70.2.2 (ib_e c1) dX9_readsDeal_9 rfl (fun σ2 e3 => ?_)
  replace h := lE_c e3 h
  refine g_aload_n X dX9_readsDeal_10 rfl rfl ?_
  refine gf_RX9_143 X dX9_readsDeal_11 rfl ?_
  refine g_i2l X dX9_readsDeal_14 rfl ?_
  refine g_ldc2 X dX9_readsDeal_15 kc_RX9_105 rfl ?_
  refine g_ldc2 X dX9_readsDeal_18 kc_RX9_172 rfl ?_
  obtain ⟨r6, σ5, h4, h⟩ := bd_e h
  refine g_callSI X [.long ((rF σ2 49).toInt64), .long 2, .long 4] (ok_HM_in X.inj h4) my_yX9_in mt_yX9_in ml_RX9_91 (by decide) rfl dX9_readsDeal_21 (Nat.le_of_ble_eq_true rfl) rfl rfl ?_
  refine g_if_eq X dX9_readsDeal_24 (tgt := 31) rfl rfl (fun c7 => ?_) (fun c7 => ?_)
  · replace h := if_t c7 h
    refine g_iconst X kI_2 dX9_readsDeal_31 rfl ?_
    obtain ⟨rfl, rfl⟩ := rt_e h
    exact g_iret X Y dX9_readsDeal_32
  · replace h := if_f c7 h
    refine g_iconst X kI_0 dX9_readsDeal_27 rfl ?_
    refine g_goto X dX9_readsDeal_28 (tgt := 32) rfl ?_
    obtain ⟨rfl, rfl⟩ := rt_e h
    exact g_iret X Y dX9_readsDeal_32

theorem dX9_readsHeld_0 : decode cX9_readsHeld 0 = .ok (.bipush 10, 2) := by decide +kernel
theorem dX9_readsHeld_2 : decode cX9_readsHeld 2 = .ok (.aload_n 0, 1) := by decide +kernel
theorem dX9_readsHeld_3 : decode cX9_readsHeld 3 = .ok (.getfield 143, 3) := by decide +kernel
theorem dX9_readsHeld_6 : decode cX9_readsHeld 6 = .ok (.iadd, 1) := by decide +kernel
theorem dX9_readsHeld_7 : decode cX9_readsHeld 7 = .ok (.istore_n 3, 1) := by decide +kernel
theorem dX9_readsHeld_8 : decode cX9_readsHeld 8 = .ok (.aload_n 0, 1) := by decide +kernel
theorem dX9_readsHeld_9 : decode cX9_readsHeld 9 = .ok (.getfield 143, 3) := by decide +kernel
theorem dX9_readsHeld_12 : decode cX9_readsHeld 12 = .ok (.bipush 10, 2) := by decide +kernel
theorem dX9_readsHeld_14 : decode cX9_readsHeld 14 = .ok (.if_icmp .ge 22, 3) := by decide +kernel
theorem dX9_readsHeld_17 : decode cX9_readsHeld 17 = .ok (.aload_n 0, 1) := by decide +kernel
theorem dX9_readsHeld_18 : decode cX9_readsHeld 18 = .ok (.getfield 49, 3) := by decide +kernel
theorem dX9_readsHeld_21 : decode cX9_readsHeld 21 = .ok (.iload_n 3, 1) := by decide +kernel
theorem dX9_readsHeld_22 : decode cX9_readsHeld 22 = .ok (.iaload, 1) := by decide +kernel
theorem dX9_readsHeld_23 : decode cX9_readsHeld 23 = .ok (.ifCond .lt 15, 3) := by decide +kernel
theorem dX9_readsHeld_26 : decode cX9_readsHeld 26 = .ok (.aload_n 0, 1) := by decide +kernel
theorem dX9_readsHeld_27 : decode cX9_readsHeld 27 = .ok (.getfield 49, 3) := by decide +kernel
theorem dX9_readsHeld_30 : decode cX9_readsHeld 30 = .ok (.iload_n 3, 1) := by decide +kernel
theorem dX9_readsHeld_31 : decode cX9_readsHeld 31 = .ok (.iaload, 1) := by decide +kernel
theorem dX9_readsHeld_32 : decode cX9_readsHeld 32 = .ok (.iload_n 2, 1) := by decide +kernel
theorem dX9_readsHeld_33 : decode cX9_readsHeld 33 = .ok (.if_icmp .eq 5, 3) := by decide +kernel
theorem dX9_readsHeld_36 : decode cX9_readsHeld 36 = .ok (.iconst 2, 1) := by decide +kernel
theorem dX9_readsHeld_37 : decode cX9_readsHeld 37 = .ok (.ireturn, 1) := by decide +kernel
theorem dX9_readsHeld_38 : decode cX9_readsHeld 38 = .ok (.aload_n 0, 1) := by decide +kernel
theorem dX9_readsHeld_39 : decode cX9_readsHeld 39 = .ok (.getfield 28, 3) := by decide +kernel
theorem dX9_readsHeld_42 : decode cX9_readsHeld 42 = .ok (.iload_n 1, 1) := by decide +kernel
theorem dX9_readsHeld_43 : decode cX9_readsHeld 43 = .ok (.aload_n 0, 1) := by decide +kernel
theorem dX9_readsHeld_44 : decode cX9_readsHeld 44 = .ok (.getfield 143, 3) := by decide +kernel
theorem dX9_readsHeld_47 : decode cX9_readsHeld 47 = .ok (.iastore, 1) := by decide +kernel
theorem dX9_readsHeld_48 : decode cX9_readsHeld 48 = .ok (.aload_n 0, 1) := by decide +kernel
theorem dX9_readsHeld_49 : decode cX9_readsHeld 49 = .ok (.invokevirtual 150, 3) := by decide +kernel
theorem dX9_readsHeld_52 : decode cX9_readsHeld 52 = .ok (.aload_n 0, 1) := by decide +kernel
theorem dX9_readsHeld_53 : decode cX9_readsHeld 53 = .ok (.getfield 132, 3) := by decide +kernel
theorem dX9_readsHeld_56 : decode cX9_readsHeld 56 = .ok (.iconst 2, 1) := by decide +kernel
theorem dX9_readsHeld_57 : decode cX9_readsHeld 57 = .ok (.if_icmp .eq 5, 3) := by decide +kernel
theorem dX9_readsHeld_60 : decode cX9_readsHeld 60 = .ok (.iconst 1, 1) := by decide +kernel
theorem dX9_readsHeld_61 : decode cX9_readsHeld 61 = .ok (.ireturn, 1) := by decide +kernel
theorem dX9_readsHeld_62 : decode cX9_readsHeld 62 = .ok (.aload_n 0, 1) := by decide +kernel
theorem dX9_readsHeld_63 : decode cX9_readsHeld 63 = .ok (.getfield 143, 3) := by decide +kernel
theorem dX9_readsHeld_66 : decode cX9_readsHeld 66 = .ok (.i2l, 1) := by decide +kernel
theorem dX9_readsHeld_67 : decode cX9_readsHeld 67 = .ok (.ldc2_w 105, 3) := by decide +kernel
theorem dX9_readsHeld_70 : decode cX9_readsHeld 70 = .ok (.ldc2_w 174, 3) := by decide +kernel
theorem dX9_readsHeld_73 : decode cX9_readsHeld 73 = .ok (.invokestatic 91, 3) := by decide +kernel
theorem dX9_readsHeld_76 : decode cX9_readsHeld 76 = .ok (.ifCond .eq 25, 3) := by decide +kernel
theorem dX9_readsHeld_79 : decode cX9_readsHeld 79 = .ok (.aload_n 0, 1) := by decide +kernel
theorem dX9_readsHeld_80 : decode cX9_readsHeld 80 = .ok (.getfield 49, 3) := by decide +kernel
theorem dX9_readsHeld_83 : decode cX9_readsHeld 83 = .ok (.iload_n 3, 1) := by decide +kernel
theorem dX9_readsHeld_84 : decode cX9_readsHeld 84 = .ok (.iaload, 1) := by decide +kernel
theorem dX9_readsHeld_85 : decode cX9_readsHeld 85 = .ok (.ifCond .lt 18, 3) := by decide +kernel
theorem dX9_readsHeld_88 : decode cX9_readsHeld 88 = .ok (.aload_n 0, 1) := by decide +kernel
theorem dX9_readsHeld_89 : decode cX9_readsHeld 89 = .ok (.getfield 52, 3) := by decide +kernel
theorem dX9_readsHeld_92 : decode cX9_readsHeld 92 = .ok (.iload_n 3, 1) := by decide +kernel
theorem dX9_readsHeld_93 : decode cX9_readsHeld 93 = .ok (.iaload, 1) := by decide +kernel
theorem dX9_readsHeld_94 : decode cX9_readsHeld 94 = .ok (.aload_n 0, 1) := by decide +kernel
theorem dX9_readsHeld_95 : decode cX9_readsHeld 95 = .ok (.getfield 143, 3) := by decide +kernel
theorem dX9_readsHeld_98 : decode cX9_readsHeld 98 = .ok (.if_icmp .eq 5, 3) := by decide +kernel
theorem dX9_readsHeld_101 : decode cX9_readsHeld 101 = .ok (.iconst 2, 1) := by decide +kernel
theorem dX9_readsHeld_102 : decode cX9_readsHeld 102 = .ok (.ireturn, 1) := by decide +kernel
theorem dX9_readsHeld_103 : decode cX9_readsHeld 103 = .ok (.aload_n 0, 1) := by decide +kernel
theorem dX9_readsHeld_104 : decode cX9_readsHeld 104 = .ok (.getfield 49, 3) := by decide +kernel
theorem dX9_readsHeld_107 : decode cX9_readsHeld 107 = .ok (.iload_n 3, 1) := by decide +kernel
theorem dX9_readsHeld_108 : decode cX9_readsHeld 108 = .ok (.iload_n 2, 1) := by decide +kernel
theorem dX9_readsHeld_109 : decode cX9_readsHeld 109 = .ok (.iastore, 1) := by decide +kernel
theorem dX9_readsHeld_110 : decode cX9_readsHeld 110 = .ok (.aload_n 0, 1) := by decide +kernel
theorem dX9_readsHeld_111 : decode cX9_readsHeld 111 = .ok (.getfield 52, 3) := by decide +kernel
theorem dX9_readsHeld_114 : decode cX9_readsHeld 114 = .ok (.iload_n 3, 1) := by decide +kernel
theorem dX9_readsHeld_115 : decode cX9_readsHeld 115 = .ok (.aload_n 0, 1) := by decide +kernel
theorem dX9_readsHeld_116 : decode cX9_readsHeld 116 = .ok (.getfield 143, 3) := by decide +kernel
theorem dX9_readsHeld_119 : decode cX9_readsHeld 119 = .ok (.iastore, 1) := by decide +kernel
theorem dX9_readsHeld_120 : decode cX9_readsHeld 120 = .ok (.aload_n 0, 1) := by decide +kernel
theorem dX9_readsHeld_121 : decode cX9_readsHeld 121 = .ok (.getfield 31, 3) := by decide +kernel
theorem dX9_readsHeld_124 : decode cX9_readsHeld 124 = .ok (.iload_n 1, 1) := by decide +kernel
theorem dX9_readsHeld_125 : decode cX9_readsHeld 125 = .ok (.aload_n 0, 1) := by decide +kernel
theorem dX9_readsHeld_126 : decode cX9_readsHeld 126 = .ok (.getfield 143, 3) := by decide +kernel
theorem dX9_readsHeld_129 : decode cX9_readsHeld 129 = .ok (.iastore, 1) := by decide +kernel
theorem dX9_readsHeld_130 : decode cX9_readsHeld 130 = .ok (.iconst 0, 1) := by decide +kernel
theorem dX9_readsHeld_131 : decode cX9_readsHeld 131 = .ok (.ireturn, 1) := by decide +kernel
def f_HM_readsHeld_b103 (x1 : Int32) (x2 : Int32) (x3 : Int32) (σ : St) : Option (Int32 × St) :=
  ck (ib x3 20) <| lE (stA σ 76 x3.toNatClampNeg x2) fun σ2 => ck (ib x3 20) <| lE (stA σ2 77 x3.toNatClampNeg (rF σ2 49)) fun σ5 => ck (ib x1 120) <| lE (stA σ5 70 x1.toNatClampNeg (rF σ5 49)) fun σ8 => some (0, σ8)
set_option maxRecDepth 4000 in
theorem ok_HM_readsHeld_b103 {E : gE} {w : wT} {σ' : St} {r : Int32} (X : gC E w cX9_readsHeld 4 RX9 3) (Y : gQ E w (some .int) (some (.int r)) σ') {x1 : Int32} {x2 : Int32} {x3 : Int32} (σ : St) (h : f_HM_readsHeld_b103 x1 x2 x3 σ = some (r, σ')) : gW E w 4 σ 103 [some (.ref (w.1 9)), some (.int x1), some (.int x2), some (.int x3)] [] := by
  unfold f_HM_readsHeld_b103 at h
  refine g_aload_n X dX9_readsHeld_103 rfl rfl ?_
  refine gf_RX9_49 X dX9_readsHeld_104 rfl ?_
  refine g_iload_n X dX9_readsHeld_107 rfl rfl ?_
  refine g_iload_n X dX9_readsHeld_108 rfl rfl ?_
  obtain ⟨c1, h⟩ := ck_e h
  refine g_iast X ar_76.1 ar_76.2.1 ar_76.2.2 (ib_e c1) dX9_readsHeld_109 rfl (fun σ2 e3 => ?_)
  replace h := lE_c e3 h
  refine g_aload_n X dX9_readsHeld_110 rfl rfl ?_
  refine gf_RX9_52 X dX9_readsHeld_111 rfl ?_
  refine g_iload_n X dX9_readsHeld_114 rfl rfl ?_
  refine g_aload_n X dX9_readsHeld_115 rfl rfl ?_
  refine gf_RX9_143 X dX9_readsHeld_116 rfl ?_
  obtain ⟨c4, h⟩ := ck_e h
  refine g_iast X ar_77.1 ar_77.2.1 ar_77.2.2 (ib_e c4) dX9_readsHeld_119 rfl (fun σ5 e6 => ?_)
  replace h := lE_c e6 h
  refine g_aload_n X dX9_readsHeld_120 rfl rfl ?_
  refine gf_RX9_31 X dX9_readsHeld_121 rfl ?_
  refine g_iload_n X dX9_readsHeld_124 rfl rfl ?_
  refine g_aload_n X dX9_readsHeld_125 rfl rfl ?_
  refine gf_RX9_143 X dX9_readsHeld_126 rfl ?_
  obtain ⟨c7, h⟩ := ck_e h
  refine g_iast X ar_70.1 ar_70.2.1 ar_70.2.2 (ib_e c7) dX9_readsHeld_129 rfl (fun σ8 e9 => ?_)
  replace h := lE_c e9 h
  refine g_iconst X kI_0 dX9_readsHeld_130 rfl ?_
  obtain ⟨rfl, rfl⟩ := rt_e h
  exact g_iret X Y dX9_readsHeld_131

def f_HM_readsHeld_b38 (x1 : Int32) (x2 : Int32) (x3 : Int32) (σ : St) : Option (Int32 × St) :=
  ck (ib x1 120) <| lE (stA σ 69 x1.toNatClampNeg (rF σ 49)) fun σ2 => bv (f_HM_token σ2) fun σ5 => if (rF σ5 48) = 2 then (bd (f_HM_in ((rF σ5 49).toInt64) 2 3 σ5) fun r9 σ8 => if r9 = 0 then (some (2, σ8)) else (ck (ib x3 20) <| if (rI σ8 76 x3) < 0 then (f_HM_readsHeld_b103 x1 x2 x3 σ8) else (ck (ib x3 20) <| if (rI σ8 77 x3) = (rF σ8 49) then (f_HM_readsHeld_b103 x1 x2 x3 σ8) else (some (2, σ8))))) else (some (1, σ5))
set_option maxRecDepth 4000 in
theorem ok_HM_readsHeld_b38 {E : gE} {w : wT} {σ' : St} {r : Int32} (X : gC E w cX9_readsHeld 4 RX9 3) (Y : gQ E w (some .int) (some (.int r)) σ') {x1 : Int32} {x2 : Int32} {x3 : Int32} (σ : St) (h : f_HM_readsHeld_b38 x1 x2 x3 σ = some (r, σ')) : gW E w 4 σ 38 [some (.ref (w.1 9)), some (.int x1), some (.int x2), some (.int x3)] [] := by
  unfold f_HM_readsHeld_b38 at h
  refine g_aload_n X dX9_readsHeld_38 rfl rfl ?_
  refine gf_RX9_28 X dX9_readsHeld_39 rfl ?_
  refine g_iload_n X dX9_readsHeld_42 rfl rfl ?_
  refine g_aload_n X dX9_readsHeld_43 rfl rfl ?_
  refine gf_RX9_143 X dX9_readsHeld_44 rfl ?_
  obtain ⟨c1, h⟩ := ck_e h
  refine g_iast X ar_69.1 ar_69.2.1 ar_69.2.2 (ib_e c1) dX9_readsHeld_47 rfl (fun σ2 e3 => ?_)
  replace h := lE_c e3 h
  refine g_aload_n X dX9_readsHeld_48 rfl rfl ?_
  obtain ⟨σ5, h4, h⟩ := bv_e h
  refine g_callVV X [] (ok_HM_token X.inj h4) my_yX9_token mi_yX9_token ms_yX9_token ml_RX9_150 (by decide) rfl rfl (by decide) rfl dX9_readsHeld_49 (Nat.le_of_ble_eq_true rfl) rfl rfl ?_
  refine g_aload_n X dX9_readsHeld_52 rfl rfl ?_
  refine gf_RX9_132 X dX9_readsHeld_53 rfl ?_
  refine g_iconst X kI_2 dX9_readsHeld_56 rfl ?_
  refine g_icmp_eq X dX9_readsHeld_57 (tgt := 62) rfl rfl (fun c6 => ?_) (fun c6 => ?_)
  · replace h := if_t c6 h
    refine g_aload_n X dX9_readsHeld_62 rfl rfl ?_
    refine gf_RX9_143 X dX9_readsHeld_63 rfl ?_
    refine g_i2l X dX9_readsHeld_66 rfl ?_
    refine g_ldc2 X dX9_readsHeld_67 kc_RX9_105 rfl ?_
    refine g_ldc2 X dX9_readsHeld_70 kc_RX9_174 rfl ?_
    obtain ⟨r9, σ8, h7, h⟩ := bd_e h
    refine g_callSI X [.long ((rF σ5 49).toInt64), .long 2, .long 3] (ok_HM_in X.inj h7) my_yX9_in mt_yX9_in ml_RX9_91 (by decide) rfl dX9_readsHeld_73 (Nat.le_of_ble_eq_true rfl) rfl rfl ?_
    refine g_if_eq X dX9_readsHeld_76 (tgt := 101) rfl rfl (fun c10 => ?_) (fun c10 => ?_)
    · replace h := if_t c10 h
      refine g_iconst X kI_2 dX9_readsHeld_101 rfl ?_
      obtain ⟨rfl, rfl⟩ := rt_e h
      exact g_iret X Y dX9_readsHeld_102
    · replace h := if_f c10 h
      refine g_aload_n X dX9_readsHeld_79 rfl rfl ?_
      refine gf_RX9_49 X dX9_readsHeld_80 rfl ?_
      refine g_iload_n X dX9_readsHeld_83 rfl rfl ?_
      obtain ⟨c11, h⟩ := ck_e h
      refine g_iald X ar_76.1 ar_76.2.1 ar_76.2.2 (ib_e c11) dX9_readsHeld_84 rfl ?_
      refine g_if_lt X dX9_readsHeld_85 (tgt := 103) rfl rfl (fun c12 => ?_) (fun c12 => ?_)
      · replace h := if_t c12 h
        exact ok_HM_readsHeld_b103 X Y σ8 h
      · replace h := if_f c12 h
        refine g_aload_n X dX9_readsHeld_88 rfl rfl ?_
        refine gf_RX9_52 X dX9_readsHeld_89 rfl ?_
        refine g_iload_n X dX9_readsHeld_92 rfl rfl ?_
        obtain ⟨c13, h⟩ := ck_e h
        refine g_iald X ar_77.1 ar_77.2.1 ar_77.2.2 (ib_e c13) dX9_readsHeld_93 rfl ?_
        refine g_aload_n X dX9_readsHeld_94 rfl rfl ?_
        refine gf_RX9_143 X dX9_readsHeld_95 rfl ?_
        refine g_icmp_eq X dX9_readsHeld_98 (tgt := 103) rfl rfl (fun c14 => ?_) (fun c14 => ?_)
        · replace h := if_t c14 h
          exact ok_HM_readsHeld_b103 X Y σ8 h
        · replace h := if_f c14 h
          refine g_iconst X kI_2 dX9_readsHeld_101 rfl ?_
          obtain ⟨rfl, rfl⟩ := rt_e h
          exact g_iret X Y dX9_readsHeld_102
  · replace h := if_f c6 h
    refine g_iconst X kI_1 dX9_readsHeld_60 rfl ?_
    obtain ⟨rfl, rfl⟩ := rt_e h
    exact g_iret X Y dX9_readsHeld_61

def f_HM_readsHeld (x1 : Int32) (x2 : Int32) (σ : St) : Option (Int32 × St) :=
  if (10 : Int32) ≤ (rF σ 49) then (some (2, σ)) else (ck (ib (10 + (rF σ 49)) 20) <| if (rI σ 76 (10 + (rF σ 49))) < 0 then (f_HM_readsHeld_b38 x1 x2 (10 + (rF σ 49)) σ) else (ck (ib (10 + (rF σ 49)) 20) <| if (rI σ 76 (10 + (rF σ 49))) = x2 then (f_HM_readsHeld_b38 x1 x2 (10 + (rF σ 49)) σ) else (some (2, σ))))
set_option maxRecDepth 4000 in
theorem ok_HM_readsHeld {w : wT} (hi : wInj w) {l : Launch} {x1 : Int32} {x2 : Int32} {σ σ' : St} {r : Int32} (h : f_HM_readsHeld x1 x2 σ = some (r, σ')) : gM w l yX9_readsHeld cX9_readsHeld 4 (some .int) 3 [.ref (w.1 9), .int x1, .int x2] σ (some (.int r)) σ' := by
  unfold f_HM_readsHeld at h
  refine gM_of hi (by decide) [some (.ref (w.1 9)), some (.int x1), some (.int x2)] rfl (Nat.le_of_ble_eq_true rfl) (fun E hl X Y => ?_)
  refine g_bipush X kB_10 dX9_readsHeld_0 rfl ?_
  refine g_aload_n X dX9_readsHeld_2 rfl rfl ?_
  refine gf_RX9_143 X dX9_readsHeld_3 rfl ?_
  refine g_iadd X dX9_readsHeld_6 rfl ?_
  refine g_istore_n X [some (.ref (w.1 9)), some (.int x1), some (.int x2), some (.int (10 + (rF σ 49)))] dX9_readsHeld_7 (Nat.le_of_ble_eq_true rfl) rfl rfl rfl ?_
  refine g_aload_n X dX9_readsHeld_8 rfl rfl ?_
  refine gf_RX9_143 X dX9_readsHeld_9 rfl ?_
  refine g_bipush X kB_10 dX9_readsHeld_12 rfl ?_
  refine g_icmp_ge X dX9_readsHeld_14 (tgt := 36) rfl rfl (fun c1 => ?_) (fun c1 => ?_)
  · replace h := if_t c1 h
    refine g_iconst X kI_2 dX9_readsHeld_36 rfl ?_
    obtain ⟨rfl, rfl⟩ := rt_e h
    exact g_iret X Y dX9_readsHeld_37
  · replace h := if_f c1 h
    refine g_aload_n X dX9_readsHeld_17 rfl rfl ?_
    refine gf_RX9_49 X dX9_readsHeld_18 rfl ?_
    refine g_iload_n X dX9_readsHeld_21 rfl rfl ?_
    obtain ⟨c2, h⟩ := ck_e h
    refine g_iald X ar_76.1 ar_76.2.1 ar_76.2.2 (ib_e c2) dX9_readsHeld_22 rfl ?_
    refine g_if_lt X dX9_readsHeld_23 (tgt := 38) rfl rfl (fun c3 => ?_) (fun c3 => ?_)
    · replace h := if_t c3 h
      exact ok_HM_readsHeld_b38 X Y σ h
    · replace h := if_f c3 h
      refine g_aload_n X dX9_readsHeld_26 rfl rfl ?_
      refine gf_RX9_49 X dX9_readsHeld_27 rfl ?_
      refine g_iload_n X dX9_readsHeld_30 rfl rfl ?_
      obtain ⟨c4, h⟩ := ck_e h
      refine g_iald X ar_76.1 ar_76.2.1 ar_76.2.2 (ib_e c4) dX9_readsHeld_31 rfl ?_
      refine g_iload_n X dX9_readsHeld_32 rfl rfl ?_
      refine g_icmp_eq X dX9_readsHeld_33 (tgt := 38) rfl rfl (fun c5 => ?_) (fun c5 => ?_)
      · replace h := if_t c5 h
        exact ok_HM_readsHeld_b38 X Y σ h
      · replace h := if_f c5 h
        refine g_iconst X kI_2 dX9_readsHeld_36 rfl ?_
        obtain ⟨rfl, rfl⟩ := rt_e h
        exact g_iret X Y dX9_readsHeld_37

theorem dX9_readsPlace_0 : decode cX9_readsPlace 0 = .ok (.aload_n 0, 1) := by decide +kernel
theorem dX9_readsPlace_1 : decode cX9_readsPlace 1 = .ok (.invokevirtual 150, 3) := by decide +kernel
theorem dX9_readsPlace_4 : decode cX9_readsPlace 4 = .ok (.aload_n 0, 1) := by decide +kernel
theorem dX9_readsPlace_5 : decode cX9_readsPlace 5 = .ok (.invokevirtual 153, 3) := by decide +kernel
theorem dX9_readsPlace_8 : decode cX9_readsPlace 8 = .ok (.istore_n 1, 1) := by decide +kernel
theorem dX9_readsPlace_9 : decode cX9_readsPlace 9 = .ok (.iload_n 1, 1) := by decide +kernel
theorem dX9_readsPlace_10 : decode cX9_readsPlace 10 = .ok (.ifCond .ge 5, 3) := by decide +kernel
theorem dX9_readsPlace_13 : decode cX9_readsPlace 13 = .ok (.iconst 1, 1) := by decide +kernel
theorem dX9_readsPlace_14 : decode cX9_readsPlace 14 = .ok (.ireturn, 1) := by decide +kernel
theorem dX9_readsPlace_15 : decode cX9_readsPlace 15 = .ok (.aload_n 0, 1) := by decide +kernel
theorem dX9_readsPlace_16 : decode cX9_readsPlace 16 = .ok (.getfield 157, 3) := by decide +kernel
theorem dX9_readsPlace_19 : decode cX9_readsPlace 19 = .ok (.bipush 60, 2) := by decide +kernel
theorem dX9_readsPlace_21 : decode cX9_readsPlace 21 = .ok (.if_icmp .eq 16, 3) := by decide +kernel
theorem dX9_readsPlace_24 : decode cX9_readsPlace 24 = .ok (.aload_n 0, 1) := by decide +kernel
theorem dX9_readsPlace_25 : decode cX9_readsPlace 25 = .ok (.getfield 160, 3) := by decide +kernel
theorem dX9_readsPlace_28 : decode cX9_readsPlace 28 = .ok (.bipush 8, 2) := by decide +kernel
theorem dX9_readsPlace_30 : decode cX9_readsPlace 30 = .ok (.if_icmp .ne 9, 3) := by decide +kernel
theorem dX9_readsPlace_33 : decode cX9_readsPlace 33 = .ok (.iload_n 1, 1) := by decide +kernel
theorem dX9_readsPlace_34 : decode cX9_readsPlace 34 = .ok (.ifCond .eq 5, 3) := by decide +kernel
theorem dX9_readsPlace_37 : decode cX9_readsPlace 37 = .ok (.iconst 3, 1) := by decide +kernel
theorem dX9_readsPlace_38 : decode cX9_readsPlace 38 = .ok (.ireturn, 1) := by decide +kernel
theorem dX9_readsPlace_39 : decode cX9_readsPlace 39 = .ok (.bipush 60, 2) := by decide +kernel
theorem dX9_readsPlace_41 : decode cX9_readsPlace 41 = .ok (.aload_n 0, 1) := by decide +kernel
theorem dX9_readsPlace_42 : decode cX9_readsPlace 42 = .ok (.getfield 157, 3) := by decide +kernel
theorem dX9_readsPlace_45 : decode cX9_readsPlace 45 = .ok (.iadd, 1) := by decide +kernel
theorem dX9_readsPlace_46 : decode cX9_readsPlace 46 = .ok (.istore_n 2, 1) := by decide +kernel
theorem dX9_readsPlace_47 : decode cX9_readsPlace 47 = .ok (.aload_n 0, 1) := by decide +kernel
theorem dX9_readsPlace_48 : decode cX9_readsPlace 48 = .ok (.dup, 1) := by decide +kernel
theorem dX9_readsPlace_49 : decode cX9_readsPlace 49 = .ok (.getfield 157, 3) := by decide +kernel
theorem dX9_readsPlace_52 : decode cX9_readsPlace 52 = .ok (.iconst 1, 1) := by decide +kernel
theorem dX9_readsPlace_53 : decode cX9_readsPlace 53 = .ok (.iadd, 1) := by decide +kernel
theorem dX9_readsPlace_54 : decode cX9_readsPlace 54 = .ok (.putfield 157, 3) := by decide +kernel
theorem dX9_readsPlace_57 : decode cX9_readsPlace 57 = .ok (.aload_n 0, 1) := by decide +kernel
theorem dX9_readsPlace_58 : decode cX9_readsPlace 58 = .ok (.getfield 22, 3) := by decide +kernel
theorem dX9_readsPlace_61 : decode cX9_readsPlace 61 = .ok (.iload_n 2, 1) := by decide +kernel
theorem dX9_readsPlace_62 : decode cX9_readsPlace 62 = .ok (.iload_n 1, 1) := by decide +kernel
theorem dX9_readsPlace_63 : decode cX9_readsPlace 63 = .ok (.iastore, 1) := by decide +kernel
theorem dX9_readsPlace_64 : decode cX9_readsPlace 64 = .ok (.aload_n 0, 1) := by decide +kernel
theorem dX9_readsPlace_65 : decode cX9_readsPlace 65 = .ok (.getfield 25, 3) := by decide +kernel
theorem dX9_readsPlace_68 : decode cX9_readsPlace 68 = .ok (.iload_n 2, 1) := by decide +kernel
theorem dX9_readsPlace_69 : decode cX9_readsPlace 69 = .ok (.ldc 163, 2) := by decide +kernel
theorem dX9_readsPlace_71 : decode cX9_readsPlace 71 = .ok (.iastore, 1) := by decide +kernel
theorem dX9_readsPlace_72 : decode cX9_readsPlace 72 = .ok (.aload_n 0, 1) := by decide +kernel
theorem dX9_readsPlace_73 : decode cX9_readsPlace 73 = .ok (.getfield 28, 3) := by decide +kernel
theorem dX9_readsPlace_76 : decode cX9_readsPlace 76 = .ok (.iload_n 2, 1) := by decide +kernel
theorem dX9_readsPlace_77 : decode cX9_readsPlace 77 = .ok (.ldc 163, 2) := by decide +kernel
theorem dX9_readsPlace_79 : decode cX9_readsPlace 79 = .ok (.iastore, 1) := by decide +kernel
theorem dX9_readsPlace_80 : decode cX9_readsPlace 80 = .ok (.aload_n 0, 1) := by decide +kernel
theorem dX9_readsPlace_81 : decode cX9_readsPlace 81 = .ok (.getfield 31, 3) := by decide +kernel
theorem dX9_readsPlace_84 : decode cX9_readsPlace 84 = .ok (.iload_n 2, 1) := by decide +kernel
theorem dX9_readsPlace_85 : decode cX9_readsPlace 85 = .ok (.iconst 0, 1) := by decide +kernel
theorem dX9_readsPlace_86 : decode cX9_readsPlace 86 = .ok (.iastore, 1) := by decide +kernel
theorem dX9_readsPlace_87 : decode cX9_readsPlace 87 = .ok (.aload_n 0, 1) := by decide +kernel
theorem dX9_readsPlace_88 : decode cX9_readsPlace 88 = .ok (.getfield 34, 3) := by decide +kernel
theorem dX9_readsPlace_91 : decode cX9_readsPlace 91 = .ok (.iload_n 2, 1) := by decide +kernel
theorem dX9_readsPlace_92 : decode cX9_readsPlace 92 = .ok (.aload_n 0, 1) := by decide +kernel
theorem dX9_readsPlace_93 : decode cX9_readsPlace 93 = .ok (.getfield 160, 3) := by decide +kernel
theorem dX9_readsPlace_96 : decode cX9_readsPlace 96 = .ok (.ifCond .ne 8, 3) := by decide +kernel
theorem dX9_readsPlace_99 : decode cX9_readsPlace 99 = .ok (.ldc 163, 2) := by decide +kernel
theorem dX9_readsPlace_101 : decode cX9_readsPlace 101 = .ok (.goto 17, 3) := by decide +kernel
theorem dX9_readsPlace_104 : decode cX9_readsPlace 104 = .ok (.aload_n 0, 1) := by decide +kernel
theorem dX9_readsPlace_105 : decode cX9_readsPlace 105 = .ok (.getfield 64, 3) := by decide +kernel
theorem dX9_readsPlace_108 : decode cX9_readsPlace 108 = .ok (.aload_n 0, 1) := by decide +kernel
theorem dX9_readsPlace_109 : decode cX9_readsPlace 109 = .ok (.getfield 160, 3) := by decide +kernel
theorem dX9_readsPlace_112 : decode cX9_readsPlace 112 = .ok (.iconst 1, 1) := by decide +kernel
theorem dX9_readsPlace_113 : decode cX9_readsPlace 113 = .ok (.isub, 1) := by decide +kernel
theorem dX9_readsPlace_114 : decode cX9_readsPlace 114 = .ok (.iaload, 1) := by decide +kernel
theorem dX9_readsPlace_115 : decode cX9_readsPlace 115 = .ok (.bipush 60, 2) := by decide +kernel
theorem dX9_readsPlace_117 : decode cX9_readsPlace 117 = .ok (.isub, 1) := by decide +kernel
theorem dX9_readsPlace_118 : decode cX9_readsPlace 118 = .ok (.iastore, 1) := by decide +kernel
theorem dX9_readsPlace_119 : decode cX9_readsPlace 119 = .ok (.aload_n 0, 1) := by decide +kernel
theorem dX9_readsPlace_120 : decode cX9_readsPlace 120 = .ok (.getfield 37, 3) := by decide +kernel
theorem dX9_readsPlace_123 : decode cX9_readsPlace 123 = .ok (.iload_n 2, 1) := by decide +kernel
theorem dX9_readsPlace_124 : decode cX9_readsPlace 124 = .ok (.iconst 0, 1) := by decide +kernel
theorem dX9_readsPlace_125 : decode cX9_readsPlace 125 = .ok (.iastore, 1) := by decide +kernel
theorem dX9_readsPlace_126 : decode cX9_readsPlace 126 = .ok (.aload_n 0, 1) := by decide +kernel
theorem dX9_readsPlace_127 : decode cX9_readsPlace 127 = .ok (.getfield 43, 3) := by decide +kernel
theorem dX9_readsPlace_130 : decode cX9_readsPlace 130 = .ok (.iload_n 2, 1) := by decide +kernel
theorem dX9_readsPlace_131 : decode cX9_readsPlace 131 = .ok (.aload_n 0, 1) := by decide +kernel
theorem dX9_readsPlace_132 : decode cX9_readsPlace 132 = .ok (.getfield 160, 3) := by decide +kernel
theorem dX9_readsPlace_135 : decode cX9_readsPlace 135 = .ok (.iastore, 1) := by decide +kernel
theorem dX9_readsPlace_136 : decode cX9_readsPlace 136 = .ok (.aload_n 0, 1) := by decide +kernel
theorem dX9_readsPlace_137 : decode cX9_readsPlace 137 = .ok (.getfield 160, 3) := by decide +kernel
theorem dX9_readsPlace_140 : decode cX9_readsPlace 140 = .ok (.ifCond .le 73, 3) := by decide +kernel
theorem dX9_readsPlace_143 : decode cX9_readsPlace 143 = .ok (.aload_n 0, 1) := by decide +kernel
theorem dX9_readsPlace_144 : decode cX9_readsPlace 144 = .ok (.getfield 64, 3) := by decide +kernel
theorem dX9_readsPlace_147 : decode cX9_readsPlace 147 = .ok (.aload_n 0, 1) := by decide +kernel
theorem dX9_readsPlace_148 : decode cX9_readsPlace 148 = .ok (.getfield 160, 3) := by decide +kernel
theorem dX9_readsPlace_151 : decode cX9_readsPlace 151 = .ok (.iconst 1, 1) := by decide +kernel
theorem dX9_readsPlace_152 : decode cX9_readsPlace 152 = .ok (.isub, 1) := by decide +kernel
theorem dX9_readsPlace_153 : decode cX9_readsPlace 153 = .ok (.iaload, 1) := by decide +kernel
theorem dX9_readsPlace_154 : decode cX9_readsPlace 154 = .ok (.istore_n 3, 1) := by decide +kernel
theorem dX9_readsPlace_155 : decode cX9_readsPlace 155 = .ok (.aload_n 0, 1) := by decide +kernel
theorem dX9_readsPlace_156 : decode cX9_readsPlace 156 = .ok (.getfield 37, 3) := by decide +kernel
theorem dX9_readsPlace_159 : decode cX9_readsPlace 159 = .ok (.iload_n 2, 1) := by decide +kernel
theorem dX9_readsPlace_160 : decode cX9_readsPlace 160 = .ok (.aload_n 0, 1) := by decide +kernel
theorem dX9_readsPlace_161 : decode cX9_readsPlace 161 = .ok (.getfield 31, 3) := by decide +kernel
theorem dX9_readsPlace_164 : decode cX9_readsPlace 164 = .ok (.iload_n 3, 1) := by decide +kernel
theorem dX9_readsPlace_165 : decode cX9_readsPlace 165 = .ok (.iaload, 1) := by decide +kernel
theorem dX9_readsPlace_166 : decode cX9_readsPlace 166 = .ok (.aload_n 0, 1) := by decide +kernel
theorem dX9_readsPlace_167 : decode cX9_readsPlace 167 = .ok (.getfield 67, 3) := by decide +kernel
theorem dX9_readsPlace_170 : decode cX9_readsPlace 170 = .ok (.aload_n 0, 1) := by decide +kernel
theorem dX9_readsPlace_171 : decode cX9_readsPlace 171 = .ok (.getfield 160, 3) := by decide +kernel
theorem dX9_readsPlace_174 : decode cX9_readsPlace 174 = .ok (.iconst 1, 1) := by decide +kernel
theorem dX9_readsPlace_175 : decode cX9_readsPlace 175 = .ok (.isub, 1) := by decide +kernel
theorem dX9_readsPlace_176 : decode cX9_readsPlace 176 = .ok (.iaload, 1) := by decide +kernel
theorem dX9_readsPlace_177 : decode cX9_readsPlace 177 = .ok (.isub, 1) := by decide +kernel
theorem dX9_readsPlace_178 : decode cX9_readsPlace 178 = .ok (.iastore, 1) := by decide +kernel
theorem dX9_readsPlace_179 : decode cX9_readsPlace 179 = .ok (.aload_n 0, 1) := by decide +kernel
theorem dX9_readsPlace_180 : decode cX9_readsPlace 180 = .ok (.getfield 46, 3) := by decide +kernel
theorem dX9_readsPlace_183 : decode cX9_readsPlace 183 = .ok (.iconst 4, 1) := by decide +kernel
theorem dX9_readsPlace_184 : decode cX9_readsPlace 184 = .ok (.iload_n 3, 1) := by decide +kernel
theorem dX9_readsPlace_185 : decode cX9_readsPlace 185 = .ok (.imul, 1) := by decide +kernel
theorem dX9_readsPlace_186 : decode cX9_readsPlace 186 = .ok (.aload_n 0, 1) := by decide +kernel
theorem dX9_readsPlace_187 : decode cX9_readsPlace 187 = .ok (.getfield 37, 3) := by decide +kernel
theorem dX9_readsPlace_190 : decode cX9_readsPlace 190 = .ok (.iload_n 2, 1) := by decide +kernel
theorem dX9_readsPlace_191 : decode cX9_readsPlace 191 = .ok (.iaload, 1) := by decide +kernel
theorem dX9_readsPlace_192 : decode cX9_readsPlace 192 = .ok (.iadd, 1) := by decide +kernel
theorem dX9_readsPlace_193 : decode cX9_readsPlace 193 = .ok (.iload_n 2, 1) := by decide +kernel
theorem dX9_readsPlace_194 : decode cX9_readsPlace 194 = .ok (.bipush 60, 2) := by decide +kernel
theorem dX9_readsPlace_196 : decode cX9_readsPlace 196 = .ok (.isub, 1) := by decide +kernel
theorem dX9_readsPlace_197 : decode cX9_readsPlace 197 = .ok (.iastore, 1) := by decide +kernel
theorem dX9_readsPlace_198 : decode cX9_readsPlace 198 = .ok (.aload_n 0, 1) := by decide +kernel
theorem dX9_readsPlace_199 : decode cX9_readsPlace 199 = .ok (.getfield 67, 3) := by decide +kernel
theorem dX9_readsPlace_202 : decode cX9_readsPlace 202 = .ok (.aload_n 0, 1) := by decide +kernel
theorem dX9_readsPlace_203 : decode cX9_readsPlace 203 = .ok (.getfield 160, 3) := by decide +kernel
theorem dX9_readsPlace_206 : decode cX9_readsPlace 206 = .ok (.iconst 1, 1) := by decide +kernel
theorem dX9_readsPlace_207 : decode cX9_readsPlace 207 = .ok (.isub, 1) := by decide +kernel
theorem dX9_readsPlace_208 : decode cX9_readsPlace 208 = .ok (.dup2, 1) := by decide +kernel
theorem dX9_readsPlace_209 : decode cX9_readsPlace 209 = .ok (.iaload, 1) := by decide +kernel
theorem dX9_readsPlace_210 : decode cX9_readsPlace 210 = .ok (.iconst 1, 1) := by decide +kernel
theorem dX9_readsPlace_211 : decode cX9_readsPlace 211 = .ok (.isub, 1) := by decide +kernel
theorem dX9_readsPlace_212 : decode cX9_readsPlace 212 = .ok (.iastore, 1) := by decide +kernel
theorem dX9_readsPlace_213 : decode cX9_readsPlace 213 = .ok (.aload_n 0, 1) := by decide +kernel
theorem dX9_readsPlace_214 : decode cX9_readsPlace 214 = .ok (.invokevirtual 150, 3) := by decide +kernel
theorem dX9_readsPlace_217 : decode cX9_readsPlace 217 = .ok (.aload_n 0, 1) := by decide +kernel
theorem dX9_readsPlace_218 : decode cX9_readsPlace 218 = .ok (.getfield 132, 3) := by decide +kernel
theorem dX9_readsPlace_221 : decode cX9_readsPlace 221 = .ok (.iconst 2, 1) := by decide +kernel
theorem dX9_readsPlace_222 : decode cX9_readsPlace 222 = .ok (.if_icmp .eq 5, 3) := by decide +kernel
theorem dX9_readsPlace_225 : decode cX9_readsPlace 225 = .ok (.iconst 1, 1) := by decide +kernel
theorem dX9_readsPlace_226 : decode cX9_readsPlace 226 = .ok (.ireturn, 1) := by decide +kernel
theorem dX9_readsPlace_227 : decode cX9_readsPlace 227 = .ok (.iload_n 1, 1) := by decide +kernel
theorem dX9_readsPlace_228 : decode cX9_readsPlace 228 = .ok (.ifCond .ne 15, 3) := by decide +kernel
theorem dX9_readsPlace_231 : decode cX9_readsPlace 231 = .ok (.aload_n 0, 1) := by decide +kernel
theorem dX9_readsPlace_232 : decode cX9_readsPlace 232 = .ok (.getfield 25, 3) := by decide +kernel
theorem dX9_readsPlace_235 : decode cX9_readsPlace 235 = .ok (.iload_n 2, 1) := by decide +kernel
theorem dX9_readsPlace_236 : decode cX9_readsPlace 236 = .ok (.aload_n 0, 1) := by decide +kernel
theorem dX9_readsPlace_237 : decode cX9_readsPlace 237 = .ok (.getfield 143, 3) := by decide +kernel
theorem dX9_readsPlace_240 : decode cX9_readsPlace 240 = .ok (.iastore, 1) := by decide +kernel
theorem dX9_readsPlace_241 : decode cX9_readsPlace 241 = .ok (.iconst 0, 1) := by decide +kernel
theorem dX9_readsPlace_242 : decode cX9_readsPlace 242 = .ok (.ireturn, 1) := by decide +kernel
theorem dX9_readsPlace_243 : decode cX9_readsPlace 243 = .ok (.iload_n 1, 1) := by decide +kernel
theorem dX9_readsPlace_244 : decode cX9_readsPlace 244 = .ok (.iconst 1, 1) := by decide +kernel
theorem dX9_readsPlace_245 : decode cX9_readsPlace 245 = .ok (.if_icmp .ne 11, 3) := by decide +kernel
theorem dX9_readsPlace_248 : decode cX9_readsPlace 248 = .ok (.aload_n 0, 1) := by decide +kernel
theorem dX9_readsPlace_249 : decode cX9_readsPlace 249 = .ok (.iload_n 2, 1) := by decide +kernel
theorem dX9_readsPlace_250 : decode cX9_readsPlace 250 = .ok (.invokevirtual 164, 3) := by decide +kernel
theorem dX9_readsPlace_253 : decode cX9_readsPlace 253 = .ok (.goto 11, 3) := by decide +kernel
theorem dX9_readsPlace_256 : decode cX9_readsPlace 256 = .ok (.aload_n 0, 1) := by decide +kernel
theorem dX9_readsPlace_257 : decode cX9_readsPlace 257 = .ok (.iload_n 2, 1) := by decide +kernel
theorem dX9_readsPlace_258 : decode cX9_readsPlace 258 = .ok (.iload_n 1, 1) := by decide +kernel
theorem dX9_readsPlace_259 : decode cX9_readsPlace 259 = .ok (.iconst 2, 1) := by decide +kernel
theorem dX9_readsPlace_260 : decode cX9_readsPlace 260 = .ok (.isub, 1) := by decide +kernel
theorem dX9_readsPlace_261 : decode cX9_readsPlace 261 = .ok (.invokevirtual 168, 3) := by decide +kernel
theorem dX9_readsPlace_264 : decode cX9_readsPlace 264 = .ok (.istore_n 3, 1) := by decide +kernel
theorem dX9_readsPlace_265 : decode cX9_readsPlace 265 = .ok (.iload_n 3, 1) := by decide +kernel
theorem dX9_readsPlace_266 : decode cX9_readsPlace 266 = .ok (.ifCond .ne 48, 3) := by decide +kernel
theorem dX9_readsPlace_269 : decode cX9_readsPlace 269 = .ok (.aload_n 0, 1) := by decide +kernel
theorem dX9_readsPlace_270 : decode cX9_readsPlace 270 = .ok (.getfield 64, 3) := by decide +kernel
theorem dX9_readsPlace_273 : decode cX9_readsPlace 273 = .ok (.aload_n 0, 1) := by decide +kernel
theorem dX9_readsPlace_274 : decode cX9_readsPlace 274 = .ok (.getfield 160, 3) := by decide +kernel
theorem dX9_readsPlace_277 : decode cX9_readsPlace 277 = .ok (.iload_n 2, 1) := by decide +kernel
theorem dX9_readsPlace_278 : decode cX9_readsPlace 278 = .ok (.iastore, 1) := by decide +kernel
theorem dX9_readsPlace_279 : decode cX9_readsPlace 279 = .ok (.aload_n 0, 1) := by decide +kernel
theorem dX9_readsPlace_280 : decode cX9_readsPlace 280 = .ok (.getfield 67, 3) := by decide +kernel
theorem dX9_readsPlace_283 : decode cX9_readsPlace 283 = .ok (.aload_n 0, 1) := by decide +kernel
theorem dX9_readsPlace_284 : decode cX9_readsPlace 284 = .ok (.getfield 160, 3) := by decide +kernel
theorem dX9_readsPlace_287 : decode cX9_readsPlace 287 = .ok (.aload_n 0, 1) := by decide +kernel
theorem dX9_readsPlace_288 : decode cX9_readsPlace 288 = .ok (.getfield 31, 3) := by decide +kernel
theorem dX9_readsPlace_291 : decode cX9_readsPlace 291 = .ok (.iload_n 2, 1) := by decide +kernel
theorem dX9_readsPlace_292 : decode cX9_readsPlace 292 = .ok (.iaload, 1) := by decide +kernel
theorem dX9_readsPlace_293 : decode cX9_readsPlace 293 = .ok (.iastore, 1) := by decide +kernel
theorem dX9_readsPlace_294 : decode cX9_readsPlace 294 = .ok (.aload_n 0, 1) := by decide +kernel
theorem dX9_readsPlace_295 : decode cX9_readsPlace 295 = .ok (.getfield 70, 3) := by decide +kernel
theorem dX9_readsPlace_298 : decode cX9_readsPlace 298 = .ok (.aload_n 0, 1) := by decide +kernel
theorem dX9_readsPlace_299 : decode cX9_readsPlace 299 = .ok (.getfield 160, 3) := by decide +kernel
theorem dX9_readsPlace_302 : decode cX9_readsPlace 302 = .ok (.iconst 0, 1) := by decide +kernel
theorem dX9_readsPlace_303 : decode cX9_readsPlace 303 = .ok (.iastore, 1) := by decide +kernel
theorem dX9_readsPlace_304 : decode cX9_readsPlace 304 = .ok (.aload_n 0, 1) := by decide +kernel
theorem dX9_readsPlace_305 : decode cX9_readsPlace 305 = .ok (.dup, 1) := by decide +kernel
theorem dX9_readsPlace_306 : decode cX9_readsPlace 306 = .ok (.getfield 160, 3) := by decide +kernel
theorem dX9_readsPlace_309 : decode cX9_readsPlace 309 = .ok (.iconst 1, 1) := by decide +kernel
theorem dX9_readsPlace_310 : decode cX9_readsPlace 310 = .ok (.iadd, 1) := by decide +kernel
theorem dX9_readsPlace_311 : decode cX9_readsPlace 311 = .ok (.putfield 160, 3) := by decide +kernel
theorem dX9_readsPlace_314 : decode cX9_readsPlace 314 = .ok (.iload_n 3, 1) := by decide +kernel
theorem dX9_readsPlace_315 : decode cX9_readsPlace 315 = .ok (.ireturn, 1) := by decide +kernel
def f_HM_readsPlace_b264 (x2 : Int32) (xs0 : Int32) (σ : St) : Option (Int32 × St) :=
  if xs0 = 0 then (ck (ib (rF σ 50) 9) <| lE (stA σ 81 (rF σ 50).toNatClampNeg x2) fun σ3 => ck (ib x2 120) <| ck (ib (rF σ3 50) 9) <| lE (stA σ3 82 (rF σ3 50).toNatClampNeg (rI σ3 70 x2)) fun σ7 => ck (ib (rF σ7 50) 9) <| lE (stA σ7 83 (rF σ7 50).toNatClampNeg 0) fun σ10 => lE (stF σ10 50 ((rF σ10 50) + 1)) fun σ12 => some (xs0, σ12)) else (some (xs0, σ))
set_option maxRecDepth 4000 in
theorem ok_HM_readsPlace_b264 {E : gE} {w : wT} {σ' : St} {r : Int32} (X : gC E w cX9_readsPlace 4 RX9 4) (Y : gQ E w (some .int) (some (.int r)) σ') {x2 : Int32} {xs0 : Int32} (σ : St) (h : f_HM_readsPlace_b264 x2 xs0 σ = some (r, σ')) : gW E w 4 σ 264 [some (.ref (w.1 9)), none, some (.int x2)] [.int xs0] := by
  unfold f_HM_readsPlace_b264 at h
  refine g_istore_n X [some (.ref (w.1 9)), none, some (.int x2), some (.int xs0)] dX9_readsPlace_264 (Nat.le_of_ble_eq_true rfl) rfl rfl rfl ?_
  refine g_iload_n X dX9_readsPlace_265 rfl rfl ?_
  refine g_if_ne X dX9_readsPlace_266 (tgt := 314) rfl rfl (fun c1 => ?_) (fun c1 => ?_)
  · replace h := if_f c1 h
    refine g_iload_n X dX9_readsPlace_314 rfl rfl ?_
    obtain ⟨rfl, rfl⟩ := rt_e h
    exact g_iret X Y dX9_readsPlace_315
  · replace h := if_t c1 h
    refine g_aload_n X dX9_readsPlace_269 rfl rfl ?_
    refine gf_RX9_64 X dX9_readsPlace_270 rfl ?_
    refine g_aload_n X dX9_readsPlace_273 rfl rfl ?_
    refine gf_RX9_160 X dX9_readsPlace_274 rfl ?_
    refine g_iload_n X dX9_readsPlace_277 rfl rfl ?_
    obtain ⟨c2, h⟩ := ck_e h
    refine g_iast X ar_81.1 ar_81.2.1 ar_81.2.2 (ib_e c2) dX9_readsPlace_278 rfl (fun σ3 e4 => ?_)
    replace h := lE_c e4 h
    refine g_aload_n X dX9_readsPlace_279 rfl rfl ?_
    refine gf_RX9_67 X dX9_readsPlace_280 rfl ?_
    refine g_aload_n X dX9_readsPlace_283 rfl rfl ?_
    refine gf_RX9_160 X dX9_readsPlace_284 rfl ?_
    refine g_aload_n X dX9_readsPlace_287 rfl rfl ?_
    refine gf_RX9_31 X dX9_readsPlace_288 rfl ?_
    refine g_iload_n X dX9_readsPlace_291 rfl rfl ?_
    obtain ⟨c5, h⟩ := ck_e h
    refine g_iald X ar_70.1 ar_70.2.1 ar_70.2.2 (ib_e c5) dX9_readsPlace_292 rfl ?_
    obtain ⟨c6, h⟩ := ck_e h
    refine g_iast X ar_82.1 ar_82.2.1 ar_82.2.2 (ib_e c6) dX9_readsPlace_293 rfl (fun σ7 e8 => ?_)
    replace h := lE_c e8 h
    refine g_aload_n X dX9_readsPlace_294 rfl rfl ?_
    refine gf_RX9_70 X dX9_readsPlace_295 rfl ?_
    refine g_aload_n X dX9_readsPlace_298 rfl rfl ?_
    refine gf_RX9_160 X dX9_readsPlace_299 rfl ?_
    refine g_iconst X kI_0 dX9_readsPlace_302 rfl ?_
    obtain ⟨c9, h⟩ := ck_e h
    refine g_iast X ar_83.1 ar_83.2.1 ar_83.2.2 (ib_e c9) dX9_readsPlace_303 rfl (fun σ10 e11 => ?_)
    replace h := lE_c e11 h
    refine g_aload_n X dX9_readsPlace_304 rfl rfl ?_
    refine g_dup X dX9_readsPlace_305 rfl rfl ?_
    refine gf_RX9_160 X dX9_readsPlace_306 rfl ?_
    refine g_iconst X kI_1 dX9_readsPlace_309 rfl ?_
    refine g_iadd X dX9_readsPlace_310 rfl ?_
    refine gp_RX9_160 X dX9_readsPlace_311 rfl (fun σ12 e13 => ?_)
    replace h := lE_c e13 h
    refine g_iload_n X dX9_readsPlace_314 rfl rfl ?_
    obtain ⟨rfl, rfl⟩ := rt_e h
    exact g_iret X Y dX9_readsPlace_315

def f_HM_readsPlace_b213 (x1 : Int32) (x2 : Int32) (σ : St) : Option (Int32 × St) :=
  bv (f_HM_token σ) fun σ2 => if (rF σ2 48) = 2 then (if x1 = 0 then (ck (ib x2 120) <| lE (stA σ2 68 x2.toNatClampNeg (rF σ2 49)) fun σ13 => some (0, σ13)) else (if x1 = 1 then (bd (f_HM_readsDeal x2 σ2) fun r11 σ10 => f_HM_readsPlace_b264 x2 r11 σ10) else (bd (f_HM_readsHeld x2 (x1 - 2) σ2) fun r8 σ7 => f_HM_readsPlace_b264 x2 r8 σ7))) else (some (1, σ2))
set_option maxRecDepth 4000 in
theorem ok_HM_readsPlace_b213 {E : gE} {w : wT} {σ' : St} {r : Int32} (X : gC E w cX9_readsPlace 4 RX9 4) (Y : gQ E w (some .int) (some (.int r)) σ') {x1 : Int32} {x2 : Int32} (σ : St) (h : f_HM_readsPlace_b213 x1 x2 σ = some (r, σ')) : gW E w 4 σ 213 [some (.ref (w.1 9)), some (.int x1), some (.int x2)] [] := by
  unfold f_HM_readsPlace_b213 at h
  refine g_aload_n X dX9_readsPlace_213 rfl rfl ?_
  obtain ⟨σ2, h1, h⟩ := bv_e h
  refine g_callVV X [] (ok_HM_token X.inj h1) my_yX9_token mi_yX9_token ms_yX9_token ml_RX9_150 (by decide) rfl rfl (by decide) rfl dX9_readsPlace_214 (Nat.le_of_ble_eq_true rfl) rfl rfl ?_
  refine g_aload_n X dX9_readsPlace_217 rfl rfl ?_
  refine gf_RX9_132 X dX9_readsPlace_218 rfl ?_
  refine g_iconst X kI_2 dX9_readsPlace_221 rfl ?_
  refine g_icmp_eq X dX9_readsPlace_222 (tgt := 227) rfl rfl (fun c3 => ?_) (fun c3 => ?_)
  · replace h := if_t c3 h
    refine g_iload_n X dX9_readsPlace_227 rfl rfl ?_
    refine g_if_ne X dX9_readsPlace_228 (tgt := 243) rfl rfl (fun c4 => ?_) (fun c4 => ?_)
    · replace h := if_f c4 h
      refine g_iload_n X dX9_readsPlace_243 rfl rfl ?_
      refine g_iconst X kI_1 dX9_readsPlace_244 rfl ?_
      refine g_icmp_ne X dX9_readsPlace_245 (tgt := 256) rfl rfl (fun c5 => ?_) (fun c5 => ?_)
      · replace h := if_f c5 h
        refine g_aload_n X dX9_readsPlace_256 rfl rfl ?_
        refine g_iload_n X dX9_readsPlace_257 rfl rfl ?_
        refine g_iload_n X dX9_readsPlace_258 rfl rfl ?_
        refine g_iconst X kI_2 dX9_readsPlace_259 rfl ?_
        refine g_isub X dX9_readsPlace_260 rfl ?_
        obtain ⟨r8, σ7, h6, h⟩ := bd_e h
        refine g_callVI X [.int x2, .int (x1 - 2)] (ok_HM_readsHeld X.inj h6) my_yX9_readsHeld mi_yX9_readsHeld ms_yX9_readsHeld ml_RX9_168 (by decide) rfl rfl (by decide) rfl dX9_readsPlace_261 (Nat.le_of_ble_eq_true rfl) rfl rfl ?_
        exact g_le (lle_s (lle_k (lle_s (lle_0)))) (ok_HM_readsPlace_b264 X Y σ7 h)
      · replace h := if_t c5 h
        refine g_aload_n X dX9_readsPlace_248 rfl rfl ?_
        refine g_iload_n X dX9_readsPlace_249 rfl rfl ?_
        obtain ⟨r11, σ10, h9, h⟩ := bd_e h
        refine g_callVI X [.int x2] (ok_HM_readsDeal X.inj h9) my_yX9_readsDeal mi_yX9_readsDeal ms_yX9_readsDeal ml_RX9_164 (by decide) rfl rfl (by decide) rfl dX9_readsPlace_250 (Nat.le_of_ble_eq_true rfl) rfl rfl ?_
        refine g_goto X dX9_readsPlace_253 (tgt := 264) rfl ?_
        exact g_le (lle_s (lle_k (lle_s (lle_0)))) (ok_HM_readsPlace_b264 X Y σ10 h)
    · replace h := if_t c4 h
      refine g_aload_n X dX9_readsPlace_231 rfl rfl ?_
      refine gf_RX9_25 X dX9_readsPlace_232 rfl ?_
      refine g_iload_n X dX9_readsPlace_235 rfl rfl ?_
      refine g_aload_n X dX9_readsPlace_236 rfl rfl ?_
      refine gf_RX9_143 X dX9_readsPlace_237 rfl ?_
      obtain ⟨c12, h⟩ := ck_e h
      refine g_iast X ar_68.1 ar_68.2.1 ar_68.2.2 (ib_e c12) dX9_readsPlace_240 rfl (fun σ13 e14 => ?_)
      replace h := lE_c e14 h
      refine g_iconst X kI_0 dX9_readsPlace_241 rfl ?_
      obtain ⟨rfl, rfl⟩ := rt_e h
      exact g_iret X Y dX9_readsPlace_242
  · replace h := if_f c3 h
    refine g_iconst X kI_1 dX9_readsPlace_225 rfl ?_
    obtain ⟨rfl, rfl⟩ := rt_e h
    exact g_iret X Y dX9_readsPlace_226

def f_HM_readsPlace_b118 (x1 : Int32) (x2 : Int32) (xs1 : Int32) (xs2 : Int32) (σ : St) : Option (Int32 × St) :=
  ck (ib xs1 120) <| lE (stA σ 71 xs1.toNatClampNeg xs2) fun σ2 => ck (ib x2 120) <| lE (stA σ2 72 x2.toNatClampNeg 0) fun σ5 => ck (ib x2 120) <| lE (stA σ5 74 x2.toNatClampNeg (rF σ5 50)) fun σ8 => if (rF σ8 50) ≤ 0 then (f_HM_readsPlace_b213 x1 x2 σ8) else (ck (ib ((rF σ8 50) - 1) 9) <| ck (ib (rI σ8 81 ((rF σ8 50) - 1)) 120) <| ck (ib ((rF σ8 50) - 1) 9) <| ck (ib x2 120) <| lE (stA σ8 72 x2.toNatClampNeg ((rI σ8 70 (rI σ8 81 ((rF σ8 50) - 1))) - (rI σ8 82 ((rF σ8 50) - 1)))) fun σ15 => ck (ib x2 120) <| ck (ib ((4 * (rI σ8 81 ((rF σ8 50) - 1))) + (rI σ15 72 x2)) 480) <| lE (stA σ15 75 ((4 * (rI σ8 81 ((rF σ8 50) - 1))) + (rI σ15 72 x2)).toNatClampNeg (x2 - 60)) fun σ19 => ck (ib ((rF σ19 50) - 1) 9) <| ck (ib ((rF σ19 50) - 1) 9) <| lE (stA σ19 82 ((rF σ19 50) - 1).toNatClampNeg ((rI σ19 82 ((rF σ19 50) - 1)) - 1)) fun σ23 => f_HM_readsPlace_b213 x1 x2 σ23)
set_option maxRecDepth 4000 in
theorem ok_HM_readsPlace_b118 {E : gE} {w : wT} {σ' : St} {r : Int32} (X : gC E w cX9_readsPlace 4 RX9 4) (Y : gQ E w (some .int) (some (.int r)) σ') {x1 : Int32} {x2 : Int32} {xs1 : Int32} {xs2 : Int32} (σ : St) (h : f_HM_readsPlace_b118 x1 x2 xs1 xs2 σ = some (r, σ')) : gW E w 4 σ 118 [some (.ref (w.1 9)), some (.int x1), some (.int x2)] [.int xs2, .int xs1, .ref (w.1 71)] := by
  unfold f_HM_readsPlace_b118 at h
  obtain ⟨c1, h⟩ := ck_e h
  refine g_iast X ar_71.1 ar_71.2.1 ar_71.2.2 (ib_e c1) dX9_readsPlace_118 rfl (fun σ2 e3 => ?_)
  replace h := lE_c e3 h
  refine g_aload_n X dX9_readsPlace_119 rfl rfl ?_
  refine gf_RX9_37 X dX9_readsPlace_120 rfl ?_
  refine g_iload_n X dX9_readsPlace_123 rfl rfl ?_
  refine g_iconst X kI_0 dX9_readsPlace_124 rfl ?_
  obtain ⟨c4, h⟩ := ck_e h
  refine g_iast X ar_72.1 ar_72.2.1 ar_72.2.2 (ib_e c4) dX9_readsPlace_125 rfl (fun σ5 e6 => ?_)
  replace h := lE_c e6 h
  refine g_aload_n X dX9_readsPlace_126 rfl rfl ?_
  refine gf_RX9_43 X dX9_readsPlace_127 rfl ?_
  refine g_iload_n X dX9_readsPlace_130 rfl rfl ?_
  refine g_aload_n X dX9_readsPlace_131 rfl rfl ?_
  refine gf_RX9_160 X dX9_readsPlace_132 rfl ?_
  obtain ⟨c7, h⟩ := ck_e h
  refine g_iast X ar_74.1 ar_74.2.1 ar_74.2.2 (ib_e c7) dX9_readsPlace_135 rfl (fun σ8 e9 => ?_)
  replace h := lE_c e9 h
  refine g_aload_n X dX9_readsPlace_136 rfl rfl ?_
  refine gf_RX9_160 X dX9_readsPlace_137 rfl ?_
  refine g_if_le X dX9_readsPlace_140 (tgt := 213) rfl rfl (fun c10 => ?_) (fun c10 => ?_)
  · replace h := if_t c10 h
    exact ok_HM_readsPlace_b213 X Y σ8 h
  · replace h := if_f c10 h
    refine g_aload_n X dX9_readsPlace_143 rfl rfl ?_
    refine gf_RX9_64 X dX9_readsPlace_144 rfl ?_
    refine g_aload_n X dX9_readsPlace_147 rfl rfl ?_
    refine gf_RX9_160 X dX9_readsPlace_148 rfl ?_
    refine g_iconst X kI_1 dX9_readsPlace_151 rfl ?_
    refine g_isub X dX9_readsPlace_152 rfl ?_
    obtain ⟨c11, h⟩ := ck_e h
    refine g_iald X ar_81.1 ar_81.2.1 ar_81.2.2 (ib_e c11) dX9_readsPlace_153 rfl ?_
    refine g_istore_n X [some (.ref (w.1 9)), some (.int x1), some (.int x2), some (.int (rI σ8 81 ((rF σ8 50) - 1)))] dX9_readsPlace_154 (Nat.le_of_ble_eq_true rfl) rfl rfl rfl ?_
    refine g_aload_n X dX9_readsPlace_155 rfl rfl ?_
    refine gf_RX9_37 X dX9_readsPlace_156 rfl ?_
    refine g_iload_n X dX9_readsPlace_159 rfl rfl ?_
    refine g_aload_n X dX9_readsPlace_160 rfl rfl ?_
    refine gf_RX9_31 X dX9_readsPlace_161 rfl ?_
    refine g_iload_n X dX9_readsPlace_164 rfl rfl ?_
    obtain ⟨c12, h⟩ := ck_e h
    refine g_iald X ar_70.1 ar_70.2.1 ar_70.2.2 (ib_e c12) dX9_readsPlace_165 rfl ?_
    refine g_aload_n X dX9_readsPlace_166 rfl rfl ?_
    refine gf_RX9_67 X dX9_readsPlace_167 rfl ?_
    refine g_aload_n X dX9_readsPlace_170 rfl rfl ?_
    refine gf_RX9_160 X dX9_readsPlace_171 rfl ?_
    refine g_iconst X kI_1 dX9_readsPlace_174 rfl ?_
    refine g_isub X dX9_readsPlace_175 rfl ?_
    obtain ⟨c13, h⟩ := ck_e h
    refine g_iald X ar_82.1 ar_82.2.1 ar_82.2.2 (ib_e c13) dX9_readsPlace_176 rfl ?_
    refine g_isub X dX9_readsPlace_177 rfl ?_
    obtain ⟨c14, h⟩ := ck_e h
    refine g_iast X ar_72.1 ar_72.2.1 ar_72.2.2 (ib_e c14) dX9_readsPlace_178 rfl (fun σ15 e16 => ?_)
    replace h := lE_c e16 h
    refine g_aload_n X dX9_readsPlace_179 rfl rfl ?_
    refine gf_RX9_46 X dX9_readsPlace_180 rfl ?_
    refine g_iconst X kI_4 dX9_readsPlace_183 rfl ?_
    refine g_iload_n X dX9_readsPlace_184 rfl rfl ?_
    refine g_imul X dX9_readsPlace_185 rfl ?_
    refine g_aload_n X dX9_readsPlace_186 rfl rfl ?_
    refine gf_RX9_37 X dX9_readsPlace_187 rfl ?_
    refine g_iload_n X dX9_readsPlace_190 rfl rfl ?_
    obtain ⟨c17, h⟩ := ck_e h
    refine g_iald X ar_72.1 ar_72.2.1 ar_72.2.2 (ib_e c17) dX9_readsPlace_191 rfl ?_
    refine g_iadd X dX9_readsPlace_192 rfl ?_
    refine g_iload_n X dX9_readsPlace_193 rfl rfl ?_
    refine g_bipush X kB_60 dX9_readsPlace_194 rfl ?_
    refine g_isub X dX9_readsPlace_196 rfl ?_
    obtain ⟨c18, h⟩ := ck_e h
    refine g_iast X ar_75.1 ar_75.2.1 ar_75.2.2 (ib_e c18) dX9_readsPlace_197 rfl (fun σ19 e20 => ?_)
    replace h := lE_c e20 h
    refine g_aload_n X dX9_readsPlace_198 rfl rfl ?_
    refine gf_RX9_67 X dX9_readsPlace_199 rfl ?_
    refine g_aload_n X dX9_readsPlace_202 rfl rfl ?_
    refine gf_RX9_160 X dX9_readsPlace_203 rfl ?_
    refine g_iconst X kI_1 dX9_readsPlace_206 rfl ?_
    refine g_isub X dX9_readsPlace_207 rfl ?_
    refine g_dup2 X dX9_readsPlace_208 rfl rfl rfl ?_
    obtain ⟨c21, h⟩ := ck_e h
    refine g_iald X ar_82.1 ar_82.2.1 ar_82.2.2 (ib_e c21) dX9_readsPlace_209 rfl ?_
    refine g_iconst X kI_1 dX9_readsPlace_210 rfl ?_
    refine g_isub X dX9_readsPlace_211 rfl ?_
    obtain ⟨c22, h⟩ := ck_e h
    refine g_iast X ar_82.1 ar_82.2.1 ar_82.2.2 (ib_e c22) dX9_readsPlace_212 rfl (fun σ23 e24 => ?_)
    replace h := lE_c e24 h
    exact g_le (lle_s (lle_s (lle_s (lle_0)))) (ok_HM_readsPlace_b213 X Y σ23 h)

def f_HM_readsPlace_b39 (x1 : Int32) (σ : St) : Option (Int32 × St) :=
  lE (stF σ 51 ((rF σ 51) + 1)) fun σ1 => ck (ib (60 + (rF σ 51)) 120) <| lE (stA σ1 67 (60 + (rF σ 51)).toNatClampNeg x1) fun σ4 => ck (ib (60 + (rF σ 51)) 120) <| lE (stA σ4 68 (60 + (rF σ 51)).toNatClampNeg ((-1000000))) fun σ7 => ck (ib (60 + (rF σ 51)) 120) <| lE (stA σ7 69 (60 + (rF σ 51)).toNatClampNeg ((-1000000))) fun σ10 => ck (ib (60 + (rF σ 51)) 120) <| lE (stA σ10 70 (60 + (rF σ 51)).toNatClampNeg 0) fun σ13 => if (rF σ13 50) = 0 then (f_HM_readsPlace_b118 x1 (60 + (rF σ 51)) (60 + (rF σ 51)) ((-1000000)) σ13) else (ck (ib ((rF σ13 50) - 1) 9) <| f_HM_readsPlace_b118 x1 (60 + (rF σ 51)) (60 + (rF σ 51)) ((rI σ13 81 ((rF σ13 50) - 1)) - 60) σ13)
set_option maxRecDepth 4000 in
theorem ok_HM_readsPlace_b39 {E : gE} {w : wT} {σ' : St} {r : Int32} (X : gC E w cX9_readsPlace 4 RX9 4) (Y : gQ E w (some .int) (some (.int r)) σ') {x1 : Int32} (σ : St) (h : f_HM_readsPlace_b39 x1 σ = some (r, σ')) : gW E w 4 σ 39 [some (.ref (w.1 9)), some (.int x1)] [] := by
  unfold f_HM_readsPlace_b39 at h
  refine g_bipush X kB_60 dX9_readsPlace_39 rfl ?_
  refine g_aload_n X dX9_readsPlace_41 rfl rfl ?_
  refine gf_RX9_157 X dX9_readsPlace_42 rfl ?_
  refine g_iadd X dX9_readsPlace_45 rfl ?_
  refine g_istore_n X [some (.ref (w.1 9)), some (.int x1), some (.int (60 + (rF σ 51)))] dX9_readsPlace_46 (Nat.le_of_ble_eq_true rfl) rfl rfl rfl ?_
  refine g_aload_n X dX9_readsPlace_47 rfl rfl ?_
  refine g_dup X dX9_readsPlace_48 rfl rfl ?_
  refine gf_RX9_157 X dX9_readsPlace_49 rfl ?_
  refine g_iconst X kI_1 dX9_readsPlace_52 rfl ?_
  refine g_iadd X dX9_readsPlace_53 rfl ?_
  refine gp_RX9_157 X dX9_readsPlace_54 rfl (fun σ1 e2 => ?_)
  replace h := lE_c e2 h
  refine g_aload_n X dX9_readsPlace_57 rfl rfl ?_
  refine gf_RX9_22 X dX9_readsPlace_58 rfl ?_
  refine g_iload_n X dX9_readsPlace_61 rfl rfl ?_
  refine g_iload_n X dX9_readsPlace_62 rfl rfl ?_
  obtain ⟨c3, h⟩ := ck_e h
  refine g_iast X ar_67.1 ar_67.2.1 ar_67.2.2 (ib_e c3) dX9_readsPlace_63 rfl (fun σ4 e5 => ?_)
  replace h := lE_c e5 h
  refine g_aload_n X dX9_readsPlace_64 rfl rfl ?_
  refine gf_RX9_25 X dX9_readsPlace_65 rfl ?_
  refine g_iload_n X dX9_readsPlace_68 rfl rfl ?_
  refine g_ldc X dX9_readsPlace_69 kc_RX9_163 rfl ?_
  obtain ⟨c6, h⟩ := ck_e h
  refine g_iast X ar_68.1 ar_68.2.1 ar_68.2.2 (ib_e c6) dX9_readsPlace_71 rfl (fun σ7 e8 => ?_)
  replace h := lE_c e8 h
  refine g_aload_n X dX9_readsPlace_72 rfl rfl ?_
  refine gf_RX9_28 X dX9_readsPlace_73 rfl ?_
  refine g_iload_n X dX9_readsPlace_76 rfl rfl ?_
  refine g_ldc X dX9_readsPlace_77 kc_RX9_163 rfl ?_
  obtain ⟨c9, h⟩ := ck_e h
  refine g_iast X ar_69.1 ar_69.2.1 ar_69.2.2 (ib_e c9) dX9_readsPlace_79 rfl (fun σ10 e11 => ?_)
  replace h := lE_c e11 h
  refine g_aload_n X dX9_readsPlace_80 rfl rfl ?_
  refine gf_RX9_31 X dX9_readsPlace_81 rfl ?_
  refine g_iload_n X dX9_readsPlace_84 rfl rfl ?_
  refine g_iconst X kI_0 dX9_readsPlace_85 rfl ?_
  obtain ⟨c12, h⟩ := ck_e h
  refine g_iast X ar_70.1 ar_70.2.1 ar_70.2.2 (ib_e c12) dX9_readsPlace_86 rfl (fun σ13 e14 => ?_)
  replace h := lE_c e14 h
  refine g_aload_n X dX9_readsPlace_87 rfl rfl ?_
  refine gf_RX9_34 X dX9_readsPlace_88 rfl ?_
  refine g_iload_n X dX9_readsPlace_91 rfl rfl ?_
  refine g_aload_n X dX9_readsPlace_92 rfl rfl ?_
  refine gf_RX9_160 X dX9_readsPlace_93 rfl ?_
  refine g_if_ne X dX9_readsPlace_96 (tgt := 104) rfl rfl (fun c15 => ?_) (fun c15 => ?_)
  · replace h := if_f c15 h
    refine g_aload_n X dX9_readsPlace_104 rfl rfl ?_
    refine gf_RX9_64 X dX9_readsPlace_105 rfl ?_
    refine g_aload_n X dX9_readsPlace_108 rfl rfl ?_
    refine gf_RX9_160 X dX9_readsPlace_109 rfl ?_
    refine g_iconst X kI_1 dX9_readsPlace_112 rfl ?_
    refine g_isub X dX9_readsPlace_113 rfl ?_
    obtain ⟨c16, h⟩ := ck_e h
    refine g_iald X ar_81.1 ar_81.2.1 ar_81.2.2 (ib_e c16) dX9_readsPlace_114 rfl ?_
    refine g_bipush X kB_60 dX9_readsPlace_115 rfl ?_
    refine g_isub X dX9_readsPlace_117 rfl ?_
    exact ok_HM_readsPlace_b118 X Y σ13 h
  · replace h := if_t c15 h
    refine g_ldc X dX9_readsPlace_99 kc_RX9_163 rfl ?_
    refine g_goto X dX9_readsPlace_101 (tgt := 118) rfl ?_
    exact ok_HM_readsPlace_b118 X Y σ13 h

def f_HM_readsPlace (σ : St) : Option (Int32 × St) :=
  bv (f_HM_token σ) fun σ2 => bd (f_HM_wordNow σ2) fun r5 σ4 => if 0 ≤ r5 then (if (rF σ4 51) = 60 then (some (3, σ4)) else (if (rF σ4 50) = 8 then (if r5 = 0 then (f_HM_readsPlace_b39 r5 σ4) else (some (3, σ4))) else (f_HM_readsPlace_b39 r5 σ4))) else (some (1, σ4))
set_option maxRecDepth 4000 in
theorem ok_HM_readsPlace {w : wT} (hi : wInj w) {l : Launch} {σ σ' : St} {r : Int32} (h : f_HM_readsPlace σ = some (r, σ')) : gM w l yX9_readsPlace cX9_readsPlace 4 (some .int) 4 [.ref (w.1 9)] σ (some (.int r)) σ' := by
  unfold f_HM_readsPlace at h
  refine gM_of hi (by decide) [some (.ref (w.1 9))] rfl (Nat.le_of_ble_eq_true rfl) (fun E hl X Y => ?_)
  refine g_aload_n X dX9_readsPlace_0 rfl rfl ?_
  obtain ⟨σ2, h1, h⟩ := bv_e h
  refine g_callVV X [] (ok_HM_token X.inj h1) my_yX9_token mi_yX9_token ms_yX9_token ml_RX9_150 (by decide) rfl rfl (by decide) rfl dX9_readsPlace_1 (Nat.le_of_ble_eq_true rfl) rfl rfl ?_
  refine g_aload_n X dX9_readsPlace_4 rfl rfl ?_
  obtain ⟨r5, σ4, h3, h⟩ := bd_e h
  refine g_callVI X [] (ok_HM_wordNow X.inj h3) my_yX9_wordNow mi_yX9_wordNow ms_yX9_wordNow ml_RX9_153 (by decide) rfl rfl (by decide) rfl dX9_readsPlace_5 (Nat.le_of_ble_eq_true rfl) rfl rfl ?_
  refine g_istore_n X [some (.ref (w.1 9)), some (.int r5)] dX9_readsPlace_8 (Nat.le_of_ble_eq_true rfl) rfl rfl rfl ?_
  refine g_iload_n X dX9_readsPlace_9 rfl rfl ?_
  refine g_if_ge X dX9_readsPlace_10 (tgt := 15) rfl rfl (fun c6 => ?_) (fun c6 => ?_)
  · replace h := if_t c6 h
    refine g_aload_n X dX9_readsPlace_15 rfl rfl ?_
    refine gf_RX9_157 X dX9_readsPlace_16 rfl ?_
    refine g_bipush X kB_60 dX9_readsPlace_19 rfl ?_
    refine g_icmp_eq X dX9_readsPlace_21 (tgt := 37) rfl rfl (fun c7 => ?_) (fun c7 => ?_)
    · replace h := if_t c7 h
      refine g_iconst X kI_3 dX9_readsPlace_37 rfl ?_
      obtain ⟨rfl, rfl⟩ := rt_e h
      exact g_iret X Y dX9_readsPlace_38
    · replace h := if_f c7 h
      refine g_aload_n X dX9_readsPlace_24 rfl rfl ?_
      refine gf_RX9_160 X dX9_readsPlace_25 rfl ?_
      refine g_bipush X kB_8 dX9_readsPlace_28 rfl ?_
      refine g_icmp_ne X dX9_readsPlace_30 (tgt := 39) rfl rfl (fun c8 => ?_) (fun c8 => ?_)
      · replace h := if_f c8 h
        exact ok_HM_readsPlace_b39 X Y σ4 h
      · replace h := if_t c8 h
        refine g_iload_n X dX9_readsPlace_33 rfl rfl ?_
        refine g_if_eq X dX9_readsPlace_34 (tgt := 39) rfl rfl (fun c9 => ?_) (fun c9 => ?_)
        · replace h := if_t c9 h
          exact ok_HM_readsPlace_b39 X Y σ4 h
        · replace h := if_f c9 h
          refine g_iconst X kI_3 dX9_readsPlace_37 rfl ?_
          obtain ⟨rfl, rfl⟩ := rt_e h
          exact g_iret X Y dX9_readsPlace_38
  · replace h := if_f c6 h
    refine g_iconst X kI_1 dX9_readsPlace_13 rfl ?_
    obtain ⟨rfl, rfl⟩ := rt_e h
    exact g_iret X Y dX9_readsPlace_14
