theorem dX9_readsAll_0 : decode cX9_readsAll 0 = .ok (.aload_n 0, 1) := by decide +kernel
theorem dX9_readsAll_1 : decode cX9_readsAll 1 = .ok (.iconst 0, 1) := by decide +kernel
theorem dX9_readsAll_2 : decode cX9_readsAll 2 = .ok (.putfield 126, 3) := by decide +kernel
theorem dX9_readsAll_5 : decode cX9_readsAll 5 = .ok (.aload_n 0, 1) := by decide +kernel
theorem dX9_readsAll_6 : decode cX9_readsAll 6 = .ok (.iconst 0, 1) := by decide +kernel
theorem dX9_readsAll_7 : decode cX9_readsAll 7 = .ok (.putfield 160, 3) := by decide +kernel
theorem dX9_readsAll_10 : decode cX9_readsAll 10 = .ok (.aload_n 0, 1) := by decide +kernel
theorem dX9_readsAll_11 : decode cX9_readsAll 11 = .ok (.iconst 0, 1) := by decide +kernel
theorem dX9_readsAll_12 : decode cX9_readsAll 12 = .ok (.putfield 157, 3) := by decide +kernel
theorem dX9_readsAll_15 : decode cX9_readsAll 15 = .ok (.bipush 10, 2) := by decide +kernel
theorem dX9_readsAll_17 : decode cX9_readsAll 17 = .ok (.istore_n 1, 1) := by decide +kernel
theorem dX9_readsAll_18 : decode cX9_readsAll 18 = .ok (.iload_n 1, 1) := by decide +kernel
theorem dX9_readsAll_19 : decode cX9_readsAll 19 = .ok (.bipush 20, 2) := by decide +kernel
theorem dX9_readsAll_21 : decode cX9_readsAll 21 = .ok (.if_icmp .ge 23, 3) := by decide +kernel
theorem dX9_readsAll_24 : decode cX9_readsAll 24 = .ok (.aload_n 0, 1) := by decide +kernel
theorem dX9_readsAll_25 : decode cX9_readsAll 25 = .ok (.getfield 49, 3) := by decide +kernel
theorem dX9_readsAll_28 : decode cX9_readsAll 28 = .ok (.iload_n 1, 1) := by decide +kernel
theorem dX9_readsAll_29 : decode cX9_readsAll 29 = .ok (.iconst (-1), 1) := by decide +kernel
theorem dX9_readsAll_30 : decode cX9_readsAll 30 = .ok (.iastore, 1) := by decide +kernel
theorem dX9_readsAll_31 : decode cX9_readsAll 31 = .ok (.aload_n 0, 1) := by decide +kernel
theorem dX9_readsAll_32 : decode cX9_readsAll 32 = .ok (.getfield 52, 3) := by decide +kernel
theorem dX9_readsAll_35 : decode cX9_readsAll 35 = .ok (.iload_n 1, 1) := by decide +kernel
theorem dX9_readsAll_36 : decode cX9_readsAll 36 = .ok (.iconst 0, 1) := by decide +kernel
theorem dX9_readsAll_37 : decode cX9_readsAll 37 = .ok (.iastore, 1) := by decide +kernel
theorem dX9_readsAll_38 : decode cX9_readsAll 38 = .ok (.iinc 1 1, 3) := by decide +kernel
theorem dX9_readsAll_41 : decode cX9_readsAll 41 = .ok (.goto (-23), 3) := by decide +kernel
theorem dX9_readsAll_44 : decode cX9_readsAll 44 = .ok (.iconst 1, 1) := by decide +kernel
theorem dX9_readsAll_45 : decode cX9_readsAll 45 = .ok (.istore_n 1, 1) := by decide +kernel
theorem dX9_readsAll_46 : decode cX9_readsAll 46 = .ok (.iload_n 1, 1) := by decide +kernel
theorem dX9_readsAll_47 : decode cX9_readsAll 47 = .ok (.ifCond .eq 128, 3) := by decide +kernel
theorem dX9_readsAll_50 : decode cX9_readsAll 50 = .ok (.bipush 12, 2) := by decide +kernel
theorem dX9_readsAll_52 : decode cX9_readsAll 52 = .ok (.istore_n 2, 1) := by decide +kernel
theorem dX9_readsAll_53 : decode cX9_readsAll 53 = .ok (.aload_n 0, 1) := by decide +kernel
theorem dX9_readsAll_54 : decode cX9_readsAll 54 = .ok (.getfield 160, 3) := by decide +kernel
theorem dX9_readsAll_57 : decode cX9_readsAll 57 = .ok (.ifCond .le 39, 3) := by decide +kernel
theorem dX9_readsAll_60 : decode cX9_readsAll 60 = .ok (.aload_n 0, 1) := by decide +kernel
theorem dX9_readsAll_61 : decode cX9_readsAll 61 = .ok (.getfield 22, 3) := by decide +kernel
theorem dX9_readsAll_64 : decode cX9_readsAll 64 = .ok (.aload_n 0, 1) := by decide +kernel
theorem dX9_readsAll_65 : decode cX9_readsAll 65 = .ok (.getfield 64, 3) := by decide +kernel
theorem dX9_readsAll_68 : decode cX9_readsAll 68 = .ok (.aload_n 0, 1) := by decide +kernel
theorem dX9_readsAll_69 : decode cX9_readsAll 69 = .ok (.getfield 160, 3) := by decide +kernel
theorem dX9_readsAll_72 : decode cX9_readsAll 72 = .ok (.iconst 1, 1) := by decide +kernel
theorem dX9_readsAll_73 : decode cX9_readsAll 73 = .ok (.isub, 1) := by decide +kernel
theorem dX9_readsAll_74 : decode cX9_readsAll 74 = .ok (.iaload, 1) := by decide +kernel
theorem dX9_readsAll_75 : decode cX9_readsAll 75 = .ok (.iaload, 1) := by decide +kernel
theorem dX9_readsAll_76 : decode cX9_readsAll 76 = .ok (.iconst 1, 1) := by decide +kernel
theorem dX9_readsAll_77 : decode cX9_readsAll 77 = .ok (.if_icmp .ne 19, 3) := by decide +kernel
theorem dX9_readsAll_80 : decode cX9_readsAll 80 = .ok (.aload_n 0, 1) := by decide +kernel
theorem dX9_readsAll_81 : decode cX9_readsAll 81 = .ok (.invokevirtual 178, 3) := by decide +kernel
theorem dX9_readsAll_84 : decode cX9_readsAll 84 = .ok (.istore_n 3, 1) := by decide +kernel
theorem dX9_readsAll_85 : decode cX9_readsAll 85 = .ok (.iload_n 3, 1) := by decide +kernel
theorem dX9_readsAll_86 : decode cX9_readsAll 86 = .ok (.ifCond .eq 5, 3) := by decide +kernel
theorem dX9_readsAll_89 : decode cX9_readsAll 89 = .ok (.iload_n 3, 1) := by decide +kernel
theorem dX9_readsAll_90 : decode cX9_readsAll 90 = .ok (.ireturn, 1) := by decide +kernel
theorem dX9_readsAll_91 : decode cX9_readsAll 91 = .ok (.aload_n 0, 1) := by decide +kernel
theorem dX9_readsAll_92 : decode cX9_readsAll 92 = .ok (.getfield 143, 3) := by decide +kernel
theorem dX9_readsAll_95 : decode cX9_readsAll 95 = .ok (.istore_n 2, 1) := by decide +kernel
theorem dX9_readsAll_96 : decode cX9_readsAll 96 = .ok (.bipush 60, 2) := by decide +kernel
theorem dX9_readsAll_98 : decode cX9_readsAll 98 = .ok (.aload_n 0, 1) := by decide +kernel
theorem dX9_readsAll_99 : decode cX9_readsAll 99 = .ok (.getfield 157, 3) := by decide +kernel
theorem dX9_readsAll_102 : decode cX9_readsAll 102 = .ok (.iadd, 1) := by decide +kernel
theorem dX9_readsAll_103 : decode cX9_readsAll 103 = .ok (.istore_n 3, 1) := by decide +kernel
theorem dX9_readsAll_104 : decode cX9_readsAll 104 = .ok (.aload_n 0, 1) := by decide +kernel
theorem dX9_readsAll_105 : decode cX9_readsAll 105 = .ok (.invokevirtual 181, 3) := by decide +kernel
theorem dX9_readsAll_108 : decode cX9_readsAll 108 = .ok (.istore 4, 2) := by decide +kernel
theorem dX9_readsAll_110 : decode cX9_readsAll 110 = .ok (.iload 4, 2) := by decide +kernel
theorem dX9_readsAll_112 : decode cX9_readsAll 112 = .ok (.ifCond .eq 6, 3) := by decide +kernel
theorem dX9_readsAll_115 : decode cX9_readsAll 115 = .ok (.iload 4, 2) := by decide +kernel
theorem dX9_readsAll_117 : decode cX9_readsAll 117 = .ok (.ireturn, 1) := by decide +kernel
theorem dX9_readsAll_118 : decode cX9_readsAll 118 = .ok (.aload_n 0, 1) := by decide +kernel
theorem dX9_readsAll_119 : decode cX9_readsAll 119 = .ok (.getfield 40, 3) := by decide +kernel
theorem dX9_readsAll_122 : decode cX9_readsAll 122 = .ok (.iload_n 3, 1) := by decide +kernel
theorem dX9_readsAll_123 : decode cX9_readsAll 123 = .ok (.iload_n 2, 1) := by decide +kernel
theorem dX9_readsAll_124 : decode cX9_readsAll 124 = .ok (.iastore, 1) := by decide +kernel
theorem dX9_readsAll_125 : decode cX9_readsAll 125 = .ok (.aload_n 0, 1) := by decide +kernel
theorem dX9_readsAll_126 : decode cX9_readsAll 126 = .ok (.getfield 160, 3) := by decide +kernel
theorem dX9_readsAll_129 : decode cX9_readsAll 129 = .ok (.ifCond .le 30, 3) := by decide +kernel
theorem dX9_readsAll_132 : decode cX9_readsAll 132 = .ok (.aload_n 0, 1) := by decide +kernel
theorem dX9_readsAll_133 : decode cX9_readsAll 133 = .ok (.getfield 67, 3) := by decide +kernel
theorem dX9_readsAll_136 : decode cX9_readsAll 136 = .ok (.aload_n 0, 1) := by decide +kernel
theorem dX9_readsAll_137 : decode cX9_readsAll 137 = .ok (.getfield 160, 3) := by decide +kernel
theorem dX9_readsAll_140 : decode cX9_readsAll 140 = .ok (.iconst 1, 1) := by decide +kernel
theorem dX9_readsAll_141 : decode cX9_readsAll 141 = .ok (.isub, 1) := by decide +kernel
theorem dX9_readsAll_142 : decode cX9_readsAll 142 = .ok (.iaload, 1) := by decide +kernel
theorem dX9_readsAll_143 : decode cX9_readsAll 143 = .ok (.ifCond .ne 16, 3) := by decide +kernel
theorem dX9_readsAll_146 : decode cX9_readsAll 146 = .ok (.aload_n 0, 1) := by decide +kernel
theorem dX9_readsAll_147 : decode cX9_readsAll 147 = .ok (.dup, 1) := by decide +kernel
theorem dX9_readsAll_148 : decode cX9_readsAll 148 = .ok (.getfield 160, 3) := by decide +kernel
theorem dX9_readsAll_151 : decode cX9_readsAll 151 = .ok (.iconst 1, 1) := by decide +kernel
theorem dX9_readsAll_152 : decode cX9_readsAll 152 = .ok (.isub, 1) := by decide +kernel
theorem dX9_readsAll_153 : decode cX9_readsAll 153 = .ok (.putfield 160, 3) := by decide +kernel
theorem dX9_readsAll_156 : decode cX9_readsAll 156 = .ok (.goto (-31), 3) := by decide +kernel
theorem dX9_readsAll_159 : decode cX9_readsAll 159 = .ok (.aload_n 0, 1) := by decide +kernel
theorem dX9_readsAll_160 : decode cX9_readsAll 160 = .ok (.getfield 160, 3) := by decide +kernel
theorem dX9_readsAll_163 : decode cX9_readsAll 163 = .ok (.ifCond .le 7, 3) := by decide +kernel
theorem dX9_readsAll_166 : decode cX9_readsAll 166 = .ok (.iconst 1, 1) := by decide +kernel
theorem dX9_readsAll_167 : decode cX9_readsAll 167 = .ok (.goto 4, 3) := by decide +kernel
theorem dX9_readsAll_170 : decode cX9_readsAll 170 = .ok (.iconst 0, 1) := by decide +kernel
theorem dX9_readsAll_171 : decode cX9_readsAll 171 = .ok (.istore_n 1, 1) := by decide +kernel
theorem dX9_readsAll_172 : decode cX9_readsAll 172 = .ok (.goto (-126), 3) := by decide +kernel
theorem dX9_readsAll_175 : decode cX9_readsAll 175 = .ok (.aload_n 0, 1) := by decide +kernel
theorem dX9_readsAll_176 : decode cX9_readsAll 176 = .ok (.invokevirtual 150, 3) := by decide +kernel
theorem dX9_readsAll_179 : decode cX9_readsAll 179 = .ok (.aload_n 0, 1) := by decide +kernel
theorem dX9_readsAll_180 : decode cX9_readsAll 180 = .ok (.getfield 132, 3) := by decide +kernel
theorem dX9_readsAll_183 : decode cX9_readsAll 183 = .ok (.iconst 3, 1) := by decide +kernel
theorem dX9_readsAll_184 : decode cX9_readsAll 184 = .ok (.if_icmp .eq 5, 3) := by decide +kernel
theorem dX9_readsAll_187 : decode cX9_readsAll 187 = .ok (.iconst 1, 1) := by decide +kernel
theorem dX9_readsAll_188 : decode cX9_readsAll 188 = .ok (.ireturn, 1) := by decide +kernel
theorem dX9_readsAll_189 : decode cX9_readsAll 189 = .ok (.aload_n 0, 1) := by decide +kernel
theorem dX9_readsAll_190 : decode cX9_readsAll 190 = .ok (.invokevirtual 150, 3) := by decide +kernel
theorem dX9_readsAll_193 : decode cX9_readsAll 193 = .ok (.aload_n 0, 1) := by decide +kernel
theorem dX9_readsAll_194 : decode cX9_readsAll 194 = .ok (.getfield 132, 3) := by decide +kernel
theorem dX9_readsAll_197 : decode cX9_readsAll 197 = .ok (.ifCond .ne 7, 3) := by decide +kernel
theorem dX9_readsAll_200 : decode cX9_readsAll 200 = .ok (.iconst 0, 1) := by decide +kernel
theorem dX9_readsAll_201 : decode cX9_readsAll 201 = .ok (.goto 4, 3) := by decide +kernel
theorem dX9_readsAll_204 : decode cX9_readsAll 204 = .ok (.iconst 1, 1) := by decide +kernel
theorem dX9_readsAll_205 : decode cX9_readsAll 205 = .ok (.ireturn, 1) := by decide +kernel
def f_HM_readsAll_b171 (k46 : Int32 → St → Option (Int32 × St)) (xs0 : Int32) (σ : St) : Option (Int32 × St) :=
  k46 xs0 σ
set_option maxRecDepth 4000 in
theorem ok_HM_readsAll_b171 {E : gE} {w : wT} {σ' : St} {r : Int32} (X : gC E w cX9_readsAll 5 RX9 5) (Y : gQ E w (some .int) (some (.int r)) σ') {k46 : Int32 → St → Option (Int32 × St)} (hk46 : ∀ (x1 : Int32) (σ : St), k46 x1 σ = some (r, σ') → gW E w 5 σ 46 [some (.ref (w.1 9)), some (.int x1)] []) {xs0 : Int32} (σ : St) (h : f_HM_readsAll_b171 k46 xs0 σ = some (r, σ')) : gW E w 5 σ 171 [some (.ref (w.1 9))] [.int xs0] := by
  unfold f_HM_readsAll_b171 at h
  refine g_istore_n X [some (.ref (w.1 9)), some (.int xs0)] dX9_readsAll_171 (Nat.le_of_ble_eq_true rfl) rfl rfl rfl ?_
  refine g_goto X dX9_readsAll_172 (tgt := 46) rfl ?_
  exact hk46 xs0 σ h

def f_HM_readsAll_b159 (k46 : Int32 → St → Option (Int32 × St)) (σ : St) : Option (Int32 × St) :=
  if (rF σ 50) ≤ 0 then (f_HM_readsAll_b171 k46 0 σ) else (f_HM_readsAll_b171 k46 1 σ)
set_option maxRecDepth 4000 in
theorem ok_HM_readsAll_b159 {E : gE} {w : wT} {σ' : St} {r : Int32} (X : gC E w cX9_readsAll 5 RX9 5) (Y : gQ E w (some .int) (some (.int r)) σ') {k46 : Int32 → St → Option (Int32 × St)} (hk46 : ∀ (x1 : Int32) (σ : St), k46 x1 σ = some (r, σ') → gW E w 5 σ 46 [some (.ref (w.1 9)), some (.int x1)] []) (σ : St) (h : f_HM_readsAll_b159 k46 σ = some (r, σ')) : gW E w 5 σ 159 [some (.ref (w.1 9))] [] := by
  unfold f_HM_readsAll_b159 at h
  refine g_aload_n X dX9_readsAll_159 rfl rfl ?_
  refine gf_RX9_160 X dX9_readsAll_160 rfl ?_
  refine g_if_le X dX9_readsAll_163 (tgt := 170) rfl rfl (fun c1 => ?_) (fun c1 => ?_)
  · replace h := if_t c1 h
    refine g_iconst X kI_0 dX9_readsAll_170 rfl ?_
    exact ok_HM_readsAll_b171 X Y hk46 σ h
  · replace h := if_f c1 h
    refine g_iconst X kI_1 dX9_readsAll_166 rfl ?_
    refine g_goto X dX9_readsAll_167 (tgt := 171) rfl ?_
    exact ok_HM_readsAll_b171 X Y hk46 σ h

def f_HM_readsAll_b125 (k46 : Int32 → St → Option (Int32 × St)) (k125 : St → Option (Int32 × St)) (σ : St) : Option (Int32 × St) :=
  if (rF σ 50) ≤ 0 then (f_HM_readsAll_b159 k46 σ) else (ck (ib ((rF σ 50) - 1) 9) <| if (rI σ 82 ((rF σ 50) - 1)) = 0 then (lE (stF σ 50 ((rF σ 50) - 1)) fun σ4 => k125 σ4) else (f_HM_readsAll_b159 k46 σ))
set_option maxRecDepth 4000 in
theorem ok_HM_readsAll_b125 {E : gE} {w : wT} {σ' : St} {r : Int32} (X : gC E w cX9_readsAll 5 RX9 5) (Y : gQ E w (some .int) (some (.int r)) σ') {k46 : Int32 → St → Option (Int32 × St)} (hk46 : ∀ (x1 : Int32) (σ : St), k46 x1 σ = some (r, σ') → gW E w 5 σ 46 [some (.ref (w.1 9)), some (.int x1)] []) {k125 : St → Option (Int32 × St)} (hk125 : ∀ (σ : St), k125 σ = some (r, σ') → gW E w 5 σ 125 [some (.ref (w.1 9))] []) (σ : St) (h : f_HM_readsAll_b125 k46 k125 σ = some (r, σ')) : gW E w 5 σ 125 [some (.ref (w.1 9))] [] := by
  unfold f_HM_readsAll_b125 at h
  refine g_aload_n X dX9_readsAll_125 rfl rfl ?_
  refine gf_RX9_160 X dX9_readsAll_126 rfl ?_
  refine g_if_le X dX9_readsAll_129 (tgt := 159) rfl rfl (fun c1 => ?_) (fun c1 => ?_)
  · replace h := if_t c1 h
    exact ok_HM_readsAll_b159 X Y hk46 σ h
  · replace h := if_f c1 h
    refine g_aload_n X dX9_readsAll_132 rfl rfl ?_
    refine gf_RX9_67 X dX9_readsAll_133 rfl ?_
    refine g_aload_n X dX9_readsAll_136 rfl rfl ?_
    refine gf_RX9_160 X dX9_readsAll_137 rfl ?_
    refine g_iconst X kI_1 dX9_readsAll_140 rfl ?_
    refine g_isub X dX9_readsAll_141 rfl ?_
    obtain ⟨c2, h⟩ := ck_e h
    refine g_iald X ar_82.1 ar_82.2.1 ar_82.2.2 (ib_e c2) dX9_readsAll_142 rfl ?_
    refine g_if_ne X dX9_readsAll_143 (tgt := 159) rfl rfl (fun c3 => ?_) (fun c3 => ?_)
    · replace h := if_f c3 h
      exact ok_HM_readsAll_b159 X Y hk46 σ h
    · replace h := if_t c3 h
      refine g_aload_n X dX9_readsAll_146 rfl rfl ?_
      refine g_dup X dX9_readsAll_147 rfl rfl ?_
      refine gf_RX9_160 X dX9_readsAll_148 rfl ?_
      refine g_iconst X kI_1 dX9_readsAll_151 rfl ?_
      refine g_isub X dX9_readsAll_152 rfl ?_
      refine gp_RX9_160 X dX9_readsAll_153 rfl (fun σ4 e5 => ?_)
      replace h := lE_c e5 h
      refine g_goto X dX9_readsAll_156 (tgt := 125) rfl ?_
      exact hk125 σ4 h
def f_HM_readsAll_l125 (k46 : Int32 → St → Option (Int32 × St)) : St → Option (Int32 × St) := lp (fun _ => none) (f_HM_readsAll_b125 k46) FU
theorem ok_HM_readsAll_l125 {E : gE} {w : wT} {σ' : St} {r : Int32} (X : gC E w cX9_readsAll 5 RX9 5) (Y : gQ E w (some .int) (some (.int r)) σ') {k46 : Int32 → St → Option (Int32 × St)} (hk46 : ∀ (x1 : Int32) (σ : St), k46 x1 σ = some (r, σ') → gW E w 5 σ 46 [some (.ref (w.1 9)), some (.int x1)] []) (σ : St) (h : f_HM_readsAll_l125 k46 σ = some (r, σ')) : gW E w 5 σ 125 [some (.ref (w.1 9))] [] :=
  lp_ind (P := fun (k : St → Option (Int32 × St)) => ∀ (σ : St), k  σ = some (r, σ') → gW E w 5 σ 125 [some (.ref (w.1 9))] []) (fun _ hh => nn hh) (fun k hk  σ  hh => ok_HM_readsAll_b125 X Y hk46 hk σ hh) FU  σ  h

def f_HM_readsAll_b96 (k46 : Int32 → St → Option (Int32 × St)) (x2 : Int32) (σ : St) : Option (Int32 × St) :=
  bd (f_HM_readsPlace σ) fun r3 σ2 => if r3 = 0 then (ck (ib (60 + (rF σ 51)) 120) <| lE (stA σ2 73 (60 + (rF σ 51)).toNatClampNeg x2) fun σ6 => f_HM_readsAll_l125 k46 σ6) else (some (r3, σ2))
set_option maxRecDepth 4000 in
theorem ok_HM_readsAll_b96 {E : gE} {w : wT} {σ' : St} {r : Int32} (X : gC E w cX9_readsAll 5 RX9 5) (Y : gQ E w (some .int) (some (.int r)) σ') {k46 : Int32 → St → Option (Int32 × St)} (hk46 : ∀ (x1 : Int32) (σ : St), k46 x1 σ = some (r, σ') → gW E w 5 σ 46 [some (.ref (w.1 9)), some (.int x1)] []) {x2 : Int32} (σ : St) (h : f_HM_readsAll_b96 k46 x2 σ = some (r, σ')) : gW E w 5 σ 96 [some (.ref (w.1 9)), none, some (.int x2)] [] := by
  unfold f_HM_readsAll_b96 at h
  refine g_bipush X kB_60 dX9_readsAll_96 rfl ?_
  refine g_aload_n X dX9_readsAll_98 rfl rfl ?_
  refine gf_RX9_157 X dX9_readsAll_99 rfl ?_
  refine g_iadd X dX9_readsAll_102 rfl ?_
  refine g_istore_n X [some (.ref (w.1 9)), none, some (.int x2), some (.int (60 + (rF σ 51)))] dX9_readsAll_103 (Nat.le_of_ble_eq_true rfl) rfl rfl rfl ?_
  refine g_aload_n X dX9_readsAll_104 rfl rfl ?_
  obtain ⟨r3, σ2, h1, h⟩ := bd_e h
  refine g_callVI X [] (ok_HM_readsPlace X.inj h1) my_yX9_readsPlace mi_yX9_readsPlace ms_yX9_readsPlace ml_RX9_181 (by decide) rfl rfl (by decide) rfl dX9_readsAll_105 (Nat.le_of_ble_eq_true rfl) rfl rfl ?_
  refine g_istore X [some (.ref (w.1 9)), none, some (.int x2), some (.int (60 + (rF σ 51))), some (.int r3)] dX9_readsAll_108 (Nat.le_of_ble_eq_true rfl) rfl rfl rfl ?_
  refine g_iload X dX9_readsAll_110 rfl rfl ?_
  refine g_if_eq X dX9_readsAll_112 (tgt := 118) rfl rfl (fun c4 => ?_) (fun c4 => ?_)
  · replace h := if_t c4 h
    refine g_aload_n X dX9_readsAll_118 rfl rfl ?_
    refine gf_RX9_40 X dX9_readsAll_119 rfl ?_
    refine g_iload_n X dX9_readsAll_122 rfl rfl ?_
    refine g_iload_n X dX9_readsAll_123 rfl rfl ?_
    obtain ⟨c5, h⟩ := ck_e h
    refine g_iast X ar_73.1 ar_73.2.1 ar_73.2.2 (ib_e c5) dX9_readsAll_124 rfl (fun σ6 e7 => ?_)
    replace h := lE_c e7 h
    exact g_le (lle_s (lle_0)) (ok_HM_readsAll_l125 X Y hk46 σ6 h)
  · replace h := if_f c4 h
    refine g_iload X dX9_readsAll_115 rfl rfl ?_
    obtain ⟨rfl, rfl⟩ := rt_e h
    exact g_iret X Y dX9_readsAll_117

def f_HM_readsAll_b46 (k46 : Int32 → St → Option (Int32 × St)) (x1 : Int32) (σ : St) : Option (Int32 × St) :=
  if x1 = 0 then (bv (f_HM_token σ) fun σ3 => if (rF σ3 48) = 3 then (bv (f_HM_token σ3) fun σ6 => if (rF σ6 48) = 0 then (some (0, σ6)) else (some (1, σ6))) else (some (1, σ3))) else (if (rF σ 50) ≤ 0 then (f_HM_readsAll_b96 k46 12 σ) else (ck (ib ((rF σ 50) - 1) 9) <| ck (ib (rI σ 81 ((rF σ 50) - 1)) 120) <| if (rI σ 67 (rI σ 81 ((rF σ 50) - 1))) = 1 then (bd (f_HM_readsShare σ) fun r14 σ13 => if r14 = 0 then (f_HM_readsAll_b96 k46 (rF σ13 49) σ13) else (some (r14, σ13))) else (f_HM_readsAll_b96 k46 12 σ)))
set_option maxRecDepth 4000 in
theorem ok_HM_readsAll_b46 {E : gE} {w : wT} {σ' : St} {r : Int32} (X : gC E w cX9_readsAll 5 RX9 5) (Y : gQ E w (some .int) (some (.int r)) σ') {k46 : Int32 → St → Option (Int32 × St)} (hk46 : ∀ (x1 : Int32) (σ : St), k46 x1 σ = some (r, σ') → gW E w 5 σ 46 [some (.ref (w.1 9)), some (.int x1)] []) {x1 : Int32} (σ : St) (h : f_HM_readsAll_b46 k46 x1 σ = some (r, σ')) : gW E w 5 σ 46 [some (.ref (w.1 9)), some (.int x1)] [] := by
  unfold f_HM_readsAll_b46 at h
  refine g_iload_n X dX9_readsAll_46 rfl rfl ?_
  refine g_if_eq X dX9_readsAll_47 (tgt := 175) rfl rfl (fun c1 => ?_) (fun c1 => ?_)
  · replace h := if_t c1 h
    refine g_aload_n X dX9_readsAll_175 rfl rfl ?_
    obtain ⟨σ3, h2, h⟩ := bv_e h
    refine g_callVV X [] (ok_HM_token X.inj h2) my_yX9_token mi_yX9_token ms_yX9_token ml_RX9_150 (by decide) rfl rfl (by decide) rfl dX9_readsAll_176 (Nat.le_of_ble_eq_true rfl) rfl rfl ?_
    refine g_aload_n X dX9_readsAll_179 rfl rfl ?_
    refine gf_RX9_132 X dX9_readsAll_180 rfl ?_
    refine g_iconst X kI_3 dX9_readsAll_183 rfl ?_
    refine g_icmp_eq X dX9_readsAll_184 (tgt := 189) rfl rfl (fun c4 => ?_) (fun c4 => ?_)
    · replace h := if_t c4 h
      refine g_aload_n X dX9_readsAll_189 rfl rfl ?_
      obtain ⟨σ6, h5, h⟩ := bv_e h
      refine g_callVV X [] (ok_HM_token X.inj h5) my_yX9_token mi_yX9_token ms_yX9_token ml_RX9_150 (by decide) rfl rfl (by decide) rfl dX9_readsAll_190 (Nat.le_of_ble_eq_true rfl) rfl rfl ?_
      refine g_aload_n X dX9_readsAll_193 rfl rfl ?_
      refine gf_RX9_132 X dX9_readsAll_194 rfl ?_
      refine g_if_ne X dX9_readsAll_197 (tgt := 204) rfl rfl (fun c7 => ?_) (fun c7 => ?_)
      · replace h := if_f c7 h
        refine g_iconst X kI_1 dX9_readsAll_204 rfl ?_
        obtain ⟨rfl, rfl⟩ := rt_e h
        exact g_iret X Y dX9_readsAll_205
      · replace h := if_t c7 h
        refine g_iconst X kI_0 dX9_readsAll_200 rfl ?_
        refine g_goto X dX9_readsAll_201 (tgt := 205) rfl ?_
        obtain ⟨rfl, rfl⟩ := rt_e h
        exact g_iret X Y dX9_readsAll_205
    · replace h := if_f c4 h
      refine g_iconst X kI_1 dX9_readsAll_187 rfl ?_
      obtain ⟨rfl, rfl⟩ := rt_e h
      exact g_iret X Y dX9_readsAll_188
  · replace h := if_f c1 h
    refine g_bipush X kB_12 dX9_readsAll_50 rfl ?_
    refine g_istore_n X [some (.ref (w.1 9)), some (.int x1), some (.int 12)] dX9_readsAll_52 (Nat.le_of_ble_eq_true rfl) rfl rfl rfl ?_
    refine g_aload_n X dX9_readsAll_53 rfl rfl ?_
    refine gf_RX9_160 X dX9_readsAll_54 rfl ?_
    refine g_if_le X dX9_readsAll_57 (tgt := 96) rfl rfl (fun c8 => ?_) (fun c8 => ?_)
    · replace h := if_t c8 h
      exact g_le (lle_s (lle_k (lle_s (lle_0)))) (ok_HM_readsAll_b96 X Y hk46 σ h)
    · replace h := if_f c8 h
      refine g_aload_n X dX9_readsAll_60 rfl rfl ?_
      refine gf_RX9_22 X dX9_readsAll_61 rfl ?_
      refine g_aload_n X dX9_readsAll_64 rfl rfl ?_
      refine gf_RX9_64 X dX9_readsAll_65 rfl ?_
      refine g_aload_n X dX9_readsAll_68 rfl rfl ?_
      refine gf_RX9_160 X dX9_readsAll_69 rfl ?_
      refine g_iconst X kI_1 dX9_readsAll_72 rfl ?_
      refine g_isub X dX9_readsAll_73 rfl ?_
      obtain ⟨c9, h⟩ := ck_e h
      refine g_iald X ar_81.1 ar_81.2.1 ar_81.2.2 (ib_e c9) dX9_readsAll_74 rfl ?_
      obtain ⟨c10, h⟩ := ck_e h
      refine g_iald X ar_67.1 ar_67.2.1 ar_67.2.2 (ib_e c10) dX9_readsAll_75 rfl ?_
      refine g_iconst X kI_1 dX9_readsAll_76 rfl ?_
      refine g_icmp_ne X dX9_readsAll_77 (tgt := 96) rfl rfl (fun c11 => ?_) (fun c11 => ?_)
      · replace h := if_f c11 h
        exact g_le (lle_s (lle_k (lle_s (lle_0)))) (ok_HM_readsAll_b96 X Y hk46 σ h)
      · replace h := if_t c11 h
        refine g_aload_n X dX9_readsAll_80 rfl rfl ?_
        obtain ⟨r14, σ13, h12, h⟩ := bd_e h
        refine g_callVI X [] (ok_HM_readsShare X.inj h12) my_yX9_readsShare mi_yX9_readsShare ms_yX9_readsShare ml_RX9_178 (by decide) rfl rfl (by decide) rfl dX9_readsAll_81 (Nat.le_of_ble_eq_true rfl) rfl rfl ?_
        refine g_istore_n X [some (.ref (w.1 9)), some (.int x1), some (.int 12), some (.int r14)] dX9_readsAll_84 (Nat.le_of_ble_eq_true rfl) rfl rfl rfl ?_
        refine g_iload_n X dX9_readsAll_85 rfl rfl ?_
        refine g_if_eq X dX9_readsAll_86 (tgt := 91) rfl rfl (fun c15 => ?_) (fun c15 => ?_)
        · replace h := if_t c15 h
          refine g_aload_n X dX9_readsAll_91 rfl rfl ?_
          refine gf_RX9_143 X dX9_readsAll_92 rfl ?_
          refine g_istore_n X [some (.ref (w.1 9)), some (.int x1), some (.int (rF σ13 49)), some (.int r14)] dX9_readsAll_95 (Nat.le_of_ble_eq_true rfl) rfl rfl rfl ?_
          exact g_le (lle_s (lle_k (lle_s (lle_0)))) (ok_HM_readsAll_b96 X Y hk46 σ13 h)
        · replace h := if_f c15 h
          refine g_iload_n X dX9_readsAll_89 rfl rfl ?_
          obtain ⟨rfl, rfl⟩ := rt_e h
          exact g_iret X Y dX9_readsAll_90
def f_HM_readsAll_l46 : Int32 → St → Option (Int32 × St) := lp (fun _ _ => none) (f_HM_readsAll_b46) FU
theorem ok_HM_readsAll_l46 {E : gE} {w : wT} {σ' : St} {r : Int32} (X : gC E w cX9_readsAll 5 RX9 5) (Y : gQ E w (some .int) (some (.int r)) σ') {x1 : Int32} (σ : St) (h : f_HM_readsAll_l46 x1 σ = some (r, σ')) : gW E w 5 σ 46 [some (.ref (w.1 9)), some (.int x1)] [] :=
  lp_ind (P := fun (k : Int32 → St → Option (Int32 × St)) => ∀ (x1 : Int32) (σ : St), k x1 σ = some (r, σ') → gW E w 5 σ 46 [some (.ref (w.1 9)), some (.int x1)] []) (fun _ _ hh => nn hh) (fun k hk x1 σ  hh => ok_HM_readsAll_b46 X Y hk σ hh) FU x1 σ  h

def f_HM_readsAll_b18 (k18 : Int32 → St → Option (Int32 × St)) (x1 : Int32) (σ : St) : Option (Int32 × St) :=
  if (20 : Int32) ≤ x1 then (f_HM_readsAll_l46 1 σ) else (ck (ib x1 20) <| lE (stA σ 76 x1.toNatClampNeg ((-1))) fun σ3 => ck (ib x1 20) <| lE (stA σ3 77 x1.toNatClampNeg 0) fun σ6 => k18 (x1 + 1) σ6)
set_option maxRecDepth 4000 in
theorem ok_HM_readsAll_b18 {E : gE} {w : wT} {σ' : St} {r : Int32} (X : gC E w cX9_readsAll 5 RX9 5) (Y : gQ E w (some .int) (some (.int r)) σ') {k18 : Int32 → St → Option (Int32 × St)} (hk18 : ∀ (x1 : Int32) (σ : St), k18 x1 σ = some (r, σ') → gW E w 5 σ 18 [some (.ref (w.1 9)), some (.int x1)] []) {x1 : Int32} (σ : St) (h : f_HM_readsAll_b18 k18 x1 σ = some (r, σ')) : gW E w 5 σ 18 [some (.ref (w.1 9)), some (.int x1)] [] := by
  unfold f_HM_readsAll_b18 at h
  refine g_iload_n X dX9_readsAll_18 rfl rfl ?_
  refine g_bipush X kB_20 dX9_readsAll_19 rfl ?_
  refine g_icmp_ge X dX9_readsAll_21 (tgt := 44) rfl rfl (fun c1 => ?_) (fun c1 => ?_)
  · replace h := if_t c1 h
    refine g_iconst X kI_1 dX9_readsAll_44 rfl ?_
    refine g_istore_n X [some (.ref (w.1 9)), some (.int 1)] dX9_readsAll_45 (Nat.le_of_ble_eq_true rfl) rfl rfl rfl ?_
    exact ok_HM_readsAll_l46 X Y σ h
  · replace h := if_f c1 h
    refine g_aload_n X dX9_readsAll_24 rfl rfl ?_
    refine gf_RX9_49 X dX9_readsAll_25 rfl ?_
    refine g_iload_n X dX9_readsAll_28 rfl rfl ?_
    refine g_iconst X kI_m1 dX9_readsAll_29 rfl ?_
    obtain ⟨c2, h⟩ := ck_e h
    refine g_iast X ar_76.1 ar_76.2.1 ar_76.2.2 (ib_e c2) dX9_readsAll_30 rfl (fun σ3 e4 => ?_)
    replace h := lE_c e4 h
    refine g_aload_n X dX9_readsAll_31 rfl rfl ?_
    refine gf_RX9_52 X dX9_readsAll_32 rfl ?_
    refine g_iload_n X dX9_readsAll_35 rfl rfl ?_
    refine g_iconst X kI_0 dX9_readsAll_36 rfl ?_
    obtain ⟨c5, h⟩ := ck_e h
    refine g_iast X ar_77.1 ar_77.2.1 ar_77.2.2 (ib_e c5) dX9_readsAll_37 rfl (fun σ6 e7 => ?_)
    replace h := lE_c e7 h
    refine g_iinc X [some (.ref (w.1 9)), some (.int (x1 + 1))] dX9_readsAll_38 rfl (ii_1 x1) (Nat.le_of_ble_eq_true rfl) rfl rfl rfl ?_
    refine g_goto X dX9_readsAll_41 (tgt := 18) rfl ?_
    exact hk18 (x1 + 1) σ6 h
def f_HM_readsAll_l18 : Int32 → St → Option (Int32 × St) := lp (fun _ _ => none) (f_HM_readsAll_b18) FU
theorem ok_HM_readsAll_l18 {E : gE} {w : wT} {σ' : St} {r : Int32} (X : gC E w cX9_readsAll 5 RX9 5) (Y : gQ E w (some .int) (some (.int r)) σ') {x1 : Int32} (σ : St) (h : f_HM_readsAll_l18 x1 σ = some (r, σ')) : gW E w 5 σ 18 [some (.ref (w.1 9)), some (.int x1)] [] :=
  lp_ind (P := fun (k : Int32 → St → Option (Int32 × St)) => ∀ (x1 : Int32) (σ : St), k x1 σ = some (r, σ') → gW E w 5 σ 18 [some (.ref (w.1 9)), some (.int x1)] []) (fun _ _ hh => nn hh) (fun k hk x1 σ  hh => ok_HM_readsAll_b18 X Y hk σ hh) FU x1 σ  h

def f_HM_readsAll (σ : St) : Option (Int32 × St) :=
  lE (stF σ 46 0) fun σ1 => lE (stF σ1 50 0) fun σ3 => lE (stF σ3 51 0) fun σ5 => f_HM_readsAll_l18 10 σ5
set_option maxRecDepth 4000 in
theorem ok_HM_readsAll {w : wT} (hi : wInj w) {l : Launch} {σ σ' : St} {r : Int32} (h : f_HM_readsAll σ = some (r, σ')) : gM w l yX9_readsAll cX9_readsAll 5 (some .int) 5 [.ref (w.1 9)] σ (some (.int r)) σ' := by
  unfold f_HM_readsAll at h
  refine gM_of hi (by decide) [some (.ref (w.1 9))] rfl (Nat.le_of_ble_eq_true rfl) (fun E hl X Y => ?_)
  refine g_aload_n X dX9_readsAll_0 rfl rfl ?_
  refine g_iconst X kI_0 dX9_readsAll_1 rfl ?_
  refine gp_RX9_126 X dX9_readsAll_2 rfl (fun σ1 e2 => ?_)
  replace h := lE_c e2 h
  refine g_aload_n X dX9_readsAll_5 rfl rfl ?_
  refine g_iconst X kI_0 dX9_readsAll_6 rfl ?_
  refine gp_RX9_160 X dX9_readsAll_7 rfl (fun σ3 e4 => ?_)
  replace h := lE_c e4 h
  refine g_aload_n X dX9_readsAll_10 rfl rfl ?_
  refine g_iconst X kI_0 dX9_readsAll_11 rfl ?_
  refine gp_RX9_157 X dX9_readsAll_12 rfl (fun σ5 e6 => ?_)
  replace h := lE_c e6 h
  refine g_bipush X kB_10 dX9_readsAll_15 rfl ?_
  refine g_istore_n X [some (.ref (w.1 9)), some (.int 10)] dX9_readsAll_17 (Nat.le_of_ble_eq_true rfl) rfl rfl rfl ?_
  exact ok_HM_readsAll_l18 X Y σ5 h

theorem dX9_game_0 : decode cX9_game 0 = .ok (.aload_n 0, 1) := by decide +kernel
theorem dX9_game_1 : decode cX9_game 1 = .ok (.invokevirtual 184, 3) := by decide +kernel
theorem dX9_game_4 : decode cX9_game 4 = .ok (.istore_n 1, 1) := by decide +kernel
theorem dX9_game_5 : decode cX9_game 5 = .ok (.aload_n 0, 1) := by decide +kernel
theorem dX9_game_6 : decode cX9_game 6 = .ok (.iconst 0, 1) := by decide +kernel
theorem dX9_game_7 : decode cX9_game 7 = .ok (.putfield 119, 3) := by decide +kernel
theorem dX9_game_10 : decode cX9_game 10 = .ok (.iload_n 1, 1) := by decide +kernel
theorem dX9_game_11 : decode cX9_game 11 = .ok (.ifCond .eq 18, 3) := by decide +kernel
theorem dX9_game_14 : decode cX9_game 14 = .ok (.aload_n 0, 1) := by decide +kernel
theorem dX9_game_15 : decode cX9_game 15 = .ok (.iload_n 1, 1) := by decide +kernel
theorem dX9_game_16 : decode cX9_game 16 = .ok (.putfield 187, 3) := by decide +kernel
theorem dX9_game_19 : decode cX9_game 19 = .ok (.ldc2_w 190, 3) := by decide +kernel
theorem dX9_game_22 : decode cX9_game 22 = .ok (.aload_n 0, 1) := by decide +kernel
theorem dX9_game_23 : decode cX9_game 23 = .ok (.getfield 129, 3) := by decide +kernel
theorem dX9_game_26 : decode cX9_game 26 = .ok (.i2l, 1) := by decide +kernel
theorem dX9_game_27 : decode cX9_game 27 = .ok (.lsub, 1) := by decide +kernel
theorem dX9_game_28 : decode cX9_game 28 = .ok (.lreturn, 1) := by decide +kernel
theorem dX9_game_29 : decode cX9_game 29 = .ok (.aload_n 0, 1) := by decide +kernel
theorem dX9_game_30 : decode cX9_game 30 = .ok (.aload_n 0, 1) := by decide +kernel
theorem dX9_game_31 : decode cX9_game 31 = .ok (.getfield 157, 3) := by decide +kernel
theorem dX9_game_34 : decode cX9_game 34 = .ok (.putfield 192, 3) := by decide +kernel
theorem dX9_game_37 : decode cX9_game 37 = .ok (.iconst 0, 1) := by decide +kernel
theorem dX9_game_38 : decode cX9_game 38 = .ok (.istore_n 2, 1) := by decide +kernel
theorem dX9_game_39 : decode cX9_game 39 = .ok (.iload_n 2, 1) := by decide +kernel
theorem dX9_game_40 : decode cX9_game 40 = .ok (.aload_n 0, 1) := by decide +kernel
theorem dX9_game_41 : decode cX9_game 41 = .ok (.getfield 192, 3) := by decide +kernel
theorem dX9_game_44 : decode cX9_game 44 = .ok (.if_icmp .ge 165, 3) := by decide +kernel
theorem dX9_game_47 : decode cX9_game 47 = .ok (.aload_n 0, 1) := by decide +kernel
theorem dX9_game_48 : decode cX9_game 48 = .ok (.getfield 22, 3) := by decide +kernel
theorem dX9_game_51 : decode cX9_game 51 = .ok (.iload_n 2, 1) := by decide +kernel
theorem dX9_game_52 : decode cX9_game 52 = .ok (.aload_n 0, 1) := by decide +kernel
theorem dX9_game_53 : decode cX9_game 53 = .ok (.getfield 22, 3) := by decide +kernel
theorem dX9_game_56 : decode cX9_game 56 = .ok (.bipush 60, 2) := by decide +kernel
theorem dX9_game_58 : decode cX9_game 58 = .ok (.iload_n 2, 1) := by decide +kernel
theorem dX9_game_59 : decode cX9_game 59 = .ok (.iadd, 1) := by decide +kernel
theorem dX9_game_60 : decode cX9_game 60 = .ok (.iaload, 1) := by decide +kernel
theorem dX9_game_61 : decode cX9_game 61 = .ok (.iastore, 1) := by decide +kernel
theorem dX9_game_62 : decode cX9_game 62 = .ok (.aload_n 0, 1) := by decide +kernel
theorem dX9_game_63 : decode cX9_game 63 = .ok (.getfield 25, 3) := by decide +kernel
theorem dX9_game_66 : decode cX9_game 66 = .ok (.iload_n 2, 1) := by decide +kernel
theorem dX9_game_67 : decode cX9_game 67 = .ok (.aload_n 0, 1) := by decide +kernel
theorem dX9_game_68 : decode cX9_game 68 = .ok (.getfield 25, 3) := by decide +kernel
theorem dX9_game_71 : decode cX9_game 71 = .ok (.bipush 60, 2) := by decide +kernel
theorem dX9_game_73 : decode cX9_game 73 = .ok (.iload_n 2, 1) := by decide +kernel
theorem dX9_game_74 : decode cX9_game 74 = .ok (.iadd, 1) := by decide +kernel
theorem dX9_game_75 : decode cX9_game 75 = .ok (.iaload, 1) := by decide +kernel
theorem dX9_game_76 : decode cX9_game 76 = .ok (.iastore, 1) := by decide +kernel
theorem dX9_game_77 : decode cX9_game 77 = .ok (.aload_n 0, 1) := by decide +kernel
theorem dX9_game_78 : decode cX9_game 78 = .ok (.getfield 28, 3) := by decide +kernel
theorem dX9_game_81 : decode cX9_game 81 = .ok (.iload_n 2, 1) := by decide +kernel
theorem dX9_game_82 : decode cX9_game 82 = .ok (.aload_n 0, 1) := by decide +kernel
theorem dX9_game_83 : decode cX9_game 83 = .ok (.getfield 28, 3) := by decide +kernel
theorem dX9_game_86 : decode cX9_game 86 = .ok (.bipush 60, 2) := by decide +kernel
theorem dX9_game_88 : decode cX9_game 88 = .ok (.iload_n 2, 1) := by decide +kernel
theorem dX9_game_89 : decode cX9_game 89 = .ok (.iadd, 1) := by decide +kernel
theorem dX9_game_90 : decode cX9_game 90 = .ok (.iaload, 1) := by decide +kernel
theorem dX9_game_91 : decode cX9_game 91 = .ok (.iastore, 1) := by decide +kernel
theorem dX9_game_92 : decode cX9_game 92 = .ok (.aload_n 0, 1) := by decide +kernel
theorem dX9_game_93 : decode cX9_game 93 = .ok (.getfield 31, 3) := by decide +kernel
theorem dX9_game_96 : decode cX9_game 96 = .ok (.iload_n 2, 1) := by decide +kernel
theorem dX9_game_97 : decode cX9_game 97 = .ok (.aload_n 0, 1) := by decide +kernel
theorem dX9_game_98 : decode cX9_game 98 = .ok (.getfield 31, 3) := by decide +kernel
theorem dX9_game_101 : decode cX9_game 101 = .ok (.bipush 60, 2) := by decide +kernel
theorem dX9_game_103 : decode cX9_game 103 = .ok (.iload_n 2, 1) := by decide +kernel
theorem dX9_game_104 : decode cX9_game 104 = .ok (.iadd, 1) := by decide +kernel
theorem dX9_game_105 : decode cX9_game 105 = .ok (.iaload, 1) := by decide +kernel
theorem dX9_game_106 : decode cX9_game 106 = .ok (.iastore, 1) := by decide +kernel
theorem dX9_game_107 : decode cX9_game 107 = .ok (.aload_n 0, 1) := by decide +kernel
theorem dX9_game_108 : decode cX9_game 108 = .ok (.getfield 34, 3) := by decide +kernel
theorem dX9_game_111 : decode cX9_game 111 = .ok (.iload_n 2, 1) := by decide +kernel
theorem dX9_game_112 : decode cX9_game 112 = .ok (.aload_n 0, 1) := by decide +kernel
theorem dX9_game_113 : decode cX9_game 113 = .ok (.getfield 34, 3) := by decide +kernel
theorem dX9_game_116 : decode cX9_game 116 = .ok (.bipush 60, 2) := by decide +kernel
theorem dX9_game_118 : decode cX9_game 118 = .ok (.iload_n 2, 1) := by decide +kernel
theorem dX9_game_119 : decode cX9_game 119 = .ok (.iadd, 1) := by decide +kernel
theorem dX9_game_120 : decode cX9_game 120 = .ok (.iaload, 1) := by decide +kernel
theorem dX9_game_121 : decode cX9_game 121 = .ok (.iastore, 1) := by decide +kernel
theorem dX9_game_122 : decode cX9_game 122 = .ok (.aload_n 0, 1) := by decide +kernel
theorem dX9_game_123 : decode cX9_game 123 = .ok (.getfield 37, 3) := by decide +kernel
theorem dX9_game_126 : decode cX9_game 126 = .ok (.iload_n 2, 1) := by decide +kernel
theorem dX9_game_127 : decode cX9_game 127 = .ok (.aload_n 0, 1) := by decide +kernel
theorem dX9_game_128 : decode cX9_game 128 = .ok (.getfield 37, 3) := by decide +kernel
theorem dX9_game_131 : decode cX9_game 131 = .ok (.bipush 60, 2) := by decide +kernel
theorem dX9_game_133 : decode cX9_game 133 = .ok (.iload_n 2, 1) := by decide +kernel
theorem dX9_game_134 : decode cX9_game 134 = .ok (.iadd, 1) := by decide +kernel
theorem dX9_game_135 : decode cX9_game 135 = .ok (.iaload, 1) := by decide +kernel
theorem dX9_game_136 : decode cX9_game 136 = .ok (.iastore, 1) := by decide +kernel
theorem dX9_game_137 : decode cX9_game 137 = .ok (.aload_n 0, 1) := by decide +kernel
theorem dX9_game_138 : decode cX9_game 138 = .ok (.getfield 40, 3) := by decide +kernel
theorem dX9_game_141 : decode cX9_game 141 = .ok (.iload_n 2, 1) := by decide +kernel
theorem dX9_game_142 : decode cX9_game 142 = .ok (.aload_n 0, 1) := by decide +kernel
theorem dX9_game_143 : decode cX9_game 143 = .ok (.getfield 40, 3) := by decide +kernel
theorem dX9_game_146 : decode cX9_game 146 = .ok (.bipush 60, 2) := by decide +kernel
theorem dX9_game_148 : decode cX9_game 148 = .ok (.iload_n 2, 1) := by decide +kernel
theorem dX9_game_149 : decode cX9_game 149 = .ok (.iadd, 1) := by decide +kernel
theorem dX9_game_150 : decode cX9_game 150 = .ok (.iaload, 1) := by decide +kernel
theorem dX9_game_151 : decode cX9_game 151 = .ok (.iastore, 1) := by decide +kernel
theorem dX9_game_152 : decode cX9_game 152 = .ok (.aload_n 0, 1) := by decide +kernel
theorem dX9_game_153 : decode cX9_game 153 = .ok (.getfield 43, 3) := by decide +kernel
theorem dX9_game_156 : decode cX9_game 156 = .ok (.iload_n 2, 1) := by decide +kernel
theorem dX9_game_157 : decode cX9_game 157 = .ok (.aload_n 0, 1) := by decide +kernel
theorem dX9_game_158 : decode cX9_game 158 = .ok (.getfield 43, 3) := by decide +kernel
theorem dX9_game_161 : decode cX9_game 161 = .ok (.bipush 60, 2) := by decide +kernel
theorem dX9_game_163 : decode cX9_game 163 = .ok (.iload_n 2, 1) := by decide +kernel
theorem dX9_game_164 : decode cX9_game 164 = .ok (.iadd, 1) := by decide +kernel
theorem dX9_game_165 : decode cX9_game 165 = .ok (.iaload, 1) := by decide +kernel
theorem dX9_game_166 : decode cX9_game 166 = .ok (.iastore, 1) := by decide +kernel
theorem dX9_game_167 : decode cX9_game 167 = .ok (.iconst 0, 1) := by decide +kernel
theorem dX9_game_168 : decode cX9_game 168 = .ok (.istore_n 3, 1) := by decide +kernel
theorem dX9_game_169 : decode cX9_game 169 = .ok (.iload_n 3, 1) := by decide +kernel
theorem dX9_game_170 : decode cX9_game 170 = .ok (.iconst 4, 1) := by decide +kernel
theorem dX9_game_171 : decode cX9_game 171 = .ok (.if_icmp .ge 32, 3) := by decide +kernel
theorem dX9_game_174 : decode cX9_game 174 = .ok (.aload_n 0, 1) := by decide +kernel
theorem dX9_game_175 : decode cX9_game 175 = .ok (.getfield 46, 3) := by decide +kernel
theorem dX9_game_178 : decode cX9_game 178 = .ok (.iconst 4, 1) := by decide +kernel
theorem dX9_game_179 : decode cX9_game 179 = .ok (.iload_n 2, 1) := by decide +kernel
theorem dX9_game_180 : decode cX9_game 180 = .ok (.imul, 1) := by decide +kernel
theorem dX9_game_181 : decode cX9_game 181 = .ok (.iload_n 3, 1) := by decide +kernel
theorem dX9_game_182 : decode cX9_game 182 = .ok (.iadd, 1) := by decide +kernel
theorem dX9_game_183 : decode cX9_game 183 = .ok (.aload_n 0, 1) := by decide +kernel
theorem dX9_game_184 : decode cX9_game 184 = .ok (.getfield 46, 3) := by decide +kernel
theorem dX9_game_187 : decode cX9_game 187 = .ok (.iconst 4, 1) := by decide +kernel
theorem dX9_game_188 : decode cX9_game 188 = .ok (.bipush 60, 2) := by decide +kernel
theorem dX9_game_190 : decode cX9_game 190 = .ok (.iload_n 2, 1) := by decide +kernel
theorem dX9_game_191 : decode cX9_game 191 = .ok (.iadd, 1) := by decide +kernel
theorem dX9_game_192 : decode cX9_game 192 = .ok (.imul, 1) := by decide +kernel
theorem dX9_game_193 : decode cX9_game 193 = .ok (.iload_n 3, 1) := by decide +kernel
theorem dX9_game_194 : decode cX9_game 194 = .ok (.iadd, 1) := by decide +kernel
theorem dX9_game_195 : decode cX9_game 195 = .ok (.iaload, 1) := by decide +kernel
theorem dX9_game_196 : decode cX9_game 196 = .ok (.iastore, 1) := by decide +kernel
theorem dX9_game_197 : decode cX9_game 197 = .ok (.iinc 3 1, 3) := by decide +kernel
theorem dX9_game_200 : decode cX9_game 200 = .ok (.goto (-31), 3) := by decide +kernel
theorem dX9_game_203 : decode cX9_game 203 = .ok (.iinc 2 1, 3) := by decide +kernel
theorem dX9_game_206 : decode cX9_game 206 = .ok (.goto (-167), 3) := by decide +kernel
theorem dX9_game_209 : decode cX9_game 209 = .ok (.iconst 0, 1) := by decide +kernel
theorem dX9_game_210 : decode cX9_game 210 = .ok (.istore_n 2, 1) := by decide +kernel
theorem dX9_game_211 : decode cX9_game 211 = .ok (.iload_n 2, 1) := by decide +kernel
theorem dX9_game_212 : decode cX9_game 212 = .ok (.bipush 10, 2) := by decide +kernel
theorem dX9_game_214 : decode cX9_game 214 = .ok (.if_icmp .ge 71, 3) := by decide +kernel
theorem dX9_game_217 : decode cX9_game 217 = .ok (.aload_n 0, 1) := by decide +kernel
theorem dX9_game_218 : decode cX9_game 218 = .ok (.getfield 49, 3) := by decide +kernel
theorem dX9_game_221 : decode cX9_game 221 = .ok (.iload_n 2, 1) := by decide +kernel
theorem dX9_game_222 : decode cX9_game 222 = .ok (.aload_n 0, 1) := by decide +kernel
theorem dX9_game_223 : decode cX9_game 223 = .ok (.getfield 49, 3) := by decide +kernel
theorem dX9_game_226 : decode cX9_game 226 = .ok (.bipush 10, 2) := by decide +kernel
theorem dX9_game_228 : decode cX9_game 228 = .ok (.iload_n 2, 1) := by decide +kernel
theorem dX9_game_229 : decode cX9_game 229 = .ok (.iadd, 1) := by decide +kernel
theorem dX9_game_230 : decode cX9_game 230 = .ok (.iaload, 1) := by decide +kernel
theorem dX9_game_231 : decode cX9_game 231 = .ok (.iastore, 1) := by decide +kernel
theorem dX9_game_232 : decode cX9_game 232 = .ok (.aload_n 0, 1) := by decide +kernel
theorem dX9_game_233 : decode cX9_game 233 = .ok (.getfield 52, 3) := by decide +kernel
theorem dX9_game_236 : decode cX9_game 236 = .ok (.iload_n 2, 1) := by decide +kernel
theorem dX9_game_237 : decode cX9_game 237 = .ok (.aload_n 0, 1) := by decide +kernel
theorem dX9_game_238 : decode cX9_game 238 = .ok (.getfield 52, 3) := by decide +kernel
theorem dX9_game_241 : decode cX9_game 241 = .ok (.bipush 10, 2) := by decide +kernel
theorem dX9_game_243 : decode cX9_game 243 = .ok (.iload_n 2, 1) := by decide +kernel
theorem dX9_game_244 : decode cX9_game 244 = .ok (.iadd, 1) := by decide +kernel
theorem dX9_game_245 : decode cX9_game 245 = .ok (.iaload, 1) := by decide +kernel
theorem dX9_game_246 : decode cX9_game 246 = .ok (.iastore, 1) := by decide +kernel
theorem dX9_game_247 : decode cX9_game 247 = .ok (.aload_n 0, 1) := by decide +kernel
theorem dX9_game_248 : decode cX9_game 248 = .ok (.getfield 55, 3) := by decide +kernel
theorem dX9_game_251 : decode cX9_game 251 = .ok (.iconst 3, 1) := by decide +kernel
theorem dX9_game_252 : decode cX9_game 252 = .ok (.iload_n 2, 1) := by decide +kernel
theorem dX9_game_253 : decode cX9_game 253 = .ok (.imul, 1) := by decide +kernel
theorem dX9_game_254 : decode cX9_game 254 = .ok (.bipush 12, 2) := by decide +kernel
theorem dX9_game_256 : decode cX9_game 256 = .ok (.iastore, 1) := by decide +kernel
theorem dX9_game_257 : decode cX9_game 257 = .ok (.aload_n 0, 1) := by decide +kernel
theorem dX9_game_258 : decode cX9_game 258 = .ok (.getfield 55, 3) := by decide +kernel
theorem dX9_game_261 : decode cX9_game 261 = .ok (.iconst 3, 1) := by decide +kernel
theorem dX9_game_262 : decode cX9_game 262 = .ok (.iload_n 2, 1) := by decide +kernel
theorem dX9_game_263 : decode cX9_game 263 = .ok (.imul, 1) := by decide +kernel
theorem dX9_game_264 : decode cX9_game 264 = .ok (.iconst 1, 1) := by decide +kernel
theorem dX9_game_265 : decode cX9_game 265 = .ok (.iadd, 1) := by decide +kernel
theorem dX9_game_266 : decode cX9_game 266 = .ok (.iconst 0, 1) := by decide +kernel
theorem dX9_game_267 : decode cX9_game 267 = .ok (.iastore, 1) := by decide +kernel
theorem dX9_game_268 : decode cX9_game 268 = .ok (.aload_n 0, 1) := by decide +kernel
theorem dX9_game_269 : decode cX9_game 269 = .ok (.getfield 55, 3) := by decide +kernel
theorem dX9_game_272 : decode cX9_game 272 = .ok (.iconst 3, 1) := by decide +kernel
theorem dX9_game_273 : decode cX9_game 273 = .ok (.iload_n 2, 1) := by decide +kernel
theorem dX9_game_274 : decode cX9_game 274 = .ok (.imul, 1) := by decide +kernel
theorem dX9_game_275 : decode cX9_game 275 = .ok (.iconst 2, 1) := by decide +kernel
theorem dX9_game_276 : decode cX9_game 276 = .ok (.iadd, 1) := by decide +kernel
theorem dX9_game_277 : decode cX9_game 277 = .ok (.iconst 0, 1) := by decide +kernel
theorem dX9_game_278 : decode cX9_game 278 = .ok (.iastore, 1) := by decide +kernel
theorem dX9_game_279 : decode cX9_game 279 = .ok (.iinc 2 1, 3) := by decide +kernel
theorem dX9_game_282 : decode cX9_game 282 = .ok (.goto (-71), 3) := by decide +kernel
theorem dX9_game_285 : decode cX9_game 285 = .ok (.aload_n 0, 1) := by decide +kernel
theorem dX9_game_286 : decode cX9_game 286 = .ok (.iconst 0, 1) := by decide +kernel
theorem dX9_game_287 : decode cX9_game 287 = .ok (.putfield 195, 3) := by decide +kernel
theorem dX9_game_290 : decode cX9_game 290 = .ok (.aload_n 0, 1) := by decide +kernel
theorem dX9_game_291 : decode cX9_game 291 = .ok (.getfield 192, 3) := by decide +kernel
theorem dX9_game_294 : decode cX9_game 294 = .ok (.i2l, 1) := by decide +kernel
theorem dX9_game_295 : decode cX9_game 295 = .ok (.lreturn, 1) := by decide +kernel
def f_HM_game_b211 (k211 : Int32 → St → Option (Int64 × St)) (x2 : Int32) (σ : St) : Option (Int64 × St) :=
  if (10 : Int32) ≤ x2 then (lE (stF σ 44 0) fun σ2 => some ((rF σ2 43).toInt64, σ2)) else (ck (ib (10 + x2) 20) <| ck (ib x2 20) <| lE (stA σ 76 x2.toNatClampNeg (rI σ 76 (10 + x2))) fun σ6 => ck (ib (10 + x2) 20) <| ck (ib x2 20) <| lE (stA σ6 77 x2.toNatClampNeg (rI σ6 77 (10 + x2))) fun σ10 => ck (ib (3 * x2) 30) <| lE (stA σ10 78 (3 * x2).toNatClampNeg 12) fun σ13 => ck (ib ((3 * x2) + 1) 30) <| lE (stA σ13 78 ((3 * x2) + 1).toNatClampNeg 0) fun σ16 => ck (ib ((3 * x2) + 2) 30) <| lE (stA σ16 78 ((3 * x2) + 2).toNatClampNeg 0) fun σ19 => k211 (x2 + 1) σ19)
set_option maxRecDepth 4000 in
theorem ok_HM_game_b211 {E : gE} {w : wT} {σ' : St} {r : Int64} (X : gC E w cX9_game 4 RX9 6) (Y : gQ E w (some .long) (some (.long r)) σ') {k211 : Int32 → St → Option (Int64 × St)} (hk211 : ∀ (x2 : Int32) (σ : St), k211 x2 σ = some (r, σ') → gW E w 4 σ 211 [some (.ref (w.1 9)), none, some (.int x2)] []) {x2 : Int32} (σ : St) (h : f_HM_game_b211 k211 x2 σ = some (r, σ')) : gW E w 4 σ 211 [some (.ref (w.1 9)), none, some (.int x2)] [] := by
  unfold f_HM_game_b211 at h
  refine g_iload_n X dX9_game_211 rfl rfl ?_
  refine g_bipush X kB_10 dX9_game_212 rfl ?_
  refine g_icmp_ge X dX9_game_214 (tgt := 285) rfl rfl (fun c1 => ?_) (fun c1 => ?_)
  · replace h := if_t c1 h
    refine g_aload_n X dX9_game_285 rfl rfl ?_
    refine g_iconst X kI_0 dX9_game_286 rfl ?_
    refine gp_RX9_195 X dX9_game_287 rfl (fun σ2 e3 => ?_)
    replace h := lE_c e3 h
    refine g_aload_n X dX9_game_290 rfl rfl ?_
    refine gf_RX9_192 X dX9_game_291 rfl ?_
    refine g_i2l X dX9_game_294 rfl ?_
    obtain ⟨rfl, rfl⟩ := rt_e h
    exact g_lret X Y dX9_game_295
  · replace h := if_f c1 h
    refine g_aload_n X dX9_game_217 rfl rfl ?_
    refine gf_RX9_49 X dX9_game_218 rfl ?_
    refine g_iload_n X dX9_game_221 rfl rfl ?_
    refine g_aload_n X dX9_game_222 rfl rfl ?_
    refine gf_RX9_49 X dX9_game_223 rfl ?_
    refine g_bipush X kB_10 dX9_game_226 rfl ?_
    refine g_iload_n X dX9_game_228 rfl rfl ?_
    refine g_iadd X dX9_game_229 rfl ?_
    obtain ⟨c4, h⟩ := ck_e h
    refine g_iald X ar_76.1 ar_76.2.1 ar_76.2.2 (ib_e c4) dX9_game_230 rfl ?_
    obtain ⟨c5, h⟩ := ck_e h
    refine g_iast X ar_76.1 ar_76.2.1 ar_76.2.2 (ib_e c5) dX9_game_231 rfl (fun σ6 e7 => ?_)
    replace h := lE_c e7 h
    refine g_aload_n X dX9_game_232 rfl rfl ?_
    refine gf_RX9_52 X dX9_game_233 rfl ?_
    refine g_iload_n X dX9_game_236 rfl rfl ?_
    refine g_aload_n X dX9_game_237 rfl rfl ?_
    refine gf_RX9_52 X dX9_game_238 rfl ?_
    refine g_bipush X kB_10 dX9_game_241 rfl ?_
    refine g_iload_n X dX9_game_243 rfl rfl ?_
    refine g_iadd X dX9_game_244 rfl ?_
    obtain ⟨c8, h⟩ := ck_e h
    refine g_iald X ar_77.1 ar_77.2.1 ar_77.2.2 (ib_e c8) dX9_game_245 rfl ?_
    obtain ⟨c9, h⟩ := ck_e h
    refine g_iast X ar_77.1 ar_77.2.1 ar_77.2.2 (ib_e c9) dX9_game_246 rfl (fun σ10 e11 => ?_)
    replace h := lE_c e11 h
    refine g_aload_n X dX9_game_247 rfl rfl ?_
    refine gf_RX9_55 X dX9_game_248 rfl ?_
    refine g_iconst X kI_3 dX9_game_251 rfl ?_
    refine g_iload_n X dX9_game_252 rfl rfl ?_
    refine g_imul X dX9_game_253 rfl ?_
    refine g_bipush X kB_12 dX9_game_254 rfl ?_
    obtain ⟨c12, h⟩ := ck_e h
    refine g_iast X ar_78.1 ar_78.2.1 ar_78.2.2 (ib_e c12) dX9_game_256 rfl (fun σ13 e14 => ?_)
    replace h := lE_c e14 h
    refine g_aload_n X dX9_game_257 rfl rfl ?_
    refine gf_RX9_55 X dX9_game_258 rfl ?_
    refine g_iconst X kI_3 dX9_game_261 rfl ?_
    refine g_iload_n X dX9_game_262 rfl rfl ?_
    refine g_imul X dX9_game_263 rfl ?_
    refine g_iconst X kI_1 dX9_game_264 rfl ?_
    refine g_iadd X dX9_game_265 rfl ?_
    refine g_iconst X kI_0 dX9_game_266 rfl ?_
    obtain ⟨c15, h⟩ := ck_e h
    refine g_iast X ar_78.1 ar_78.2.1 ar_78.2.2 (ib_e c15) dX9_game_267 rfl (fun σ16 e17 => ?_)
    replace h := lE_c e17 h
    refine g_aload_n X dX9_game_268 rfl rfl ?_
    refine gf_RX9_55 X dX9_game_269 rfl ?_
    refine g_iconst X kI_3 dX9_game_272 rfl ?_
    refine g_iload_n X dX9_game_273 rfl rfl ?_
    refine g_imul X dX9_game_274 rfl ?_
    refine g_iconst X kI_2 dX9_game_275 rfl ?_
    refine g_iadd X dX9_game_276 rfl ?_
    refine g_iconst X kI_0 dX9_game_277 rfl ?_
    obtain ⟨c18, h⟩ := ck_e h
    refine g_iast X ar_78.1 ar_78.2.1 ar_78.2.2 (ib_e c18) dX9_game_278 rfl (fun σ19 e20 => ?_)
    replace h := lE_c e20 h
    refine g_iinc X [some (.ref (w.1 9)), none, some (.int (x2 + 1))] dX9_game_279 rfl (ii_1 x2) (Nat.le_of_ble_eq_true rfl) rfl rfl rfl ?_
    refine g_goto X dX9_game_282 (tgt := 211) rfl ?_
    exact hk211 (x2 + 1) σ19 h
def f_HM_game_l211 : Int32 → St → Option (Int64 × St) := lp (fun _ _ => none) (f_HM_game_b211) FU
theorem ok_HM_game_l211 {E : gE} {w : wT} {σ' : St} {r : Int64} (X : gC E w cX9_game 4 RX9 6) (Y : gQ E w (some .long) (some (.long r)) σ') {x2 : Int32} (σ : St) (h : f_HM_game_l211 x2 σ = some (r, σ')) : gW E w 4 σ 211 [some (.ref (w.1 9)), none, some (.int x2)] [] :=
  lp_ind (P := fun (k : Int32 → St → Option (Int64 × St)) => ∀ (x2 : Int32) (σ : St), k x2 σ = some (r, σ') → gW E w 4 σ 211 [some (.ref (w.1 9)), none, some (.int x2)] []) (fun _ _ hh => nn hh) (fun k hk x2 σ  hh => ok_HM_game_b211 X Y hk σ hh) FU x2 σ  h

def f_HM_game_b169 (k39 : Int32 → St → Option (Int64 × St)) (k169 : Int32 → Int32 → St → Option (Int64 × St)) (x2 : Int32) (x3 : Int32) (σ : St) : Option (Int64 × St) :=
  if (4 : Int32) ≤ x3 then (k39 (x2 + 1) σ) else (ck (ib ((4 * (60 + x2)) + x3) 480) <| ck (ib ((4 * x2) + x3) 480) <| lE (stA σ 75 ((4 * x2) + x3).toNatClampNeg (rI σ 75 ((4 * (60 + x2)) + x3))) fun σ4 => k169 x2 (x3 + 1) σ4)
set_option maxRecDepth 4000 in
theorem ok_HM_game_b169 {E : gE} {w : wT} {σ' : St} {r : Int64} (X : gC E w cX9_game 4 RX9 6) (Y : gQ E w (some .long) (some (.long r)) σ') {k39 : Int32 → St → Option (Int64 × St)} (hk39 : ∀ (x2 : Int32) (σ : St), k39 x2 σ = some (r, σ') → gW E w 4 σ 39 [some (.ref (w.1 9)), none, some (.int x2)] []) {k169 : Int32 → Int32 → St → Option (Int64 × St)} (hk169 : ∀ (x2 : Int32) (x3 : Int32) (σ : St), k169 x2 x3 σ = some (r, σ') → gW E w 4 σ 169 [some (.ref (w.1 9)), none, some (.int x2), some (.int x3)] []) {x2 : Int32} {x3 : Int32} (σ : St) (h : f_HM_game_b169 k39 k169 x2 x3 σ = some (r, σ')) : gW E w 4 σ 169 [some (.ref (w.1 9)), none, some (.int x2), some (.int x3)] [] := by
  unfold f_HM_game_b169 at h
  refine g_iload_n X dX9_game_169 rfl rfl ?_
  refine g_iconst X kI_4 dX9_game_170 rfl ?_
  refine g_icmp_ge X dX9_game_171 (tgt := 203) rfl rfl (fun c1 => ?_) (fun c1 => ?_)
  · replace h := if_t c1 h
    refine g_iinc X [some (.ref (w.1 9)), none, some (.int (x2 + 1)), some (.int x3)] dX9_game_203 rfl (ii_1 x2) (Nat.le_of_ble_eq_true rfl) rfl rfl rfl ?_
    refine g_goto X dX9_game_206 (tgt := 39) rfl ?_
    exact g_le (lle_s (lle_k (lle_s (lle_0)))) (hk39 (x2 + 1) σ h)
  · replace h := if_f c1 h
    refine g_aload_n X dX9_game_174 rfl rfl ?_
    refine gf_RX9_46 X dX9_game_175 rfl ?_
    refine g_iconst X kI_4 dX9_game_178 rfl ?_
    refine g_iload_n X dX9_game_179 rfl rfl ?_
    refine g_imul X dX9_game_180 rfl ?_
    refine g_iload_n X dX9_game_181 rfl rfl ?_
    refine g_iadd X dX9_game_182 rfl ?_
    refine g_aload_n X dX9_game_183 rfl rfl ?_
    refine gf_RX9_46 X dX9_game_184 rfl ?_
    refine g_iconst X kI_4 dX9_game_187 rfl ?_
    refine g_bipush X kB_60 dX9_game_188 rfl ?_
    refine g_iload_n X dX9_game_190 rfl rfl ?_
    refine g_iadd X dX9_game_191 rfl ?_
    refine g_imul X dX9_game_192 rfl ?_
    refine g_iload_n X dX9_game_193 rfl rfl ?_
    refine g_iadd X dX9_game_194 rfl ?_
    obtain ⟨c2, h⟩ := ck_e h
    refine g_iald X ar_75.1 ar_75.2.1 ar_75.2.2 (ib_e c2) dX9_game_195 rfl ?_
    obtain ⟨c3, h⟩ := ck_e h
    refine g_iast X ar_75.1 ar_75.2.1 ar_75.2.2 (ib_e c3) dX9_game_196 rfl (fun σ4 e5 => ?_)
    replace h := lE_c e5 h
    refine g_iinc X [some (.ref (w.1 9)), none, some (.int x2), some (.int (x3 + 1))] dX9_game_197 rfl (ii_1 x3) (Nat.le_of_ble_eq_true rfl) rfl rfl rfl ?_
    refine g_goto X dX9_game_200 (tgt := 169) rfl ?_
    exact hk169 x2 (x3 + 1) σ4 h
def f_HM_game_l169 (k39 : Int32 → St → Option (Int64 × St)) : Int32 → Int32 → St → Option (Int64 × St) := lp (fun _ _ _ => none) (f_HM_game_b169 k39) FU
theorem ok_HM_game_l169 {E : gE} {w : wT} {σ' : St} {r : Int64} (X : gC E w cX9_game 4 RX9 6) (Y : gQ E w (some .long) (some (.long r)) σ') {k39 : Int32 → St → Option (Int64 × St)} (hk39 : ∀ (x2 : Int32) (σ : St), k39 x2 σ = some (r, σ') → gW E w 4 σ 39 [some (.ref (w.1 9)), none, some (.int x2)] []) {x2 : Int32} {x3 : Int32} (σ : St) (h : f_HM_game_l169 k39 x2 x3 σ = some (r, σ')) : gW E w 4 σ 169 [some (.ref (w.1 9)), none, some (.int x2), some (.int x3)] [] :=
  lp_ind (P := fun (k : Int32 → Int32 → St → Option (Int64 × St)) => ∀ (x2 : Int32) (x3 : Int32) (σ : St), k x2 x3 σ = some (r, σ') → gW E w 4 σ 169 [some (.ref (w.1 9)), none, some (.int x2), some (.int x3)] []) (fun _ _ _ hh => nn hh) (fun k hk x2 x3 σ  hh => ok_HM_game_b169 X Y hk39 hk σ hh) FU x2 x3 σ  h

def f_HM_game_b39 (k39 : Int32 → St → Option (Int64 × St)) (x2 : Int32) (σ : St) : Option (Int64 × St) :=
  if (rF σ 43) ≤ x2 then (f_HM_game_l211 0 σ) else (ck (ib (60 + x2) 120) <| ck (ib x2 120) <| lE (stA σ 67 x2.toNatClampNeg (rI σ 67 (60 + x2))) fun σ4 => ck (ib (60 + x2) 120) <| ck (ib x2 120) <| lE (stA σ4 68 x2.toNatClampNeg (rI σ4 68 (60 + x2))) fun σ8 => ck (ib (60 + x2) 120) <| ck (ib x2 120) <| lE (stA σ8 69 x2.toNatClampNeg (rI σ8 69 (60 + x2))) fun σ12 => ck (ib (60 + x2) 120) <| ck (ib x2 120) <| lE (stA σ12 70 x2.toNatClampNeg (rI σ12 70 (60 + x2))) fun σ16 => ck (ib (60 + x2) 120) <| ck (ib x2 120) <| lE (stA σ16 71 x2.toNatClampNeg (rI σ16 71 (60 + x2))) fun σ20 => ck (ib (60 + x2) 120) <| ck (ib x2 120) <| lE (stA σ20 72 x2.toNatClampNeg (rI σ20 72 (60 + x2))) fun σ24 => ck (ib (60 + x2) 120) <| ck (ib x2 120) <| lE (stA σ24 73 x2.toNatClampNeg (rI σ24 73 (60 + x2))) fun σ28 => ck (ib (60 + x2) 120) <| ck (ib x2 120) <| lE (stA σ28 74 x2.toNatClampNeg (rI σ28 74 (60 + x2))) fun σ32 => f_HM_game_l169 k39 x2 0 σ32)
set_option maxRecDepth 4000 in
theorem ok_HM_game_b39 {E : gE} {w : wT} {σ' : St} {r : Int64} (X : gC E w cX9_game 4 RX9 6) (Y : gQ E w (some .long) (some (.long r)) σ') {k39 : Int32 → St → Option (Int64 × St)} (hk39 : ∀ (x2 : Int32) (σ : St), k39 x2 σ = some (r, σ') → gW E w 4 σ 39 [some (.ref (w.1 9)), none, some (.int x2)] []) {x2 : Int32} (σ : St) (h : f_HM_game_b39 k39 x2 σ = some (r, σ')) : gW E w 4 σ 39 [some (.ref (w.1 9)), none, some (.int x2)] [] := by
  unfold f_HM_game_b39 at h
  refine g_iload_n X dX9_game_39 rfl rfl ?_
  refine g_aload_n X dX9_game_40 rfl rfl ?_
  refine gf_RX9_192 X dX9_game_41 rfl ?_
  refine g_icmp_ge X dX9_game_44 (tgt := 209) rfl rfl (fun c1 => ?_) (fun c1 => ?_)
  · replace h := if_t c1 h
    refine g_iconst X kI_0 dX9_game_209 rfl ?_
    refine g_istore_n X [some (.ref (w.1 9)), none, some (.int 0)] dX9_game_210 (Nat.le_of_ble_eq_true rfl) rfl rfl rfl ?_
    exact ok_HM_game_l211 X Y σ h
  · replace h := if_f c1 h
    refine g_aload_n X dX9_game_47 rfl rfl ?_
    refine gf_RX9_22 X dX9_game_48 rfl ?_
    refine g_iload_n X dX9_game_51 rfl rfl ?_
    refine g_aload_n X dX9_game_52 rfl rfl ?_
    refine gf_RX9_22 X dX9_game_53 rfl ?_
    refine g_bipush X kB_60 dX9_game_56 rfl ?_
    refine g_iload_n X dX9_game_58 rfl rfl ?_
    refine g_iadd X dX9_game_59 rfl ?_
    obtain ⟨c2, h⟩ := ck_e h
    refine g_iald X ar_67.1 ar_67.2.1 ar_67.2.2 (ib_e c2) dX9_game_60 rfl ?_
    obtain ⟨c3, h⟩ := ck_e h
    refine g_iast X ar_67.1 ar_67.2.1 ar_67.2.2 (ib_e c3) dX9_game_61 rfl (fun σ4 e5 => ?_)
    replace h := lE_c e5 h
    refine g_aload_n X dX9_game_62 rfl rfl ?_
    refine gf_RX9_25 X dX9_game_63 rfl ?_
    refine g_iload_n X dX9_game_66 rfl rfl ?_
    refine g_aload_n X dX9_game_67 rfl rfl ?_
    refine gf_RX9_25 X dX9_game_68 rfl ?_
    refine g_bipush X kB_60 dX9_game_71 rfl ?_
    refine g_iload_n X dX9_game_73 rfl rfl ?_
    refine g_iadd X dX9_game_74 rfl ?_
    obtain ⟨c6, h⟩ := ck_e h
    refine g_iald X ar_68.1 ar_68.2.1 ar_68.2.2 (ib_e c6) dX9_game_75 rfl ?_
    obtain ⟨c7, h⟩ := ck_e h
    refine g_iast X ar_68.1 ar_68.2.1 ar_68.2.2 (ib_e c7) dX9_game_76 rfl (fun σ8 e9 => ?_)
    replace h := lE_c e9 h
    refine g_aload_n X dX9_game_77 rfl rfl ?_
    refine gf_RX9_28 X dX9_game_78 rfl ?_
    refine g_iload_n X dX9_game_81 rfl rfl ?_
    refine g_aload_n X dX9_game_82 rfl rfl ?_
    refine gf_RX9_28 X dX9_game_83 rfl ?_
    refine g_bipush X kB_60 dX9_game_86 rfl ?_
    refine g_iload_n X dX9_game_88 rfl rfl ?_
    refine g_iadd X dX9_game_89 rfl ?_
    obtain ⟨c10, h⟩ := ck_e h
    refine g_iald X ar_69.1 ar_69.2.1 ar_69.2.2 (ib_e c10) dX9_game_90 rfl ?_
    obtain ⟨c11, h⟩ := ck_e h
    refine g_iast X ar_69.1 ar_69.2.1 ar_69.2.2 (ib_e c11) dX9_game_91 rfl (fun σ12 e13 => ?_)
    replace h := lE_c e13 h
    refine g_aload_n X dX9_game_92 rfl rfl ?_
    refine gf_RX9_31 X dX9_game_93 rfl ?_
    refine g_iload_n X dX9_game_96 rfl rfl ?_
    refine g_aload_n X dX9_game_97 rfl rfl ?_
    refine gf_RX9_31 X dX9_game_98 rfl ?_
    refine g_bipush X kB_60 dX9_game_101 rfl ?_
    refine g_iload_n X dX9_game_103 rfl rfl ?_
    refine g_iadd X dX9_game_104 rfl ?_
    obtain ⟨c14, h⟩ := ck_e h
    refine g_iald X ar_70.1 ar_70.2.1 ar_70.2.2 (ib_e c14) dX9_game_105 rfl ?_
    obtain ⟨c15, h⟩ := ck_e h
    refine g_iast X ar_70.1 ar_70.2.1 ar_70.2.2 (ib_e c15) dX9_game_106 rfl (fun σ16 e17 => ?_)
    replace h := lE_c e17 h
    refine g_aload_n X dX9_game_107 rfl rfl ?_
    refine gf_RX9_34 X dX9_game_108 rfl ?_
    refine g_iload_n X dX9_game_111 rfl rfl ?_
    refine g_aload_n X dX9_game_112 rfl rfl ?_
    refine gf_RX9_34 X dX9_game_113 rfl ?_
    refine g_bipush X kB_60 dX9_game_116 rfl ?_
    refine g_iload_n X dX9_game_118 rfl rfl ?_
    refine g_iadd X dX9_game_119 rfl ?_
    obtain ⟨c18, h⟩ := ck_e h
    refine g_iald X ar_71.1 ar_71.2.1 ar_71.2.2 (ib_e c18) dX9_game_120 rfl ?_
    obtain ⟨c19, h⟩ := ck_e h
    refine g_iast X ar_71.1 ar_71.2.1 ar_71.2.2 (ib_e c19) dX9_game_121 rfl (fun σ20 e21 => ?_)
    replace h := lE_c e21 h
    refine g_aload_n X dX9_game_122 rfl rfl ?_
    refine gf_RX9_37 X dX9_game_123 rfl ?_
    refine g_iload_n X dX9_game_126 rfl rfl ?_
    refine g_aload_n X dX9_game_127 rfl rfl ?_
    refine gf_RX9_37 X dX9_game_128 rfl ?_
    refine g_bipush X kB_60 dX9_game_131 rfl ?_
    refine g_iload_n X dX9_game_133 rfl rfl ?_
    refine g_iadd X dX9_game_134 rfl ?_
    obtain ⟨c22, h⟩ := ck_e h
    refine g_iald X ar_72.1 ar_72.2.1 ar_72.2.2 (ib_e c22) dX9_game_135 rfl ?_
    obtain ⟨c23, h⟩ := ck_e h
    refine g_iast X ar_72.1 ar_72.2.1 ar_72.2.2 (ib_e c23) dX9_game_136 rfl (fun σ24 e25 => ?_)
    replace h := lE_c e25 h
    refine g_aload_n X dX9_game_137 rfl rfl ?_
    refine gf_RX9_40 X dX9_game_138 rfl ?_
    refine g_iload_n X dX9_game_141 rfl rfl ?_
    refine g_aload_n X dX9_game_142 rfl rfl ?_
    refine gf_RX9_40 X dX9_game_143 rfl ?_
    refine g_bipush X kB_60 dX9_game_146 rfl ?_
    refine g_iload_n X dX9_game_148 rfl rfl ?_
    refine g_iadd X dX9_game_149 rfl ?_
    obtain ⟨c26, h⟩ := ck_e h
    refine g_iald X ar_73.1 ar_73.2.1 ar_73.2.2 (ib_e c26) dX9_game_150 rfl ?_
    obtain ⟨c27, h⟩ := ck_e h
    refine g_iast X ar_73.1 ar_73.2.1 ar_73.2.2 (ib_e c27) dX9_game_151 rfl (fun σ28 e29 => ?_)
    replace h := lE_c e29 h
    refine g_aload_n X dX9_game_152 rfl rfl ?_
    refine gf_RX9_43 X dX9_game_153 rfl ?_
    refine g_iload_n X dX9_game_156 rfl rfl ?_
    refine g_aload_n X dX9_game_157 rfl rfl ?_
    refine gf_RX9_43 X dX9_game_158 rfl ?_
    refine g_bipush X kB_60 dX9_game_161 rfl ?_
    refine g_iload_n X dX9_game_163 rfl rfl ?_
    refine g_iadd X dX9_game_164 rfl ?_
    obtain ⟨c30, h⟩ := ck_e h
    refine g_iald X ar_74.1 ar_74.2.1 ar_74.2.2 (ib_e c30) dX9_game_165 rfl ?_
    obtain ⟨c31, h⟩ := ck_e h
    refine g_iast X ar_74.1 ar_74.2.1 ar_74.2.2 (ib_e c31) dX9_game_166 rfl (fun σ32 e33 => ?_)
    replace h := lE_c e33 h
    refine g_iconst X kI_0 dX9_game_167 rfl ?_
    refine g_istore_n X [some (.ref (w.1 9)), none, some (.int x2), some (.int 0)] dX9_game_168 (Nat.le_of_ble_eq_true rfl) rfl rfl rfl ?_
    exact ok_HM_game_l169 X Y hk39 σ32 h
def f_HM_game_l39 : Int32 → St → Option (Int64 × St) := lp (fun _ _ => none) (f_HM_game_b39) FU
theorem ok_HM_game_l39 {E : gE} {w : wT} {σ' : St} {r : Int64} (X : gC E w cX9_game 4 RX9 6) (Y : gQ E w (some .long) (some (.long r)) σ') {x2 : Int32} (σ : St) (h : f_HM_game_l39 x2 σ = some (r, σ')) : gW E w 4 σ 39 [some (.ref (w.1 9)), none, some (.int x2)] [] :=
  lp_ind (P := fun (k : Int32 → St → Option (Int64 × St)) => ∀ (x2 : Int32) (σ : St), k x2 σ = some (r, σ') → gW E w 4 σ 39 [some (.ref (w.1 9)), none, some (.int x2)] []) (fun _ _ hh => nn hh) (fun k hk x2 σ  hh => ok_HM_game_b39 X Y hk σ hh) FU x2 σ  h

def f_HM_game (σ : St) : Option (Int64 × St) :=
  bd (f_HM_readsAll σ) fun r3 σ2 => lE (stF σ2 41 0) fun σ4 => if r3 = 0 then (lE (stF σ4 43 (rF σ4 51)) fun σ7 => f_HM_game_l39 0 σ7) else (lE (stF σ4 42 r3) fun σ9 => some (((-9000000000000000100)) - ((rF σ9 47).toInt64), σ9))
set_option maxRecDepth 4000 in
theorem ok_HM_game {w : wT} (hi : wInj w) {l : Launch} {σ σ' : St} {r : Int64} (h : f_HM_game σ = some (r, σ')) : gM w l yX9_game cX9_game 4 (some .long) 6 [.ref (w.1 9)] σ (some (.long r)) σ' := by
  unfold f_HM_game at h
  refine gM_of hi (by decide) [some (.ref (w.1 9))] rfl (Nat.le_of_ble_eq_true rfl) (fun E hl X Y => ?_)
  refine g_aload_n X dX9_game_0 rfl rfl ?_
  obtain ⟨r3, σ2, h1, h⟩ := bd_e h
  refine g_callVI X [] (ok_HM_readsAll X.inj h1) my_yX9_readsAll mi_yX9_readsAll ms_yX9_readsAll ml_RX9_184 (by decide) rfl rfl (by decide) rfl dX9_game_1 (Nat.le_of_ble_eq_true rfl) rfl rfl ?_
  refine g_istore_n X [some (.ref (w.1 9)), some (.int r3)] dX9_game_4 (Nat.le_of_ble_eq_true rfl) rfl rfl rfl ?_
  refine g_aload_n X dX9_game_5 rfl rfl ?_
  refine g_iconst X kI_0 dX9_game_6 rfl ?_
  refine gp_RX9_119 X dX9_game_7 rfl (fun σ4 e5 => ?_)
  replace h := lE_c e5 h
  refine g_iload_n X dX9_game_10 rfl rfl ?_
  refine g_if_eq X dX9_game_11 (tgt := 29) rfl rfl (fun c6 => ?_) (fun c6 => ?_)
  · replace h := if_t c6 h
    refine g_aload_n X dX9_game_29 rfl rfl ?_
    refine g_aload_n X dX9_game_30 rfl rfl ?_
    refine gf_RX9_157 X dX9_game_31 rfl ?_
    refine gp_RX9_192 X dX9_game_34 rfl (fun σ7 e8 => ?_)
    replace h := lE_c e8 h
    refine g_iconst X kI_0 dX9_game_37 rfl ?_
    refine g_istore_n X [some (.ref (w.1 9)), some (.int r3), some (.int 0)] dX9_game_38 (Nat.le_of_ble_eq_true rfl) rfl rfl rfl ?_
    exact g_le (lle_s (lle_k (lle_s (lle_0)))) (ok_HM_game_l39 X Y σ7 h)
  · replace h := if_f c6 h
    refine g_aload_n X dX9_game_14 rfl rfl ?_
    refine g_iload_n X dX9_game_15 rfl rfl ?_
    refine gp_RX9_187 X dX9_game_16 rfl (fun σ9 e10 => ?_)
    replace h := lE_c e10 h
    refine g_ldc2 X dX9_game_19 kc_RX9_190 rfl ?_
    refine g_aload_n X dX9_game_22 rfl rfl ?_
    refine gf_RX9_129 X dX9_game_23 rfl ?_
    refine g_i2l X dX9_game_26 rfl ?_
    refine g_lsub X dX9_game_27 rfl ?_
    obtain ⟨rfl, rfl⟩ := rt_e h
    exact g_lret X Y dX9_game_28

theorem dX9_fault_0 : decode cX9_fault 0 = .ok (.aload_n 0, 1) := by decide +kernel
theorem dX9_fault_1 : decode cX9_fault 1 = .ok (.getfield 187, 3) := by decide +kernel
theorem dX9_fault_4 : decode cX9_fault 4 = .ok (.ireturn, 1) := by decide +kernel
def f_HM_fault (σ : St) : Option (Int32 × St) :=
  some (rF σ 42, σ)
set_option maxRecDepth 4000 in
theorem ok_HM_fault {w : wT} (hi : wInj w) {l : Launch} {σ σ' : St} {r : Int32} (h : f_HM_fault σ = some (r, σ')) : gM w l yX9_fault cX9_fault 1 (some .int) 1 [.ref (w.1 9)] σ (some (.int r)) σ' := by
  unfold f_HM_fault at h
  refine gM_of hi (by decide) [some (.ref (w.1 9))] rfl (Nat.le_of_ble_eq_true rfl) (fun E hl X Y => ?_)
  refine g_aload_n X dX9_fault_0 rfl rfl ?_
  refine gf_RX9_187 X dX9_fault_1 rfl ?_
  obtain ⟨rfl, rfl⟩ := rt_e h
  exact g_iret X Y dX9_fault_4

theorem dX9_isPlace_0 : decode cX9_isPlace 0 = .ok (.iload_n 1, 1) := by decide +kernel
theorem dX9_isPlace_1 : decode cX9_isPlace 1 = .ok (.i2l, 1) := by decide +kernel
theorem dX9_isPlace_2 : decode cX9_isPlace 2 = .ok (.lconst 0, 1) := by decide +kernel
theorem dX9_isPlace_3 : decode cX9_isPlace 3 = .ok (.aload_n 0, 1) := by decide +kernel
theorem dX9_isPlace_4 : decode cX9_isPlace 4 = .ok (.getfield 192, 3) := by decide +kernel
theorem dX9_isPlace_7 : decode cX9_isPlace 7 = .ok (.iconst 1, 1) := by decide +kernel
theorem dX9_isPlace_8 : decode cX9_isPlace 8 = .ok (.isub, 1) := by decide +kernel
theorem dX9_isPlace_9 : decode cX9_isPlace 9 = .ok (.i2l, 1) := by decide +kernel
theorem dX9_isPlace_10 : decode cX9_isPlace 10 = .ok (.invokestatic 91, 3) := by decide +kernel
theorem dX9_isPlace_13 : decode cX9_isPlace 13 = .ok (.ireturn, 1) := by decide +kernel
def f_HM_isPlace (x1 : Int32) (σ : St) : Option (Int32 × St) :=
  bd (f_HM_in x1.toInt64 0 (((rF σ 43) - 1).toInt64) σ) fun r3 σ2 => ck (isB r3) <| some (r3, σ2)
set_option maxRecDepth 4000 in
theorem ok_HM_isPlace {w : wT} (hi : wInj w) {l : Launch} {x1 : Int32} {σ σ' : St} {r : Int32} (h : f_HM_isPlace x1 σ = some (r, σ')) : gM w l yX9_isPlace cX9_isPlace 2 (some .boolean) 2 [.ref (w.1 9), .int x1] σ (some (.int r)) σ' := by
  unfold f_HM_isPlace at h
  refine gM_of hi (by decide) [some (.ref (w.1 9)), some (.int x1)] rfl (Nat.le_of_ble_eq_true rfl) (fun E hl X Y => ?_)
  refine g_iload_n X dX9_isPlace_0 rfl rfl ?_
  refine g_i2l X dX9_isPlace_1 rfl ?_
  refine g_lconst X kL_0 dX9_isPlace_2 rfl ?_
  refine g_aload_n X dX9_isPlace_3 rfl rfl ?_
  refine gf_RX9_192 X dX9_isPlace_4 rfl ?_
  refine g_iconst X kI_1 dX9_isPlace_7 rfl ?_
  refine g_isub X dX9_isPlace_8 rfl ?_
  refine g_i2l X dX9_isPlace_9 rfl ?_
  obtain ⟨r3, σ2, h1, h⟩ := bd_e h
  refine g_callSI X [.long x1.toInt64, .long 0, .long (((rF σ 43) - 1).toInt64)] (ok_HM_in X.inj h1) my_yX9_in mt_yX9_in ml_RX9_91 (by decide) rfl dX9_isPlace_10 (Nat.le_of_ble_eq_true rfl) rfl rfl ?_
  obtain ⟨c4, h⟩ := ck_e h
  obtain ⟨rfl, rfl⟩ := rt_e h
  exact g_zret X Y (isB_e c4) dX9_isPlace_13

theorem dX9_place_0 : decode cX9_place 0 = .ok (.aload_n 0, 1) := by decide +kernel
theorem dX9_place_1 : decode cX9_place 1 = .ok (.iload_n 1, 1) := by decide +kernel
theorem dX9_place_2 : decode cX9_place 2 = .ok (.invokevirtual 200, 3) := by decide +kernel
theorem dX9_place_5 : decode cX9_place 5 = .ok (.ifCond .ne 7, 3) := by decide +kernel
theorem dX9_place_8 : decode cX9_place 8 = .ok (.ldc2_w 107, 3) := by decide +kernel
theorem dX9_place_11 : decode cX9_place 11 = .ok (.lreturn, 1) := by decide +kernel
theorem dX9_place_12 : decode cX9_place 12 = .ok (.iload_n 2, 1) := by decide +kernel
theorem dX9_place_13 : decode cX9_place 13 = .ok (.tableswitch 87 0 5 #[39, 47, 55, 63, 71, 79], 39) := by decide +kernel
theorem dX9_place_52 : decode cX9_place 52 = .ok (.aload_n 0, 1) := by decide +kernel
theorem dX9_place_53 : decode cX9_place 53 = .ok (.getfield 22, 3) := by decide +kernel
theorem dX9_place_56 : decode cX9_place 56 = .ok (.iload_n 1, 1) := by decide +kernel
theorem dX9_place_57 : decode cX9_place 57 = .ok (.iaload, 1) := by decide +kernel
theorem dX9_place_58 : decode cX9_place 58 = .ok (.i2l, 1) := by decide +kernel
theorem dX9_place_59 : decode cX9_place 59 = .ok (.lreturn, 1) := by decide +kernel
theorem dX9_place_60 : decode cX9_place 60 = .ok (.aload_n 0, 1) := by decide +kernel
theorem dX9_place_61 : decode cX9_place 61 = .ok (.getfield 25, 3) := by decide +kernel
theorem dX9_place_64 : decode cX9_place 64 = .ok (.iload_n 1, 1) := by decide +kernel
theorem dX9_place_65 : decode cX9_place 65 = .ok (.iaload, 1) := by decide +kernel
theorem dX9_place_66 : decode cX9_place 66 = .ok (.i2l, 1) := by decide +kernel
theorem dX9_place_67 : decode cX9_place 67 = .ok (.lreturn, 1) := by decide +kernel
theorem dX9_place_68 : decode cX9_place 68 = .ok (.aload_n 0, 1) := by decide +kernel
theorem dX9_place_69 : decode cX9_place 69 = .ok (.getfield 28, 3) := by decide +kernel
theorem dX9_place_72 : decode cX9_place 72 = .ok (.iload_n 1, 1) := by decide +kernel
theorem dX9_place_73 : decode cX9_place 73 = .ok (.iaload, 1) := by decide +kernel
theorem dX9_place_74 : decode cX9_place 74 = .ok (.i2l, 1) := by decide +kernel
theorem dX9_place_75 : decode cX9_place 75 = .ok (.lreturn, 1) := by decide +kernel
theorem dX9_place_76 : decode cX9_place 76 = .ok (.aload_n 0, 1) := by decide +kernel
theorem dX9_place_77 : decode cX9_place 77 = .ok (.getfield 31, 3) := by decide +kernel
theorem dX9_place_80 : decode cX9_place 80 = .ok (.iload_n 1, 1) := by decide +kernel
theorem dX9_place_81 : decode cX9_place 81 = .ok (.iaload, 1) := by decide +kernel
theorem dX9_place_82 : decode cX9_place 82 = .ok (.i2l, 1) := by decide +kernel
theorem dX9_place_83 : decode cX9_place 83 = .ok (.lreturn, 1) := by decide +kernel
theorem dX9_place_84 : decode cX9_place 84 = .ok (.aload_n 0, 1) := by decide +kernel
theorem dX9_place_85 : decode cX9_place 85 = .ok (.getfield 34, 3) := by decide +kernel
theorem dX9_place_88 : decode cX9_place 88 = .ok (.iload_n 1, 1) := by decide +kernel
theorem dX9_place_89 : decode cX9_place 89 = .ok (.iaload, 1) := by decide +kernel
theorem dX9_place_90 : decode cX9_place 90 = .ok (.i2l, 1) := by decide +kernel
theorem dX9_place_91 : decode cX9_place 91 = .ok (.lreturn, 1) := by decide +kernel
theorem dX9_place_92 : decode cX9_place 92 = .ok (.aload_n 0, 1) := by decide +kernel
theorem dX9_place_93 : decode cX9_place 93 = .ok (.getfield 43, 3) := by decide +kernel
theorem dX9_place_96 : decode cX9_place 96 = .ok (.iload_n 1, 1) := by decide +kernel
theorem dX9_place_97 : decode cX9_place 97 = .ok (.iaload, 1) := by decide +kernel
theorem dX9_place_98 : decode cX9_place 98 = .ok (.i2l, 1) := by decide +kernel
theorem dX9_place_99 : decode cX9_place 99 = .ok (.lreturn, 1) := by decide +kernel
theorem dX9_place_100 : decode cX9_place 100 = .ok (.ldc2_w 107, 3) := by decide +kernel
theorem dX9_place_103 : decode cX9_place 103 = .ok (.lreturn, 1) := by decide +kernel
def f_HM_place (x1 : Int32) (x2 : Int32) (σ : St) : Option (Int64 × St) :=
  bd (f_HM_isPlace x1 σ) fun r3 σ2 => if r3 = 0 then (some ((-9000000000000000001), σ2)) else (if x2 = 0 then (ck (ib x1 120) <| some ((rI σ2 67 x1).toInt64, σ2)) else if x2 = 1 then (ck (ib x1 120) <| some ((rI σ2 68 x1).toInt64, σ2)) else if x2 = 2 then (ck (ib x1 120) <| some ((rI σ2 69 x1).toInt64, σ2)) else if x2 = 3 then (ck (ib x1 120) <| some ((rI σ2 70 x1).toInt64, σ2)) else if x2 = 4 then (ck (ib x1 120) <| some ((rI σ2 71 x1).toInt64, σ2)) else if x2 = 5 then (ck (ib x1 120) <| some ((rI σ2 74 x1).toInt64, σ2)) else (some ((-9000000000000000001), σ2)))
set_option maxRecDepth 4000 in
theorem ok_HM_place {w : wT} (hi : wInj w) {l : Launch} {x1 : Int32} {x2 : Int32} {σ σ' : St} {r : Int64} (h : f_HM_place x1 x2 σ = some (r, σ')) : gM w l yX9_place cX9_place 3 (some .long) 3 [.ref (w.1 9), .int x1, .int x2] σ (some (.long r)) σ' := by
  unfold f_HM_place at h
  refine gM_of hi (by decide) [some (.ref (w.1 9)), some (.int x1), some (.int x2)] rfl (Nat.le_of_ble_eq_true rfl) (fun E hl X Y => ?_)
  refine g_aload_n X dX9_place_0 rfl rfl ?_
  refine g_iload_n X dX9_place_1 rfl rfl ?_
  obtain ⟨r3, σ2, h1, h⟩ := bd_e h
  refine g_callVI X [.int x1] (ok_HM_isPlace X.inj h1) my_yX9_isPlace mi_yX9_isPlace ms_yX9_isPlace ml_RX9_200 (by decide) rfl rfl (by decide) rfl dX9_place_2 (Nat.le_of_ble_eq_true rfl) rfl rfl ?_
  refine g_if_ne X dX9_place_5 (tgt := 12) rfl rfl (fun c4 => ?_) (fun c4 => ?_)
  · replace h := if_f c4 h
    refine g_iload_n X dX9_place_12 rfl rfl ?_
    by_cases c5 : x2 = 0
    · replace h := if_t c5 h
      refine g_tin X dX9_place_13 (by rw [c5]; decide) (by rw [c5]; decide) (off := 39) (by rw [c5]; rfl) (tgt := 52) rfl ?_
      refine g_aload_n X dX9_place_52 rfl rfl ?_
      refine gf_RX9_22 X dX9_place_53 rfl ?_
      refine g_iload_n X dX9_place_56 rfl rfl ?_
      obtain ⟨c6, h⟩ := ck_e h
      refine g_iald X ar_67.1 ar_67.2.1 ar_67.2.2 (ib_e c6) dX9_place_57 rfl ?_
      refine g_i2l X dX9_place_58 rfl ?_
      obtain ⟨rfl, rfl⟩ := rt_e h
      exact g_lret X Y dX9_place_59
    · replace h := if_f c5 h
      by_cases c7 : x2 = 1
      · replace h := if_t c7 h
        refine g_tin X dX9_place_13 (by rw [c7]; decide) (by rw [c7]; decide) (off := 47) (by rw [c7]; rfl) (tgt := 60) rfl ?_
        refine g_aload_n X dX9_place_60 rfl rfl ?_
        refine gf_RX9_25 X dX9_place_61 rfl ?_
        refine g_iload_n X dX9_place_64 rfl rfl ?_
        obtain ⟨c8, h⟩ := ck_e h
        refine g_iald X ar_68.1 ar_68.2.1 ar_68.2.2 (ib_e c8) dX9_place_65 rfl ?_
        refine g_i2l X dX9_place_66 rfl ?_
        obtain ⟨rfl, rfl⟩ := rt_e h
        exact g_lret X Y dX9_place_67
      · replace h := if_f c7 h
        by_cases c9 : x2 = 2
        · replace h := if_t c9 h
          refine g_tin X dX9_place_13 (by rw [c9]; decide) (by rw [c9]; decide) (off := 55) (by rw [c9]; rfl) (tgt := 68) rfl ?_
          refine g_aload_n X dX9_place_68 rfl rfl ?_
          refine gf_RX9_28 X dX9_place_69 rfl ?_
          refine g_iload_n X dX9_place_72 rfl rfl ?_
          obtain ⟨c10, h⟩ := ck_e h
          refine g_iald X ar_69.1 ar_69.2.1 ar_69.2.2 (ib_e c10) dX9_place_73 rfl ?_
          refine g_i2l X dX9_place_74 rfl ?_
          obtain ⟨rfl, rfl⟩ := rt_e h
          exact g_lret X Y dX9_place_75
        · replace h := if_f c9 h
          by_cases c11 : x2 = 3
          · replace h := if_t c11 h
            refine g_tin X dX9_place_13 (by rw [c11]; decide) (by rw [c11]; decide) (off := 63) (by rw [c11]; rfl) (tgt := 76) rfl ?_
            refine g_aload_n X dX9_place_76 rfl rfl ?_
            refine gf_RX9_31 X dX9_place_77 rfl ?_
            refine g_iload_n X dX9_place_80 rfl rfl ?_
            obtain ⟨c12, h⟩ := ck_e h
            refine g_iald X ar_70.1 ar_70.2.1 ar_70.2.2 (ib_e c12) dX9_place_81 rfl ?_
            refine g_i2l X dX9_place_82 rfl ?_
            obtain ⟨rfl, rfl⟩ := rt_e h
            exact g_lret X Y dX9_place_83
          · replace h := if_f c11 h
            by_cases c13 : x2 = 4
            · replace h := if_t c13 h
              refine g_tin X dX9_place_13 (by rw [c13]; decide) (by rw [c13]; decide) (off := 71) (by rw [c13]; rfl) (tgt := 84) rfl ?_
              refine g_aload_n X dX9_place_84 rfl rfl ?_
              refine gf_RX9_34 X dX9_place_85 rfl ?_
              refine g_iload_n X dX9_place_88 rfl rfl ?_
              obtain ⟨c14, h⟩ := ck_e h
              refine g_iald X ar_71.1 ar_71.2.1 ar_71.2.2 (ib_e c14) dX9_place_89 rfl ?_
              refine g_i2l X dX9_place_90 rfl ?_
              obtain ⟨rfl, rfl⟩ := rt_e h
              exact g_lret X Y dX9_place_91
            · replace h := if_f c13 h
              by_cases c15 : x2 = 5
              · replace h := if_t c15 h
                refine g_tin X dX9_place_13 (by rw [c15]; decide) (by rw [c15]; decide) (off := 79) (by rw [c15]; rfl) (tgt := 92) rfl ?_
                refine g_aload_n X dX9_place_92 rfl rfl ?_
                refine gf_RX9_43 X dX9_place_93 rfl ?_
                refine g_iload_n X dX9_place_96 rfl rfl ?_
                obtain ⟨c16, h⟩ := ck_e h
                refine g_iald X ar_74.1 ar_74.2.1 ar_74.2.2 (ib_e c16) dX9_place_97 rfl ?_
                refine g_i2l X dX9_place_98 rfl ?_
                obtain ⟨rfl, rfl⟩ := rt_e h
                exact g_lret X Y dX9_place_99
              · replace h := if_f c15 h
                refine g_tout X dX9_place_13 (swo (fun z z1 z2 => ?_)) (tgt := 100) rfl ?_
                · have zz : z = 0 ∨ z = 1 ∨ z = 2 ∨ z = 3 ∨ z = 4 ∨ z = 5 := by omega
                  rcases zz with rfl | rfl | rfl | rfl | rfl | rfl
                  · exact sw1 c5 rfl
                  · exact sw1 c7 rfl
                  · exact sw1 c9 rfl
                  · exact sw1 c11 rfl
                  · exact sw1 c13 rfl
                  · exact sw1 c15 rfl
                ·
                  refine g_ldc2 X dX9_place_100 kc_RX9_107 rfl ?_
                  obtain ⟨rfl, rfl⟩ := rt_e h
                  exact g_lret X Y dX9_place_103
  · replace h := if_t c4 h
    refine g_ldc2 X dX9_place_8 kc_RX9_107 rfl ?_
    obtain ⟨rfl, rfl⟩ := rt_e h
    exact g_lret X Y dX9_place_11

theorem dX9_placesIn_0 : decode cX9_placesIn 0 = .ok (.iconst 0, 1) := by decide +kernel
theorem dX9_placesIn_1 : decode cX9_placesIn 1 = .ok (.istore_n 2, 1) := by decide +kernel
theorem dX9_placesIn_2 : decode cX9_placesIn 2 = .ok (.iconst 0, 1) := by decide +kernel
theorem dX9_placesIn_3 : decode cX9_placesIn 3 = .ok (.istore_n 3, 1) := by decide +kernel
theorem dX9_placesIn_4 : decode cX9_placesIn 4 = .ok (.iload_n 3, 1) := by decide +kernel
theorem dX9_placesIn_5 : decode cX9_placesIn 5 = .ok (.aload_n 0, 1) := by decide +kernel
theorem dX9_placesIn_6 : decode cX9_placesIn 6 = .ok (.getfield 192, 3) := by decide +kernel
theorem dX9_placesIn_9 : decode cX9_placesIn 9 = .ok (.if_icmp .ge 27, 3) := by decide +kernel
theorem dX9_placesIn_12 : decode cX9_placesIn 12 = .ok (.iload_n 2, 1) := by decide +kernel
theorem dX9_placesIn_13 : decode cX9_placesIn 13 = .ok (.aload_n 0, 1) := by decide +kernel
theorem dX9_placesIn_14 : decode cX9_placesIn 14 = .ok (.getfield 28, 3) := by decide +kernel
theorem dX9_placesIn_17 : decode cX9_placesIn 17 = .ok (.iload_n 3, 1) := by decide +kernel
theorem dX9_placesIn_18 : decode cX9_placesIn 18 = .ok (.iaload, 1) := by decide +kernel
theorem dX9_placesIn_19 : decode cX9_placesIn 19 = .ok (.iload_n 1, 1) := by decide +kernel
theorem dX9_placesIn_20 : decode cX9_placesIn 20 = .ok (.if_icmp .ne 7, 3) := by decide +kernel
theorem dX9_placesIn_23 : decode cX9_placesIn 23 = .ok (.iconst 1, 1) := by decide +kernel
theorem dX9_placesIn_24 : decode cX9_placesIn 24 = .ok (.goto 4, 3) := by decide +kernel
theorem dX9_placesIn_27 : decode cX9_placesIn 27 = .ok (.iconst 0, 1) := by decide +kernel
theorem dX9_placesIn_28 : decode cX9_placesIn 28 = .ok (.iadd, 1) := by decide +kernel
theorem dX9_placesIn_29 : decode cX9_placesIn 29 = .ok (.istore_n 2, 1) := by decide +kernel
theorem dX9_placesIn_30 : decode cX9_placesIn 30 = .ok (.iinc 3 1, 3) := by decide +kernel
theorem dX9_placesIn_33 : decode cX9_placesIn 33 = .ok (.goto (-29), 3) := by decide +kernel
theorem dX9_placesIn_36 : decode cX9_placesIn 36 = .ok (.iload_n 2, 1) := by decide +kernel
theorem dX9_placesIn_37 : decode cX9_placesIn 37 = .ok (.ireturn, 1) := by decide +kernel
def f_HM_placesIn_b28 (k4 : Int32 → Int32 → Int32 → St → Option (Int32 × St)) (x1 : Int32) (x3 : Int32) (xs0 : Int32) (xs1 : Int32) (σ : St) : Option (Int32 × St) :=
  k4 x1 (xs0 + xs1) (x3 + 1) σ
set_option maxRecDepth 4000 in
theorem ok_HM_placesIn_b28 {E : gE} {w : wT} {σ' : St} {r : Int32} (X : gC E w cX9_placesIn 4 RX9 1) (Y : gQ E w (some .int) (some (.int r)) σ') {k4 : Int32 → Int32 → Int32 → St → Option (Int32 × St)} (hk4 : ∀ (x1 : Int32) (x2 : Int32) (x3 : Int32) (σ : St), k4 x1 x2 x3 σ = some (r, σ') → gW E w 4 σ 4 [some (.ref (w.1 9)), some (.int x1), some (.int x2), some (.int x3)] []) {x1 : Int32} {x3 : Int32} {xs0 : Int32} {xs1 : Int32} (σ : St) (h : f_HM_placesIn_b28 k4 x1 x3 xs0 xs1 σ = some (r, σ')) : gW E w 4 σ 28 [some (.ref (w.1 9)), some (.int x1), none, some (.int x3)] [.int xs1, .int xs0] := by
  unfold f_HM_placesIn_b28 at h
  refine g_iadd X dX9_placesIn_28 rfl ?_
  refine g_istore_n X [some (.ref (w.1 9)), some (.int x1), some (.int (xs0 + xs1)), some (.int x3)] dX9_placesIn_29 (Nat.le_of_ble_eq_true rfl) rfl rfl rfl ?_
  refine g_iinc X [some (.ref (w.1 9)), some (.int x1), some (.int (xs0 + xs1)), some (.int (x3 + 1))] dX9_placesIn_30 rfl (ii_1 x3) (Nat.le_of_ble_eq_true rfl) rfl rfl rfl ?_
  refine g_goto X dX9_placesIn_33 (tgt := 4) rfl ?_
  exact hk4 x1 (xs0 + xs1) (x3 + 1) σ h

def f_HM_placesIn_b4 (k4 : Int32 → Int32 → Int32 → St → Option (Int32 × St)) (x1 : Int32) (x2 : Int32) (x3 : Int32) (σ : St) : Option (Int32 × St) :=
  if (rF σ 43) ≤ x3 then (some (x2, σ)) else (ck (ib x3 120) <| if (rI σ 69 x3) = x1 then (f_HM_placesIn_b28 k4 x1 x3 x2 1 σ) else (f_HM_placesIn_b28 k4 x1 x3 x2 0 σ))
set_option maxRecDepth 4000 in
theorem ok_HM_placesIn_b4 {E : gE} {w : wT} {σ' : St} {r : Int32} (X : gC E w cX9_placesIn 4 RX9 1) (Y : gQ E w (some .int) (some (.int r)) σ') {k4 : Int32 → Int32 → Int32 → St → Option (Int32 × St)} (hk4 : ∀ (x1 : Int32) (x2 : Int32) (x3 : Int32) (σ : St), k4 x1 x2 x3 σ = some (r, σ') → gW E w 4 σ 4 [some (.ref (w.1 9)), some (.int x1), some (.int x2), some (.int x3)] []) {x1 : Int32} {x2 : Int32} {x3 : Int32} (σ : St) (h : f_HM_placesIn_b4 k4 x1 x2 x3 σ = some (r, σ')) : gW E w 4 σ 4 [some (.ref (w.1 9)), some (.int x1), some (.int x2), some (.int x3)] [] := by
  unfold f_HM_placesIn_b4 at h
  refine g_iload_n X dX9_placesIn_4 rfl rfl ?_
  refine g_aload_n X dX9_placesIn_5 rfl rfl ?_
  refine gf_RX9_192 X dX9_placesIn_6 rfl ?_
  refine g_icmp_ge X dX9_placesIn_9 (tgt := 36) rfl rfl (fun c1 => ?_) (fun c1 => ?_)
  · replace h := if_t c1 h
    refine g_iload_n X dX9_placesIn_36 rfl rfl ?_
    obtain ⟨rfl, rfl⟩ := rt_e h
    exact g_iret X Y dX9_placesIn_37
  · replace h := if_f c1 h
    refine g_iload_n X dX9_placesIn_12 rfl rfl ?_
    refine g_aload_n X dX9_placesIn_13 rfl rfl ?_
    refine gf_RX9_28 X dX9_placesIn_14 rfl ?_
    refine g_iload_n X dX9_placesIn_17 rfl rfl ?_
    obtain ⟨c2, h⟩ := ck_e h
    refine g_iald X ar_69.1 ar_69.2.1 ar_69.2.2 (ib_e c2) dX9_placesIn_18 rfl ?_
    refine g_iload_n X dX9_placesIn_19 rfl rfl ?_
    refine g_icmp_ne X dX9_placesIn_20 (tgt := 27) rfl rfl (fun c3 => ?_) (fun c3 => ?_)
    · replace h := if_f c3 h
      refine g_iconst X kI_0 dX9_placesIn_27 rfl ?_
      exact g_le (lle_s (lle_s (lle_k (lle_s (lle_0))))) (ok_HM_placesIn_b28 X Y hk4 σ h)
    · replace h := if_t c3 h
      refine g_iconst X kI_1 dX9_placesIn_23 rfl ?_
      refine g_goto X dX9_placesIn_24 (tgt := 28) rfl ?_
      exact g_le (lle_s (lle_s (lle_k (lle_s (lle_0))))) (ok_HM_placesIn_b28 X Y hk4 σ h)
def f_HM_placesIn_l4 : Int32 → Int32 → Int32 → St → Option (Int32 × St) := lp (fun _ _ _ _ => none) (f_HM_placesIn_b4) FU
theorem ok_HM_placesIn_l4 {E : gE} {w : wT} {σ' : St} {r : Int32} (X : gC E w cX9_placesIn 4 RX9 1) (Y : gQ E w (some .int) (some (.int r)) σ') {x1 : Int32} {x2 : Int32} {x3 : Int32} (σ : St) (h : f_HM_placesIn_l4 x1 x2 x3 σ = some (r, σ')) : gW E w 4 σ 4 [some (.ref (w.1 9)), some (.int x1), some (.int x2), some (.int x3)] [] :=
  lp_ind (P := fun (k : Int32 → Int32 → Int32 → St → Option (Int32 × St)) => ∀ (x1 : Int32) (x2 : Int32) (x3 : Int32) (σ : St), k x1 x2 x3 σ = some (r, σ') → gW E w 4 σ 4 [some (.ref (w.1 9)), some (.int x1), some (.int x2), some (.int x3)] []) (fun _ _ _ _ hh => nn hh) (fun k hk x1 x2 x3 σ  hh => ok_HM_placesIn_b4 X Y hk σ hh) FU x1 x2 x3 σ  h

def f_HM_placesIn (x1 : Int32) (σ : St) : Option (Int32 × St) :=
  f_HM_placesIn_l4 x1 0 0 σ
set_option maxRecDepth 4000 in
theorem ok_HM_placesIn {w : wT} (hi : wInj w) {l : Launch} {x1 : Int32} {σ σ' : St} {r : Int32} (h : f_HM_placesIn x1 σ = some (r, σ')) : gM w l yX9_placesIn cX9_placesIn 4 (some .int) 1 [.ref (w.1 9), .int x1] σ (some (.int r)) σ' := by
  unfold f_HM_placesIn at h
  refine gM_of hi (by decide) [some (.ref (w.1 9)), some (.int x1)] rfl (Nat.le_of_ble_eq_true rfl) (fun E hl X Y => ?_)
  refine g_iconst X kI_0 dX9_placesIn_0 rfl ?_
  refine g_istore_n X [some (.ref (w.1 9)), some (.int x1), some (.int 0)] dX9_placesIn_1 (Nat.le_of_ble_eq_true rfl) rfl rfl rfl ?_
  refine g_iconst X kI_0 dX9_placesIn_2 rfl ?_
  refine g_istore_n X [some (.ref (w.1 9)), some (.int x1), some (.int 0), some (.int 0)] dX9_placesIn_3 (Nat.le_of_ble_eq_true rfl) rfl rfl rfl ?_
  exact ok_HM_placesIn_l4 X Y σ h

theorem dX9_seen_0 : decode cX9_seen 0 = .ok (.iload_n 1, 1) := by decide +kernel
theorem dX9_seen_1 : decode cX9_seen 1 = .ok (.i2l, 1) := by decide +kernel
theorem dX9_seen_2 : decode cX9_seen 2 = .ok (.lconst 0, 1) := by decide +kernel
theorem dX9_seen_3 : decode cX9_seen 3 = .ok (.ldc2_w 198, 3) := by decide +kernel
theorem dX9_seen_6 : decode cX9_seen 6 = .ok (.invokestatic 91, 3) := by decide +kernel
theorem dX9_seen_9 : decode cX9_seen 9 = .ok (.ifCond .eq 15, 3) := by decide +kernel
theorem dX9_seen_12 : decode cX9_seen 12 = .ok (.iload_n 2, 1) := by decide +kernel
theorem dX9_seen_13 : decode cX9_seen 13 = .ok (.i2l, 1) := by decide +kernel
theorem dX9_seen_14 : decode cX9_seen 14 = .ok (.lconst 0, 1) := by decide +kernel
theorem dX9_seen_15 : decode cX9_seen 15 = .ok (.ldc2_w 105, 3) := by decide +kernel
theorem dX9_seen_18 : decode cX9_seen 18 = .ok (.invokestatic 91, 3) := by decide +kernel
theorem dX9_seen_21 : decode cX9_seen 21 = .ok (.ifCond .ne 7, 3) := by decide +kernel
theorem dX9_seen_24 : decode cX9_seen 24 = .ok (.ldc2_w 107, 3) := by decide +kernel
theorem dX9_seen_27 : decode cX9_seen 27 = .ok (.lreturn, 1) := by decide +kernel
theorem dX9_seen_28 : decode cX9_seen 28 = .ok (.iload_n 2, 1) := by decide +kernel
theorem dX9_seen_29 : decode cX9_seen 29 = .ok (.ifCond .ne 28, 3) := by decide +kernel
theorem dX9_seen_32 : decode cX9_seen 32 = .ok (.aload_n 0, 1) := by decide +kernel
theorem dX9_seen_33 : decode cX9_seen 33 = .ok (.getfield 49, 3) := by decide +kernel
theorem dX9_seen_36 : decode cX9_seen 36 = .ok (.iload_n 1, 1) := by decide +kernel
theorem dX9_seen_37 : decode cX9_seen 37 = .ok (.iaload, 1) := by decide +kernel
theorem dX9_seen_38 : decode cX9_seen 38 = .ok (.ifCond .ge 9, 3) := by decide +kernel
theorem dX9_seen_41 : decode cX9_seen 41 = .ok (.ldc2_w 203, 3) := by decide +kernel
theorem dX9_seen_44 : decode cX9_seen 44 = .ok (.goto 34, 3) := by decide +kernel
theorem dX9_seen_47 : decode cX9_seen 47 = .ok (.aload_n 0, 1) := by decide +kernel
theorem dX9_seen_48 : decode cX9_seen 48 = .ok (.getfield 49, 3) := by decide +kernel
theorem dX9_seen_51 : decode cX9_seen 51 = .ok (.iload_n 1, 1) := by decide +kernel
theorem dX9_seen_52 : decode cX9_seen 52 = .ok (.iaload, 1) := by decide +kernel
theorem dX9_seen_53 : decode cX9_seen 53 = .ok (.i2l, 1) := by decide +kernel
theorem dX9_seen_54 : decode cX9_seen 54 = .ok (.goto 24, 3) := by decide +kernel
theorem dX9_seen_57 : decode cX9_seen 57 = .ok (.iload_n 2, 1) := by decide +kernel
theorem dX9_seen_58 : decode cX9_seen 58 = .ok (.iconst 1, 1) := by decide +kernel
theorem dX9_seen_59 : decode cX9_seen 59 = .ok (.if_icmp .ne 13, 3) := by decide +kernel
theorem dX9_seen_62 : decode cX9_seen 62 = .ok (.aload_n 0, 1) := by decide +kernel
theorem dX9_seen_63 : decode cX9_seen 63 = .ok (.getfield 52, 3) := by decide +kernel
theorem dX9_seen_66 : decode cX9_seen 66 = .ok (.iload_n 1, 1) := by decide +kernel
theorem dX9_seen_67 : decode cX9_seen 67 = .ok (.iaload, 1) := by decide +kernel
theorem dX9_seen_68 : decode cX9_seen 68 = .ok (.i2l, 1) := by decide +kernel
theorem dX9_seen_69 : decode cX9_seen 69 = .ok (.goto 9, 3) := by decide +kernel
theorem dX9_seen_72 : decode cX9_seen 72 = .ok (.aload_n 0, 1) := by decide +kernel
theorem dX9_seen_73 : decode cX9_seen 73 = .ok (.iload_n 1, 1) := by decide +kernel
theorem dX9_seen_74 : decode cX9_seen 74 = .ok (.invokevirtual 205, 3) := by decide +kernel
theorem dX9_seen_77 : decode cX9_seen 77 = .ok (.i2l, 1) := by decide +kernel
theorem dX9_seen_78 : decode cX9_seen 78 = .ok (.lreturn, 1) := by decide +kernel
def f_HM_seen (x1 : Int32) (x2 : Int32) (σ : St) : Option (Int64 × St) :=
  bd (f_HM_in x1.toInt64 0 9 σ) fun r3 σ2 => if r3 = 0 then (some ((-9000000000000000001), σ2)) else (bd (f_HM_in x2.toInt64 0 2 σ2) fun r7 σ6 => if r7 = 0 then (some ((-9000000000000000001), σ6)) else (if x2 = 0 then (ck (ib x1 20) <| if 0 ≤ (rI σ6 76 x1) then (ck (ib x1 20) <| some ((rI σ6 76 x1).toInt64, σ6)) else (some ((-1000000), σ6))) else (if x2 = 1 then (ck (ib x1 20) <| some ((rI σ6 77 x1).toInt64, σ6)) else (bd (f_HM_placesIn x1 σ6) fun r13 σ12 => some (r13.toInt64, σ12)))))
set_option maxRecDepth 4000 in
theorem ok_HM_seen {w : wT} (hi : wInj w) {l : Launch} {x1 : Int32} {x2 : Int32} {σ σ' : St} {r : Int64} (h : f_HM_seen x1 x2 σ = some (r, σ')) : gM w l yX9_seen cX9_seen 3 (some .long) 2 [.ref (w.1 9), .int x1, .int x2] σ (some (.long r)) σ' := by
  unfold f_HM_seen at h
  refine gM_of hi (by decide) [some (.ref (w.1 9)), some (.int x1), some (.int x2)] rfl (Nat.le_of_ble_eq_true rfl) (fun E hl X Y => ?_)
  refine g_iload_n X dX9_seen_0 rfl rfl ?_
  refine g_i2l X dX9_seen_1 rfl ?_
  refine g_lconst X kL_0 dX9_seen_2 rfl ?_
  refine g_ldc2 X dX9_seen_3 kc_RX9_198 rfl ?_
  obtain ⟨r3, σ2, h1, h⟩ := bd_e h
  refine g_callSI X [.long x1.toInt64, .long 0, .long 9] (ok_HM_in X.inj h1) my_yX9_in mt_yX9_in ml_RX9_91 (by decide) rfl dX9_seen_6 (Nat.le_of_ble_eq_true rfl) rfl rfl ?_
  refine g_if_eq X dX9_seen_9 (tgt := 24) rfl rfl (fun c4 => ?_) (fun c4 => ?_)
  · replace h := if_t c4 h
    refine g_ldc2 X dX9_seen_24 kc_RX9_107 rfl ?_
    obtain ⟨rfl, rfl⟩ := rt_e h
    exact g_lret X Y dX9_seen_27
  · replace h := if_f c4 h
    refine g_iload_n X dX9_seen_12 rfl rfl ?_
    refine g_i2l X dX9_seen_13 rfl ?_
    refine g_lconst X kL_0 dX9_seen_14 rfl ?_
    refine g_ldc2 X dX9_seen_15 kc_RX9_105 rfl ?_
    obtain ⟨r7, σ6, h5, h⟩ := bd_e h
    refine g_callSI X [.long x2.toInt64, .long 0, .long 2] (ok_HM_in X.inj h5) my_yX9_in mt_yX9_in ml_RX9_91 (by decide) rfl dX9_seen_18 (Nat.le_of_ble_eq_true rfl) rfl rfl ?_
    refine g_if_ne X dX9_seen_21 (tgt := 28) rfl rfl (fun c8 => ?_) (fun c8 => ?_)
    · replace h := if_f c8 h
      refine g_iload_n X dX9_seen_28 rfl rfl ?_
      refine g_if_ne X dX9_seen_29 (tgt := 57) rfl rfl (fun c9 => ?_) (fun c9 => ?_)
      · replace h := if_f c9 h
        refine g_iload_n X dX9_seen_57 rfl rfl ?_
        refine g_iconst X kI_1 dX9_seen_58 rfl ?_
        refine g_icmp_ne X dX9_seen_59 (tgt := 72) rfl rfl (fun c10 => ?_) (fun c10 => ?_)
        · replace h := if_f c10 h
          refine g_aload_n X dX9_seen_72 rfl rfl ?_
          refine g_iload_n X dX9_seen_73 rfl rfl ?_
          obtain ⟨r13, σ12, h11, h⟩ := bd_e h
          refine g_callVI X [.int x1] (ok_HM_placesIn X.inj h11) my_yX9_placesIn mi_yX9_placesIn ms_yX9_placesIn ml_RX9_205 (by decide) rfl rfl (by decide) rfl dX9_seen_74 (Nat.le_of_ble_eq_true rfl) rfl rfl ?_
          refine g_i2l X dX9_seen_77 rfl ?_
          obtain ⟨rfl, rfl⟩ := rt_e h
          exact g_lret X Y dX9_seen_78
        · replace h := if_t c10 h
          refine g_aload_n X dX9_seen_62 rfl rfl ?_
          refine gf_RX9_52 X dX9_seen_63 rfl ?_
          refine g_iload_n X dX9_seen_66 rfl rfl ?_
          obtain ⟨c14, h⟩ := ck_e h
          refine g_iald X ar_77.1 ar_77.2.1 ar_77.2.2 (ib_e c14) dX9_seen_67 rfl ?_
          refine g_i2l X dX9_seen_68 rfl ?_
          refine g_goto X dX9_seen_69 (tgt := 78) rfl ?_
          obtain ⟨rfl, rfl⟩ := rt_e h
          exact g_lret X Y dX9_seen_78
      · replace h := if_t c9 h
        refine g_aload_n X dX9_seen_32 rfl rfl ?_
        refine gf_RX9_49 X dX9_seen_33 rfl ?_
        refine g_iload_n X dX9_seen_36 rfl rfl ?_
        obtain ⟨c15, h⟩ := ck_e h
        refine g_iald X ar_76.1 ar_76.2.1 ar_76.2.2 (ib_e c15) dX9_seen_37 rfl ?_
        refine g_if_ge X dX9_seen_38 (tgt := 47) rfl rfl (fun c16 => ?_) (fun c16 => ?_)
        · replace h := if_t c16 h
          refine g_aload_n X dX9_seen_47 rfl rfl ?_
          refine gf_RX9_49 X dX9_seen_48 rfl ?_
          refine g_iload_n X dX9_seen_51 rfl rfl ?_
          obtain ⟨c17, h⟩ := ck_e h
          refine g_iald X ar_76.1 ar_76.2.1 ar_76.2.2 (ib_e c17) dX9_seen_52 rfl ?_
          refine g_i2l X dX9_seen_53 rfl ?_
          refine g_goto X dX9_seen_54 (tgt := 78) rfl ?_
          obtain ⟨rfl, rfl⟩ := rt_e h
          exact g_lret X Y dX9_seen_78
        · replace h := if_f c16 h
          refine g_ldc2 X dX9_seen_41 kc_RX9_203 rfl ?_
          refine g_goto X dX9_seen_44 (tgt := 78) rfl ?_
          obtain ⟨rfl, rfl⟩ := rt_e h
          exact g_lret X Y dX9_seen_78
    · replace h := if_t c8 h
      refine g_ldc2 X dX9_seen_24 kc_RX9_107 rfl ?_
      obtain ⟨rfl, rfl⟩ := rt_e h
      exact g_lret X Y dX9_seen_27

theorem dX9_isOf_0 : decode cX9_isOf 0 = .ok (.aload_n 0, 1) := by decide +kernel
theorem dX9_isOf_1 : decode cX9_isOf 1 = .ok (.getfield 22, 3) := by decide +kernel
theorem dX9_isOf_4 : decode cX9_isOf 4 = .ok (.iload_n 1, 1) := by decide +kernel
theorem dX9_isOf_5 : decode cX9_isOf 5 = .ok (.iaload, 1) := by decide +kernel
theorem dX9_isOf_6 : decode cX9_isOf 6 = .ok (.iconst 2, 1) := by decide +kernel
theorem dX9_isOf_7 : decode cX9_isOf 7 = .ok (.iload_n 2, 1) := by decide +kernel
theorem dX9_isOf_8 : decode cX9_isOf 8 = .ok (.iadd, 1) := by decide +kernel
theorem dX9_isOf_9 : decode cX9_isOf 9 = .ok (.if_icmp .ne 7, 3) := by decide +kernel
theorem dX9_isOf_12 : decode cX9_isOf 12 = .ok (.iconst 1, 1) := by decide +kernel
theorem dX9_isOf_13 : decode cX9_isOf 13 = .ok (.goto 4, 3) := by decide +kernel
theorem dX9_isOf_16 : decode cX9_isOf 16 = .ok (.iconst 0, 1) := by decide +kernel
theorem dX9_isOf_17 : decode cX9_isOf 17 = .ok (.ireturn, 1) := by decide +kernel
def f_HM_isOf (x1 : Int32) (x2 : Int32) (σ : St) : Option (Int32 × St) :=
  ck (ib x1 120) <| if (rI σ 67 x1) = (2 + x2) then (some (1, σ)) else (some (0, σ))
set_option maxRecDepth 4000 in
theorem ok_HM_isOf {w : wT} (hi : wInj w) {l : Launch} {x1 : Int32} {x2 : Int32} {σ σ' : St} {r : Int32} (h : f_HM_isOf x1 x2 σ = some (r, σ')) : gM w l yX9_isOf cX9_isOf 3 (some .boolean) 1 [.ref (w.1 9), .int x1, .int x2] σ (some (.int r)) σ' := by
  unfold f_HM_isOf at h
  refine gM_of hi (by decide) [some (.ref (w.1 9)), some (.int x1), some (.int x2)] rfl (Nat.le_of_ble_eq_true rfl) (fun E hl X Y => ?_)
  refine g_aload_n X dX9_isOf_0 rfl rfl ?_
  refine gf_RX9_22 X dX9_isOf_1 rfl ?_
  refine g_iload_n X dX9_isOf_4 rfl rfl ?_
  obtain ⟨c1, h⟩ := ck_e h
  refine g_iald X ar_67.1 ar_67.2.1 ar_67.2.2 (ib_e c1) dX9_isOf_5 rfl ?_
  refine g_iconst X kI_2 dX9_isOf_6 rfl ?_
  refine g_iload_n X dX9_isOf_7 rfl rfl ?_
  refine g_iadd X dX9_isOf_8 rfl ?_
  refine g_icmp_ne X dX9_isOf_9 (tgt := 16) rfl rfl (fun c2 => ?_) (fun c2 => ?_)
  · replace h := if_f c2 h
    refine g_iconst X kI_0 dX9_isOf_16 rfl ?_
    obtain ⟨rfl, rfl⟩ := rt_e h
    exact g_zret X Y rfl dX9_isOf_17
  · replace h := if_t c2 h
    refine g_iconst X kI_1 dX9_isOf_12 rfl ?_
    refine g_goto X dX9_isOf_13 (tgt := 17) rfl ?_
    obtain ⟨rfl, rfl⟩ := rt_e h
    exact g_zret X Y rfl dX9_isOf_17

theorem dX9_ownAbove_0 : decode cX9_ownAbove 0 = .ok (.aload_n 0, 1) := by decide +kernel
theorem dX9_ownAbove_1 : decode cX9_ownAbove 1 = .ok (.getfield 34, 3) := by decide +kernel
theorem dX9_ownAbove_4 : decode cX9_ownAbove 4 = .ok (.iload_n 1, 1) := by decide +kernel
theorem dX9_ownAbove_5 : decode cX9_ownAbove 5 = .ok (.iaload, 1) := by decide +kernel
theorem dX9_ownAbove_6 : decode cX9_ownAbove 6 = .ok (.istore_n 3, 1) := by decide +kernel
theorem dX9_ownAbove_7 : decode cX9_ownAbove 7 = .ok (.iload_n 3, 1) := by decide +kernel
theorem dX9_ownAbove_8 : decode cX9_ownAbove 8 = .ok (.ldc 163, 2) := by decide +kernel
theorem dX9_ownAbove_10 : decode cX9_ownAbove 10 = .ok (.if_icmp .eq 22, 3) := by decide +kernel
theorem dX9_ownAbove_13 : decode cX9_ownAbove 13 = .ok (.aload_n 0, 1) := by decide +kernel
theorem dX9_ownAbove_14 : decode cX9_ownAbove 14 = .ok (.iload_n 3, 1) := by decide +kernel
theorem dX9_ownAbove_15 : decode cX9_ownAbove 15 = .ok (.iload_n 2, 1) := by decide +kernel
theorem dX9_ownAbove_16 : decode cX9_ownAbove 16 = .ok (.invokevirtual 208, 3) := by decide +kernel
theorem dX9_ownAbove_19 : decode cX9_ownAbove 19 = .ok (.ifCond .ne 13, 3) := by decide +kernel
theorem dX9_ownAbove_22 : decode cX9_ownAbove 22 = .ok (.aload_n 0, 1) := by decide +kernel
theorem dX9_ownAbove_23 : decode cX9_ownAbove 23 = .ok (.getfield 34, 3) := by decide +kernel
theorem dX9_ownAbove_26 : decode cX9_ownAbove 26 = .ok (.iload_n 3, 1) := by decide +kernel
theorem dX9_ownAbove_27 : decode cX9_ownAbove 27 = .ok (.iaload, 1) := by decide +kernel
theorem dX9_ownAbove_28 : decode cX9_ownAbove 28 = .ok (.istore_n 3, 1) := by decide +kernel
theorem dX9_ownAbove_29 : decode cX9_ownAbove 29 = .ok (.goto (-22), 3) := by decide +kernel
theorem dX9_ownAbove_32 : decode cX9_ownAbove 32 = .ok (.iload_n 3, 1) := by decide +kernel
theorem dX9_ownAbove_33 : decode cX9_ownAbove 33 = .ok (.ireturn, 1) := by decide +kernel
def f_HM_ownAbove_b7 (k7 : Int32 → Int32 → St → Option (Int32 × St)) (x2 : Int32) (x3 : Int32) (σ : St) : Option (Int32 × St) :=
  if x3 = ((-1000000)) then (some (x3, σ)) else (bd (f_HM_isOf x3 x2 σ) fun r4 σ3 => if r4 = 0 then (ck (ib x3 120) <| k7 x2 (rI σ3 71 x3) σ3) else (some (x3, σ3)))
set_option maxRecDepth 4000 in
theorem ok_HM_ownAbove_b7 {E : gE} {w : wT} {σ' : St} {r : Int32} (X : gC E w cX9_ownAbove 4 RX9 2) (Y : gQ E w (some .int) (some (.int r)) σ') {k7 : Int32 → Int32 → St → Option (Int32 × St)} (hk7 : ∀ (x2 : Int32) (x3 : Int32) (σ : St), k7 x2 x3 σ = some (r, σ') → gW E w 4 σ 7 [some (.ref (w.1 9)), none, some (.int x2), some (.int x3)] []) {x2 : Int32} {x3 : Int32} (σ : St) (h : f_HM_ownAbove_b7 k7 x2 x3 σ = some (r, σ')) : gW E w 4 σ 7 [some (.ref (w.1 9)), none, some (.int x2), some (.int x3)] [] := by
  unfold f_HM_ownAbove_b7 at h
  refine g_iload_n X dX9_ownAbove_7 rfl rfl ?_
  refine g_ldc X dX9_ownAbove_8 kc_RX9_163 rfl ?_
  refine g_icmp_eq X dX9_ownAbove_10 (tgt := 32) rfl rfl (fun c1 => ?_) (fun c1 => ?_)
  · replace h := if_t c1 h
    refine g_iload_n X dX9_ownAbove_32 rfl rfl ?_
    obtain ⟨rfl, rfl⟩ := rt_e h
    exact g_iret X Y dX9_ownAbove_33
  · replace h := if_f c1 h
    refine g_aload_n X dX9_ownAbove_13 rfl rfl ?_
    refine g_iload_n X dX9_ownAbove_14 rfl rfl ?_
    refine g_iload_n X dX9_ownAbove_15 rfl rfl ?_
    obtain ⟨r4, σ3, h2, h⟩ := bd_e h
    refine g_callVI X [.int x3, .int x2] (ok_HM_isOf X.inj h2) my_yX9_isOf mi_yX9_isOf ms_yX9_isOf ml_RX9_208 (by decide) rfl rfl (by decide) rfl dX9_ownAbove_16 (Nat.le_of_ble_eq_true rfl) rfl rfl ?_
    refine g_if_ne X dX9_ownAbove_19 (tgt := 32) rfl rfl (fun c5 => ?_) (fun c5 => ?_)
    · replace h := if_f c5 h
      refine g_iload_n X dX9_ownAbove_32 rfl rfl ?_
      obtain ⟨rfl, rfl⟩ := rt_e h
      exact g_iret X Y dX9_ownAbove_33
    · replace h := if_t c5 h
      refine g_aload_n X dX9_ownAbove_22 rfl rfl ?_
      refine gf_RX9_34 X dX9_ownAbove_23 rfl ?_
      refine g_iload_n X dX9_ownAbove_26 rfl rfl ?_
      obtain ⟨c6, h⟩ := ck_e h
      refine g_iald X ar_71.1 ar_71.2.1 ar_71.2.2 (ib_e c6) dX9_ownAbove_27 rfl ?_
      refine g_istore_n X [some (.ref (w.1 9)), none, some (.int x2), some (.int (rI σ3 71 x3))] dX9_ownAbove_28 (Nat.le_of_ble_eq_true rfl) rfl rfl rfl ?_
      refine g_goto X dX9_ownAbove_29 (tgt := 7) rfl ?_
      exact hk7 x2 (rI σ3 71 x3) σ3 h
def f_HM_ownAbove_l7 : Int32 → Int32 → St → Option (Int32 × St) := lp (fun _ _ _ => none) (f_HM_ownAbove_b7) FU
theorem ok_HM_ownAbove_l7 {E : gE} {w : wT} {σ' : St} {r : Int32} (X : gC E w cX9_ownAbove 4 RX9 2) (Y : gQ E w (some .int) (some (.int r)) σ') {x2 : Int32} {x3 : Int32} (σ : St) (h : f_HM_ownAbove_l7 x2 x3 σ = some (r, σ')) : gW E w 4 σ 7 [some (.ref (w.1 9)), none, some (.int x2), some (.int x3)] [] :=
  lp_ind (P := fun (k : Int32 → Int32 → St → Option (Int32 × St)) => ∀ (x2 : Int32) (x3 : Int32) (σ : St), k x2 x3 σ = some (r, σ') → gW E w 4 σ 7 [some (.ref (w.1 9)), none, some (.int x2), some (.int x3)] []) (fun _ _ _ hh => nn hh) (fun k hk x2 x3 σ  hh => ok_HM_ownAbove_b7 X Y hk σ hh) FU x2 x3 σ  h

def f_HM_ownAbove (x1 : Int32) (x2 : Int32) (σ : St) : Option (Int32 × St) :=
  ck (ib x1 120) <| f_HM_ownAbove_l7 x2 (rI σ 71 x1) σ
set_option maxRecDepth 4000 in
theorem ok_HM_ownAbove {w : wT} (hi : wInj w) {l : Launch} {x1 : Int32} {x2 : Int32} {σ σ' : St} {r : Int32} (h : f_HM_ownAbove x1 x2 σ = some (r, σ')) : gM w l yX9_ownAbove cX9_ownAbove 4 (some .int) 2 [.ref (w.1 9), .int x1, .int x2] σ (some (.int r)) σ' := by
  unfold f_HM_ownAbove at h
  refine gM_of hi (by decide) [some (.ref (w.1 9)), some (.int x1), some (.int x2)] rfl (Nat.le_of_ble_eq_true rfl) (fun E hl X Y => ?_)
  refine g_aload_n X dX9_ownAbove_0 rfl rfl ?_
  refine gf_RX9_34 X dX9_ownAbove_1 rfl ?_
  refine g_iload_n X dX9_ownAbove_4 rfl rfl ?_
  obtain ⟨c1, h⟩ := ck_e h
  refine g_iald X ar_71.1 ar_71.2.1 ar_71.2.2 (ib_e c1) dX9_ownAbove_5 rfl ?_
  refine g_istore_n X [some (.ref (w.1 9)), some (.int x1), some (.int x2), some (.int (rI σ 71 x1))] dX9_ownAbove_6 (Nat.le_of_ble_eq_true rfl) rfl rfl rfl ?_
  exact g_le (lle_s (lle_k (lle_s (lle_s (lle_0))))) (ok_HM_ownAbove_l7 X Y σ h)

theorem dX9_wayTo_0 : decode cX9_wayTo 0 = .ok (.iload_n 1, 1) := by decide +kernel
theorem dX9_wayTo_1 : decode cX9_wayTo 1 = .ok (.istore_n 3, 1) := by decide +kernel
theorem dX9_wayTo_2 : decode cX9_wayTo 2 = .ok (.aload_n 0, 1) := by decide +kernel
theorem dX9_wayTo_3 : decode cX9_wayTo 3 = .ok (.getfield 34, 3) := by decide +kernel
theorem dX9_wayTo_6 : decode cX9_wayTo 6 = .ok (.iload_n 3, 1) := by decide +kernel
theorem dX9_wayTo_7 : decode cX9_wayTo 7 = .ok (.iaload, 1) := by decide +kernel
theorem dX9_wayTo_8 : decode cX9_wayTo 8 = .ok (.iload_n 2, 1) := by decide +kernel
theorem dX9_wayTo_9 : decode cX9_wayTo 9 = .ok (.if_icmp .eq 13, 3) := by decide +kernel
theorem dX9_wayTo_12 : decode cX9_wayTo 12 = .ok (.aload_n 0, 1) := by decide +kernel
theorem dX9_wayTo_13 : decode cX9_wayTo 13 = .ok (.getfield 34, 3) := by decide +kernel
theorem dX9_wayTo_16 : decode cX9_wayTo 16 = .ok (.iload_n 3, 1) := by decide +kernel
theorem dX9_wayTo_17 : decode cX9_wayTo 17 = .ok (.iaload, 1) := by decide +kernel
theorem dX9_wayTo_18 : decode cX9_wayTo 18 = .ok (.istore_n 3, 1) := by decide +kernel
theorem dX9_wayTo_19 : decode cX9_wayTo 19 = .ok (.goto (-17), 3) := by decide +kernel
theorem dX9_wayTo_22 : decode cX9_wayTo 22 = .ok (.aload_n 0, 1) := by decide +kernel
theorem dX9_wayTo_23 : decode cX9_wayTo 23 = .ok (.getfield 37, 3) := by decide +kernel
theorem dX9_wayTo_26 : decode cX9_wayTo 26 = .ok (.iload_n 3, 1) := by decide +kernel
theorem dX9_wayTo_27 : decode cX9_wayTo 27 = .ok (.iaload, 1) := by decide +kernel
theorem dX9_wayTo_28 : decode cX9_wayTo 28 = .ok (.ireturn, 1) := by decide +kernel
def f_HM_wayTo_b2 (k2 : Int32 → Int32 → St → Option (Int32 × St)) (x2 : Int32) (x3 : Int32) (σ : St) : Option (Int32 × St) :=
  ck (ib x3 120) <| if (rI σ 71 x3) = x2 then (ck (ib x3 120) <| some (rI σ 72 x3, σ)) else (ck (ib x3 120) <| k2 x2 (rI σ 71 x3) σ)
set_option maxRecDepth 4000 in
theorem ok_HM_wayTo_b2 {E : gE} {w : wT} {σ' : St} {r : Int32} (X : gC E w cX9_wayTo 4 RX9 1) (Y : gQ E w (some .int) (some (.int r)) σ') {k2 : Int32 → Int32 → St → Option (Int32 × St)} (hk2 : ∀ (x2 : Int32) (x3 : Int32) (σ : St), k2 x2 x3 σ = some (r, σ') → gW E w 4 σ 2 [some (.ref (w.1 9)), none, some (.int x2), some (.int x3)] []) {x2 : Int32} {x3 : Int32} (σ : St) (h : f_HM_wayTo_b2 k2 x2 x3 σ = some (r, σ')) : gW E w 4 σ 2 [some (.ref (w.1 9)), none, some (.int x2), some (.int x3)] [] := by
  unfold f_HM_wayTo_b2 at h
  refine g_aload_n X dX9_wayTo_2 rfl rfl ?_
  refine gf_RX9_34 X dX9_wayTo_3 rfl ?_
  refine g_iload_n X dX9_wayTo_6 rfl rfl ?_
  obtain ⟨c1, h⟩ := ck_e h
  refine g_iald X ar_71.1 ar_71.2.1 ar_71.2.2 (ib_e c1) dX9_wayTo_7 rfl ?_
  refine g_iload_n X dX9_wayTo_8 rfl rfl ?_
  refine g_icmp_eq X dX9_wayTo_9 (tgt := 22) rfl rfl (fun c2 => ?_) (fun c2 => ?_)
  · replace h := if_t c2 h
    refine g_aload_n X dX9_wayTo_22 rfl rfl ?_
    refine gf_RX9_37 X dX9_wayTo_23 rfl ?_
    refine g_iload_n X dX9_wayTo_26 rfl rfl ?_
    obtain ⟨c3, h⟩ := ck_e h
    refine g_iald X ar_72.1 ar_72.2.1 ar_72.2.2 (ib_e c3) dX9_wayTo_27 rfl ?_
    obtain ⟨rfl, rfl⟩ := rt_e h
    exact g_iret X Y dX9_wayTo_28
  · replace h := if_f c2 h
    refine g_aload_n X dX9_wayTo_12 rfl rfl ?_
    refine gf_RX9_34 X dX9_wayTo_13 rfl ?_
    refine g_iload_n X dX9_wayTo_16 rfl rfl ?_
    obtain ⟨c4, h⟩ := ck_e h
    refine g_iald X ar_71.1 ar_71.2.1 ar_71.2.2 (ib_e c4) dX9_wayTo_17 rfl ?_
    refine g_istore_n X [some (.ref (w.1 9)), none, some (.int x2), some (.int (rI σ 71 x3))] dX9_wayTo_18 (Nat.le_of_ble_eq_true rfl) rfl rfl rfl ?_
    refine g_goto X dX9_wayTo_19 (tgt := 2) rfl ?_
    exact hk2 x2 (rI σ 71 x3) σ h
def f_HM_wayTo_l2 : Int32 → Int32 → St → Option (Int32 × St) := lp (fun _ _ _ => none) (f_HM_wayTo_b2) FU
theorem ok_HM_wayTo_l2 {E : gE} {w : wT} {σ' : St} {r : Int32} (X : gC E w cX9_wayTo 4 RX9 1) (Y : gQ E w (some .int) (some (.int r)) σ') {x2 : Int32} {x3 : Int32} (σ : St) (h : f_HM_wayTo_l2 x2 x3 σ = some (r, σ')) : gW E w 4 σ 2 [some (.ref (w.1 9)), none, some (.int x2), some (.int x3)] [] :=
  lp_ind (P := fun (k : Int32 → Int32 → St → Option (Int32 × St)) => ∀ (x2 : Int32) (x3 : Int32) (σ : St), k x2 x3 σ = some (r, σ') → gW E w 4 σ 2 [some (.ref (w.1 9)), none, some (.int x2), some (.int x3)] []) (fun _ _ _ hh => nn hh) (fun k hk x2 x3 σ  hh => ok_HM_wayTo_b2 X Y hk σ hh) FU x2 x3 σ  h

def f_HM_wayTo (x1 : Int32) (x2 : Int32) (σ : St) : Option (Int32 × St) :=
  f_HM_wayTo_l2 x2 x1 σ
set_option maxRecDepth 4000 in
theorem ok_HM_wayTo {w : wT} (hi : wInj w) {l : Launch} {x1 : Int32} {x2 : Int32} {σ σ' : St} {r : Int32} (h : f_HM_wayTo x1 x2 σ = some (r, σ')) : gM w l yX9_wayTo cX9_wayTo 4 (some .int) 1 [.ref (w.1 9), .int x1, .int x2] σ (some (.int r)) σ' := by
  unfold f_HM_wayTo at h
  refine gM_of hi (by decide) [some (.ref (w.1 9)), some (.int x1), some (.int x2)] rfl (Nat.le_of_ble_eq_true rfl) (fun E hl X Y => ?_)
  refine g_iload_n X dX9_wayTo_0 rfl rfl ?_
  refine g_istore_n X [some (.ref (w.1 9)), some (.int x1), some (.int x2), some (.int x1)] dX9_wayTo_1 (Nat.le_of_ble_eq_true rfl) rfl rfl rfl ?_
  exact g_le (lle_s (lle_k (lle_s (lle_s (lle_0))))) (ok_HM_wayTo_l2 X Y σ h)

theorem dX9_areAlike_0 : decode cX9_areAlike 0 = .ok (.iload_n 1, 1) := by decide +kernel
theorem dX9_areAlike_1 : decode cX9_areAlike 1 = .ok (.istore 4, 2) := by decide +kernel
theorem dX9_areAlike_3 : decode cX9_areAlike 3 = .ok (.iload_n 2, 1) := by decide +kernel
theorem dX9_areAlike_4 : decode cX9_areAlike 4 = .ok (.istore 5, 2) := by decide +kernel
theorem dX9_areAlike_6 : decode cX9_areAlike 6 = .ok (.iconst 1, 1) := by decide +kernel
theorem dX9_areAlike_7 : decode cX9_areAlike 7 = .ok (.istore 6, 2) := by decide +kernel
theorem dX9_areAlike_9 : decode cX9_areAlike 9 = .ok (.iload 6, 2) := by decide +kernel
theorem dX9_areAlike_11 : decode cX9_areAlike 11 = .ok (.ifCond .eq 111, 3) := by decide +kernel
theorem dX9_areAlike_14 : decode cX9_areAlike 14 = .ok (.aload_n 0, 1) := by decide +kernel
theorem dX9_areAlike_15 : decode cX9_areAlike 15 = .ok (.iload 4, 2) := by decide +kernel
theorem dX9_areAlike_17 : decode cX9_areAlike 17 = .ok (.iload_n 3, 1) := by decide +kernel
theorem dX9_areAlike_18 : decode cX9_areAlike 18 = .ok (.invokevirtual 212, 3) := by decide +kernel
theorem dX9_areAlike_21 : decode cX9_areAlike 21 = .ok (.istore 7, 2) := by decide +kernel
theorem dX9_areAlike_23 : decode cX9_areAlike 23 = .ok (.aload_n 0, 1) := by decide +kernel
theorem dX9_areAlike_24 : decode cX9_areAlike 24 = .ok (.iload 5, 2) := by decide +kernel
theorem dX9_areAlike_26 : decode cX9_areAlike 26 = .ok (.iload_n 3, 1) := by decide +kernel
theorem dX9_areAlike_27 : decode cX9_areAlike 27 = .ok (.invokevirtual 212, 3) := by decide +kernel
theorem dX9_areAlike_30 : decode cX9_areAlike 30 = .ok (.istore 8, 2) := by decide +kernel
theorem dX9_areAlike_32 : decode cX9_areAlike 32 = .ok (.iload 7, 2) := by decide +kernel
theorem dX9_areAlike_34 : decode cX9_areAlike 34 = .ok (.ldc 163, 2) := by decide +kernel
theorem dX9_areAlike_36 : decode cX9_areAlike 36 = .ok (.if_icmp .eq 10, 3) := by decide +kernel
theorem dX9_areAlike_39 : decode cX9_areAlike 39 = .ok (.iload 8, 2) := by decide +kernel
theorem dX9_areAlike_41 : decode cX9_areAlike 41 = .ok (.ldc 163, 2) := by decide +kernel
theorem dX9_areAlike_43 : decode cX9_areAlike 43 = .ok (.if_icmp .ne 16, 3) := by decide +kernel
theorem dX9_areAlike_46 : decode cX9_areAlike 46 = .ok (.iload 7, 2) := by decide +kernel
theorem dX9_areAlike_48 : decode cX9_areAlike 48 = .ok (.iload 8, 2) := by decide +kernel
theorem dX9_areAlike_50 : decode cX9_areAlike 50 = .ok (.if_icmp .ne 7, 3) := by decide +kernel
theorem dX9_areAlike_53 : decode cX9_areAlike 53 = .ok (.iconst 1, 1) := by decide +kernel
theorem dX9_areAlike_54 : decode cX9_areAlike 54 = .ok (.goto 4, 3) := by decide +kernel
theorem dX9_areAlike_57 : decode cX9_areAlike 57 = .ok (.iconst 0, 1) := by decide +kernel
theorem dX9_areAlike_58 : decode cX9_areAlike 58 = .ok (.ireturn, 1) := by decide +kernel
theorem dX9_areAlike_59 : decode cX9_areAlike 59 = .ok (.aload_n 0, 1) := by decide +kernel
theorem dX9_areAlike_60 : decode cX9_areAlike 60 = .ok (.getfield 28, 3) := by decide +kernel
theorem dX9_areAlike_63 : decode cX9_areAlike 63 = .ok (.iload 7, 2) := by decide +kernel
theorem dX9_areAlike_65 : decode cX9_areAlike 65 = .ok (.iaload, 1) := by decide +kernel
theorem dX9_areAlike_66 : decode cX9_areAlike 66 = .ok (.aload_n 0, 1) := by decide +kernel
theorem dX9_areAlike_67 : decode cX9_areAlike 67 = .ok (.getfield 28, 3) := by decide +kernel
theorem dX9_areAlike_70 : decode cX9_areAlike 70 = .ok (.iload 8, 2) := by decide +kernel
theorem dX9_areAlike_72 : decode cX9_areAlike 72 = .ok (.iaload, 1) := by decide +kernel
theorem dX9_areAlike_73 : decode cX9_areAlike 73 = .ok (.if_icmp .ne 22, 3) := by decide +kernel
theorem dX9_areAlike_76 : decode cX9_areAlike 76 = .ok (.aload_n 0, 1) := by decide +kernel
theorem dX9_areAlike_77 : decode cX9_areAlike 77 = .ok (.iload 4, 2) := by decide +kernel
theorem dX9_areAlike_79 : decode cX9_areAlike 79 = .ok (.iload 7, 2) := by decide +kernel
theorem dX9_areAlike_81 : decode cX9_areAlike 81 = .ok (.invokevirtual 215, 3) := by decide +kernel
theorem dX9_areAlike_84 : decode cX9_areAlike 84 = .ok (.aload_n 0, 1) := by decide +kernel
theorem dX9_areAlike_85 : decode cX9_areAlike 85 = .ok (.iload 5, 2) := by decide +kernel
theorem dX9_areAlike_87 : decode cX9_areAlike 87 = .ok (.iload 8, 2) := by decide +kernel
theorem dX9_areAlike_89 : decode cX9_areAlike 89 = .ok (.invokevirtual 215, 3) := by decide +kernel
theorem dX9_areAlike_92 : decode cX9_areAlike 92 = .ok (.if_icmp .eq 5, 3) := by decide +kernel
theorem dX9_areAlike_95 : decode cX9_areAlike 95 = .ok (.iconst 0, 1) := by decide +kernel
theorem dX9_areAlike_96 : decode cX9_areAlike 96 = .ok (.ireturn, 1) := by decide +kernel
theorem dX9_areAlike_97 : decode cX9_areAlike 97 = .ok (.iload 7, 2) := by decide +kernel
theorem dX9_areAlike_99 : decode cX9_areAlike 99 = .ok (.istore 4, 2) := by decide +kernel
theorem dX9_areAlike_101 : decode cX9_areAlike 101 = .ok (.iload 8, 2) := by decide +kernel
theorem dX9_areAlike_103 : decode cX9_areAlike 103 = .ok (.istore 5, 2) := by decide +kernel
theorem dX9_areAlike_105 : decode cX9_areAlike 105 = .ok (.iload 4, 2) := by decide +kernel
theorem dX9_areAlike_107 : decode cX9_areAlike 107 = .ok (.iload 5, 2) := by decide +kernel
theorem dX9_areAlike_109 : decode cX9_areAlike 109 = .ok (.if_icmp .eq 7, 3) := by decide +kernel
theorem dX9_areAlike_112 : decode cX9_areAlike 112 = .ok (.iconst 1, 1) := by decide +kernel
theorem dX9_areAlike_113 : decode cX9_areAlike 113 = .ok (.goto 4, 3) := by decide +kernel
theorem dX9_areAlike_116 : decode cX9_areAlike 116 = .ok (.iconst 0, 1) := by decide +kernel
theorem dX9_areAlike_117 : decode cX9_areAlike 117 = .ok (.istore 6, 2) := by decide +kernel
theorem dX9_areAlike_119 : decode cX9_areAlike 119 = .ok (.goto (-110), 3) := by decide +kernel
theorem dX9_areAlike_122 : decode cX9_areAlike 122 = .ok (.iconst 1, 1) := by decide +kernel
theorem dX9_areAlike_123 : decode cX9_areAlike 123 = .ok (.ireturn, 1) := by decide +kernel
def f_HM_areAlike_b117 (k9 : Int32 → Int32 → Int32 → Int32 → St → Option (Int32 × St)) (x3 : Int32) (x4 : Int32) (x5 : Int32) (xs0 : Int32) (σ : St) : Option (Int32 × St) :=
  k9 x3 x4 x5 xs0 σ
set_option maxRecDepth 4000 in
theorem ok_HM_areAlike_b117 {E : gE} {w : wT} {σ' : St} {r : Int32} (X : gC E w cX9_areAlike 9 RX9 3) (Y : gQ E w (some .boolean) (some (.int r)) σ') {k9 : Int32 → Int32 → Int32 → Int32 → St → Option (Int32 × St)} (hk9 : ∀ (x3 : Int32) (x4 : Int32) (x5 : Int32) (x6 : Int32) (σ : St), k9 x3 x4 x5 x6 σ = some (r, σ') → gW E w 9 σ 9 [some (.ref (w.1 9)), none, none, some (.int x3), some (.int x4), some (.int x5), some (.int x6)] []) {x3 : Int32} {x4 : Int32} {x5 : Int32} {xs0 : Int32} (σ : St) (h : f_HM_areAlike_b117 k9 x3 x4 x5 xs0 σ = some (r, σ')) : gW E w 9 σ 117 [some (.ref (w.1 9)), none, none, some (.int x3), some (.int x4), some (.int x5)] [.int xs0] := by
  unfold f_HM_areAlike_b117 at h
  refine g_istore X [some (.ref (w.1 9)), none, none, some (.int x3), some (.int x4), some (.int x5), some (.int xs0)] dX9_areAlike_117 (Nat.le_of_ble_eq_true rfl) rfl rfl rfl ?_
  refine g_goto X dX9_areAlike_119 (tgt := 9) rfl ?_
  exact hk9 x3 x4 x5 xs0 σ h

def f_HM_areAlike_b46 (x7 : Int32) (x8 : Int32) (σ : St) : Option (Int32 × St) :=
  if x7 = x8 then (some (1, σ)) else (some (0, σ))
set_option maxRecDepth 4000 in
theorem ok_HM_areAlike_b46 {E : gE} {w : wT} {σ' : St} {r : Int32} (X : gC E w cX9_areAlike 9 RX9 3) (Y : gQ E w (some .boolean) (some (.int r)) σ') {x7 : Int32} {x8 : Int32} (σ : St) (h : f_HM_areAlike_b46 x7 x8 σ = some (r, σ')) : gW E w 9 σ 46 [none, none, none, none, none, none, none, some (.int x7), some (.int x8)] [] := by
  unfold f_HM_areAlike_b46 at h
  refine g_iload X dX9_areAlike_46 rfl rfl ?_
  refine g_iload X dX9_areAlike_48 rfl rfl ?_
  refine g_icmp_ne X dX9_areAlike_50 (tgt := 57) rfl rfl (fun c1 => ?_) (fun c1 => ?_)
  · replace h := if_f c1 h
    refine g_iconst X kI_0 dX9_areAlike_57 rfl ?_
    obtain ⟨rfl, rfl⟩ := rt_e h
    exact g_zret X Y rfl dX9_areAlike_58
  · replace h := if_t c1 h
    refine g_iconst X kI_1 dX9_areAlike_53 rfl ?_
    refine g_goto X dX9_areAlike_54 (tgt := 58) rfl ?_
    obtain ⟨rfl, rfl⟩ := rt_e h
    exact g_zret X Y rfl dX9_areAlike_58

def f_HM_areAlike_b9 (k9 : Int32 → Int32 → Int32 → Int32 → St → Option (Int32 × St)) (x3 : Int32) (x4 : Int32) (x5 : Int32) (x6 : Int32) (σ : St) : Option (Int32 × St) :=
  if x6 = 0 then (some (1, σ)) else (bd (f_HM_ownAbove x4 x3 σ) fun r4 σ3 => bd (f_HM_ownAbove x5 x3 σ3) fun r7 σ6 => if r4 = ((-1000000)) then (f_HM_areAlike_b46 r4 r7 σ6) else (if r7 = ((-1000000)) then (f_HM_areAlike_b46 r4 r7 σ6) else (ck (ib r4 120) <| ck (ib r7 120) <| if (rI σ6 69 r4) = (rI σ6 69 r7) then (bd (f_HM_wayTo x4 r4 σ6) fun r15 σ14 => bd (f_HM_wayTo x5 r7 σ14) fun r18 σ17 => if r15 = r18 then (if r4 = r7 then (f_HM_areAlike_b117 k9 x3 r4 r7 0 σ17) else (f_HM_areAlike_b117 k9 x3 r4 r7 1 σ17)) else (some (0, σ17))) else (some (0, σ6)))))
set_option maxRecDepth 4000 in
theorem ok_HM_areAlike_b9 {E : gE} {w : wT} {σ' : St} {r : Int32} (X : gC E w cX9_areAlike 9 RX9 3) (Y : gQ E w (some .boolean) (some (.int r)) σ') {k9 : Int32 → Int32 → Int32 → Int32 → St → Option (Int32 × St)} (hk9 : ∀ (x3 : Int32) (x4 : Int32) (x5 : Int32) (x6 : Int32) (σ : St), k9 x3 x4 x5 x6 σ = some (r, σ') → gW E w 9 σ 9 [some (.ref (w.1 9)), none, none, some (.int x3), some (.int x4), some (.int x5), some (.int x6)] []) {x3 : Int32} {x4 : Int32} {x5 : Int32} {x6 : Int32} (σ : St) (h : f_HM_areAlike_b9 k9 x3 x4 x5 x6 σ = some (r, σ')) : gW E w 9 σ 9 [some (.ref (w.1 9)), none, none, some (.int x3), some (.int x4), some (.int x5), some (.int x6)] [] := by
  unfold f_HM_areAlike_b9 at h
  refine g_iload X dX9_areAlike_9 rfl rfl ?_
  refine g_if_eq X dX9_areAlike_11 (tgt := 122) rfl rfl (fun c1 => ?_) (fun c1 => ?_)
  · replace h := if_t c1 h
    refine g_iconst X kI_1 dX9_areAlike_122 rfl ?_
    obtain ⟨rfl, rfl⟩ := rt_e h
    exact g_zret X Y rfl dX9_areAlike_123
  · replace h := if_f c1 h
    refine g_aload_n X dX9_areAlike_14 rfl rfl ?_
    refine g_iload X dX9_areAlike_15 rfl rfl ?_
    refine g_iload_n X dX9_areAlike_17 rfl rfl ?_
    obtain ⟨r4, σ3, h2, h⟩ := bd_e h
    refine g_callVI X [.int x4, .int x3] (ok_HM_ownAbove X.inj h2) my_yX9_ownAbove mi_yX9_ownAbove ms_yX9_ownAbove ml_RX9_212 (by decide) rfl rfl (by decide) rfl dX9_areAlike_18 (Nat.le_of_ble_eq_true rfl) rfl rfl ?_
    refine g_istore X [some (.ref (w.1 9)), none, none, some (.int x3), some (.int x4), some (.int x5), some (.int x6), some (.int r4)] dX9_areAlike_21 (Nat.le_of_ble_eq_true rfl) rfl rfl rfl ?_
    refine g_aload_n X dX9_areAlike_23 rfl rfl ?_
    refine g_iload X dX9_areAlike_24 rfl rfl ?_
    refine g_iload_n X dX9_areAlike_26 rfl rfl ?_
    obtain ⟨r7, σ6, h5, h⟩ := bd_e h
    refine g_callVI X [.int x5, .int x3] (ok_HM_ownAbove X.inj h5) my_yX9_ownAbove mi_yX9_ownAbove ms_yX9_ownAbove ml_RX9_212 (by decide) rfl rfl (by decide) rfl dX9_areAlike_27 (Nat.le_of_ble_eq_true rfl) rfl rfl ?_
    refine g_istore X [some (.ref (w.1 9)), none, none, some (.int x3), some (.int x4), some (.int x5), some (.int x6), some (.int r4), some (.int r7)] dX9_areAlike_30 (Nat.le_of_ble_eq_true rfl) rfl rfl rfl ?_
    refine g_iload X dX9_areAlike_32 rfl rfl ?_
    refine g_ldc X dX9_areAlike_34 kc_RX9_163 rfl ?_
    refine g_icmp_eq X dX9_areAlike_36 (tgt := 46) rfl rfl (fun c8 => ?_) (fun c8 => ?_)
    · replace h := if_t c8 h
      exact g_le (lle_k (lle_k (lle_k (lle_k (lle_k (lle_k (lle_k (lle_s (lle_s (lle_0)))))))))) (ok_HM_areAlike_b46 X Y σ6 h)
    · replace h := if_f c8 h
      refine g_iload X dX9_areAlike_39 rfl rfl ?_
      refine g_ldc X dX9_areAlike_41 kc_RX9_163 rfl ?_
      refine g_icmp_ne X dX9_areAlike_43 (tgt := 59) rfl rfl (fun c9 => ?_) (fun c9 => ?_)
      · replace h := if_f c9 h
        refine g_aload_n X dX9_areAlike_59 rfl rfl ?_
        refine gf_RX9_28 X dX9_areAlike_60 rfl ?_
        refine g_iload X dX9_areAlike_63 rfl rfl ?_
        obtain ⟨c10, h⟩ := ck_e h
        refine g_iald X ar_69.1 ar_69.2.1 ar_69.2.2 (ib_e c10) dX9_areAlike_65 rfl ?_
        refine g_aload_n X dX9_areAlike_66 rfl rfl ?_
        refine gf_RX9_28 X dX9_areAlike_67 rfl ?_
        refine g_iload X dX9_areAlike_70 rfl rfl ?_
        obtain ⟨c11, h⟩ := ck_e h
        refine g_iald X ar_69.1 ar_69.2.1 ar_69.2.2 (ib_e c11) dX9_areAlike_72 rfl ?_
        refine g_icmp_ne X dX9_areAlike_73 (tgt := 95) rfl rfl (fun c12 => ?_) (fun c12 => ?_)
        · replace h := if_f c12 h
          refine g_iconst X kI_0 dX9_areAlike_95 rfl ?_
          obtain ⟨rfl, rfl⟩ := rt_e h
          exact g_zret X Y rfl dX9_areAlike_96
        · replace h := if_t c12 h
          refine g_aload_n X dX9_areAlike_76 rfl rfl ?_
          refine g_iload X dX9_areAlike_77 rfl rfl ?_
          refine g_iload X dX9_areAlike_79 rfl rfl ?_
          obtain ⟨r15, σ14, h13, h⟩ := bd_e h
          refine g_callVI X [.int x4, .int r4] (ok_HM_wayTo X.inj h13) my_yX9_wayTo mi_yX9_wayTo ms_yX9_wayTo ml_RX9_215 (by decide) rfl rfl (by decide) rfl dX9_areAlike_81 (Nat.le_of_ble_eq_true rfl) rfl rfl ?_
          refine g_aload_n X dX9_areAlike_84 rfl rfl ?_
          refine g_iload X dX9_areAlike_85 rfl rfl ?_
          refine g_iload X dX9_areAlike_87 rfl rfl ?_
          obtain ⟨r18, σ17, h16, h⟩ := bd_e h
          refine g_callVI X [.int x5, .int r7] (ok_HM_wayTo X.inj h16) my_yX9_wayTo mi_yX9_wayTo ms_yX9_wayTo ml_RX9_215 (by decide) rfl rfl (by decide) rfl dX9_areAlike_89 (Nat.le_of_ble_eq_true rfl) rfl rfl ?_
          refine g_icmp_eq X dX9_areAlike_92 (tgt := 97) rfl rfl (fun c19 => ?_) (fun c19 => ?_)
          · replace h := if_t c19 h
            refine g_iload X dX9_areAlike_97 rfl rfl ?_
            refine g_istore X [some (.ref (w.1 9)), none, none, some (.int x3), some (.int r4), some (.int x5), some (.int x6), some (.int r4), some (.int r7)] dX9_areAlike_99 (Nat.le_of_ble_eq_true rfl) rfl rfl rfl ?_
            refine g_iload X dX9_areAlike_101 rfl rfl ?_
            refine g_istore X [some (.ref (w.1 9)), none, none, some (.int x3), some (.int r4), some (.int r7), some (.int x6), some (.int r4), some (.int r7)] dX9_areAlike_103 (Nat.le_of_ble_eq_true rfl) rfl rfl rfl ?_
            refine g_iload X dX9_areAlike_105 rfl rfl ?_
            refine g_iload X dX9_areAlike_107 rfl rfl ?_
            refine g_icmp_eq X dX9_areAlike_109 (tgt := 116) rfl rfl (fun c20 => ?_) (fun c20 => ?_)
            · replace h := if_t c20 h
              refine g_iconst X kI_0 dX9_areAlike_116 rfl ?_
              exact g_le (lle_s (lle_k (lle_k (lle_s (lle_s (lle_s (lle_0))))))) (ok_HM_areAlike_b117 X Y hk9 σ17 h)
            · replace h := if_f c20 h
              refine g_iconst X kI_1 dX9_areAlike_112 rfl ?_
              refine g_goto X dX9_areAlike_113 (tgt := 117) rfl ?_
              exact g_le (lle_s (lle_k (lle_k (lle_s (lle_s (lle_s (lle_0))))))) (ok_HM_areAlike_b117 X Y hk9 σ17 h)
          · replace h := if_f c19 h
            refine g_iconst X kI_0 dX9_areAlike_95 rfl ?_
            obtain ⟨rfl, rfl⟩ := rt_e h
            exact g_zret X Y rfl dX9_areAlike_96
      · replace h := if_t c9 h
        exact g_le (lle_k (lle_k (lle_k (lle_k (lle_k (lle_k (lle_k (lle_s (lle_s (lle_0)))))))))) (ok_HM_areAlike_b46 X Y σ6 h)
def f_HM_areAlike_l9 : Int32 → Int32 → Int32 → Int32 → St → Option (Int32 × St) := lp (fun _ _ _ _ _ => none) (f_HM_areAlike_b9) FU
theorem ok_HM_areAlike_l9 {E : gE} {w : wT} {σ' : St} {r : Int32} (X : gC E w cX9_areAlike 9 RX9 3) (Y : gQ E w (some .boolean) (some (.int r)) σ') {x3 : Int32} {x4 : Int32} {x5 : Int32} {x6 : Int32} (σ : St) (h : f_HM_areAlike_l9 x3 x4 x5 x6 σ = some (r, σ')) : gW E w 9 σ 9 [some (.ref (w.1 9)), none, none, some (.int x3), some (.int x4), some (.int x5), some (.int x6)] [] :=
  lp_ind (P := fun (k : Int32 → Int32 → Int32 → Int32 → St → Option (Int32 × St)) => ∀ (x3 : Int32) (x4 : Int32) (x5 : Int32) (x6 : Int32) (σ : St), k x3 x4 x5 x6 σ = some (r, σ') → gW E w 9 σ 9 [some (.ref (w.1 9)), none, none, some (.int x3), some (.int x4), some (.int x5), some (.int x6)] []) (fun _ _ _ _ _ hh => nn hh) (fun k hk x3 x4 x5 x6 σ  hh => ok_HM_areAlike_b9 X Y hk σ hh) FU x3 x4 x5 x6 σ  h

def f_HM_areAlike (x1 : Int32) (x2 : Int32) (x3 : Int32) (σ : St) : Option (Int32 × St) :=
  f_HM_areAlike_l9 x3 x1 x2 1 σ
set_option maxRecDepth 4000 in
theorem ok_HM_areAlike {w : wT} (hi : wInj w) {l : Launch} {x1 : Int32} {x2 : Int32} {x3 : Int32} {σ σ' : St} {r : Int32} (h : f_HM_areAlike x1 x2 x3 σ = some (r, σ')) : gM w l yX9_areAlike cX9_areAlike 9 (some .boolean) 3 [.ref (w.1 9), .int x1, .int x2, .int x3] σ (some (.int r)) σ' := by
  unfold f_HM_areAlike at h
  refine gM_of hi (by decide) [some (.ref (w.1 9)), some (.int x1), some (.int x2), some (.int x3)] rfl (Nat.le_of_ble_eq_true rfl) (fun E hl X Y => ?_)
  refine g_iload_n X dX9_areAlike_0 rfl rfl ?_
  refine g_istore X [some (.ref (w.1 9)), some (.int x1), some (.int x2), some (.int x3), some (.int x1)] dX9_areAlike_1 (Nat.le_of_ble_eq_true rfl) rfl rfl rfl ?_
  refine g_iload_n X dX9_areAlike_3 rfl rfl ?_
  refine g_istore X [some (.ref (w.1 9)), some (.int x1), some (.int x2), some (.int x3), some (.int x1), some (.int x2)] dX9_areAlike_4 (Nat.le_of_ble_eq_true rfl) rfl rfl rfl ?_
  refine g_iconst X kI_1 dX9_areAlike_6 rfl ?_
  refine g_istore X [some (.ref (w.1 9)), some (.int x1), some (.int x2), some (.int x3), some (.int x1), some (.int x2), some (.int 1)] dX9_areAlike_7 (Nat.le_of_ble_eq_true rfl) rfl rfl rfl ?_
  exact g_le (lle_s (lle_k (lle_k (lle_s (lle_s (lle_s (lle_s (lle_0)))))))) (ok_HM_areAlike_l9 X Y σ h)

theorem dX9_isForgetful_0 : decode cX9_isForgetful 0 = .ok (.iconst 0, 1) := by decide +kernel
theorem dX9_isForgetful_1 : decode cX9_isForgetful 1 = .ok (.istore_n 2, 1) := by decide +kernel
theorem dX9_isForgetful_2 : decode cX9_isForgetful 2 = .ok (.iload_n 2, 1) := by decide +kernel
theorem dX9_isForgetful_3 : decode cX9_isForgetful 3 = .ok (.aload_n 0, 1) := by decide +kernel
theorem dX9_isForgetful_4 : decode cX9_isForgetful 4 = .ok (.getfield 192, 3) := by decide +kernel
theorem dX9_isForgetful_7 : decode cX9_isForgetful 7 = .ok (.if_icmp .ge 67, 3) := by decide +kernel
theorem dX9_isForgetful_10 : decode cX9_isForgetful 10 = .ok (.iconst 0, 1) := by decide +kernel
theorem dX9_isForgetful_11 : decode cX9_isForgetful 11 = .ok (.istore_n 3, 1) := by decide +kernel
theorem dX9_isForgetful_12 : decode cX9_isForgetful 12 = .ok (.iload_n 3, 1) := by decide +kernel
theorem dX9_isForgetful_13 : decode cX9_isForgetful 13 = .ok (.iload_n 2, 1) := by decide +kernel
theorem dX9_isForgetful_14 : decode cX9_isForgetful 14 = .ok (.if_icmp .ge 54, 3) := by decide +kernel
theorem dX9_isForgetful_17 : decode cX9_isForgetful 17 = .ok (.aload_n 0, 1) := by decide +kernel
theorem dX9_isForgetful_18 : decode cX9_isForgetful 18 = .ok (.iload_n 2, 1) := by decide +kernel
theorem dX9_isForgetful_19 : decode cX9_isForgetful 19 = .ok (.iload_n 1, 1) := by decide +kernel
theorem dX9_isForgetful_20 : decode cX9_isForgetful 20 = .ok (.invokevirtual 208, 3) := by decide +kernel
theorem dX9_isForgetful_23 : decode cX9_isForgetful 23 = .ok (.ifCond .eq 39, 3) := by decide +kernel
theorem dX9_isForgetful_26 : decode cX9_isForgetful 26 = .ok (.aload_n 0, 1) := by decide +kernel
theorem dX9_isForgetful_27 : decode cX9_isForgetful 27 = .ok (.iload_n 3, 1) := by decide +kernel
theorem dX9_isForgetful_28 : decode cX9_isForgetful 28 = .ok (.iload_n 1, 1) := by decide +kernel
theorem dX9_isForgetful_29 : decode cX9_isForgetful 29 = .ok (.invokevirtual 208, 3) := by decide +kernel
theorem dX9_isForgetful_32 : decode cX9_isForgetful 32 = .ok (.ifCond .eq 30, 3) := by decide +kernel
theorem dX9_isForgetful_35 : decode cX9_isForgetful 35 = .ok (.aload_n 0, 1) := by decide +kernel
theorem dX9_isForgetful_36 : decode cX9_isForgetful 36 = .ok (.getfield 28, 3) := by decide +kernel
theorem dX9_isForgetful_39 : decode cX9_isForgetful 39 = .ok (.iload_n 2, 1) := by decide +kernel
theorem dX9_isForgetful_40 : decode cX9_isForgetful 40 = .ok (.iaload, 1) := by decide +kernel
theorem dX9_isForgetful_41 : decode cX9_isForgetful 41 = .ok (.aload_n 0, 1) := by decide +kernel
theorem dX9_isForgetful_42 : decode cX9_isForgetful 42 = .ok (.getfield 28, 3) := by decide +kernel
theorem dX9_isForgetful_45 : decode cX9_isForgetful 45 = .ok (.iload_n 3, 1) := by decide +kernel
theorem dX9_isForgetful_46 : decode cX9_isForgetful 46 = .ok (.iaload, 1) := by decide +kernel
theorem dX9_isForgetful_47 : decode cX9_isForgetful 47 = .ok (.if_icmp .ne 15, 3) := by decide +kernel
theorem dX9_isForgetful_50 : decode cX9_isForgetful 50 = .ok (.aload_n 0, 1) := by decide +kernel
theorem dX9_isForgetful_51 : decode cX9_isForgetful 51 = .ok (.iload_n 2, 1) := by decide +kernel
theorem dX9_isForgetful_52 : decode cX9_isForgetful 52 = .ok (.iload_n 3, 1) := by decide +kernel
theorem dX9_isForgetful_53 : decode cX9_isForgetful 53 = .ok (.iload_n 1, 1) := by decide +kernel
theorem dX9_isForgetful_54 : decode cX9_isForgetful 54 = .ok (.invokevirtual 218, 3) := by decide +kernel
theorem dX9_isForgetful_57 : decode cX9_isForgetful 57 = .ok (.ifCond .ne 5, 3) := by decide +kernel
theorem dX9_isForgetful_60 : decode cX9_isForgetful 60 = .ok (.iconst 1, 1) := by decide +kernel
theorem dX9_isForgetful_61 : decode cX9_isForgetful 61 = .ok (.ireturn, 1) := by decide +kernel
theorem dX9_isForgetful_62 : decode cX9_isForgetful 62 = .ok (.iinc 3 1, 3) := by decide +kernel
theorem dX9_isForgetful_65 : decode cX9_isForgetful 65 = .ok (.goto (-53), 3) := by decide +kernel
theorem dX9_isForgetful_68 : decode cX9_isForgetful 68 = .ok (.iinc 2 1, 3) := by decide +kernel
theorem dX9_isForgetful_71 : decode cX9_isForgetful 71 = .ok (.goto (-69), 3) := by decide +kernel
theorem dX9_isForgetful_74 : decode cX9_isForgetful 74 = .ok (.iconst 0, 1) := by decide +kernel
theorem dX9_isForgetful_75 : decode cX9_isForgetful 75 = .ok (.ireturn, 1) := by decide +kernel
def f_HM_isForgetful_b62 (k12 : Int32 → Int32 → Int32 → St → Option (Int32 × St)) (x1 : Int32) (x2 : Int32) (x3 : Int32) (σ : St) : Option (Int32 × St) :=
  k12 x1 x2 (x3 + 1) σ
set_option maxRecDepth 4000 in
theorem ok_HM_isForgetful_b62 {E : gE} {w : wT} {σ' : St} {r : Int32} (X : gC E w cX9_isForgetful 4 RX9 4) (Y : gQ E w (some .boolean) (some (.int r)) σ') {k12 : Int32 → Int32 → Int32 → St → Option (Int32 × St)} (hk12 : ∀ (x1 : Int32) (x2 : Int32) (x3 : Int32) (σ : St), k12 x1 x2 x3 σ = some (r, σ') → gW E w 4 σ 12 [some (.ref (w.1 9)), some (.int x1), some (.int x2), some (.int x3)] []) {x1 : Int32} {x2 : Int32} {x3 : Int32} (σ : St) (h : f_HM_isForgetful_b62 k12 x1 x2 x3 σ = some (r, σ')) : gW E w 4 σ 62 [some (.ref (w.1 9)), some (.int x1), some (.int x2), some (.int x3)] [] := by
  unfold f_HM_isForgetful_b62 at h
  refine g_iinc X [some (.ref (w.1 9)), some (.int x1), some (.int x2), some (.int (x3 + 1))] dX9_isForgetful_62 rfl (ii_1 x3) (Nat.le_of_ble_eq_true rfl) rfl rfl rfl ?_
  refine g_goto X dX9_isForgetful_65 (tgt := 12) rfl ?_
  exact hk12 x1 x2 (x3 + 1) σ h

def f_HM_isForgetful_b12 (k2 : Int32 → Int32 → St → Option (Int32 × St)) (k12 : Int32 → Int32 → Int32 → St → Option (Int32 × St)) (x1 : Int32) (x2 : Int32) (x3 : Int32) (σ : St) : Option (Int32 × St) :=
  if x2 ≤ x3 then (k2 x1 (x2 + 1) σ) else (bd (f_HM_isOf x2 x1 σ) fun r4 σ3 => if r4 = 0 then (f_HM_isForgetful_b62 k12 x1 x2 x3 σ3) else (bd (f_HM_isOf x3 x1 σ3) fun r8 σ7 => if r8 = 0 then (f_HM_isForgetful_b62 k12 x1 x2 x3 σ7) else (ck (ib x2 120) <| ck (ib x3 120) <| if (rI σ7 69 x2) = (rI σ7 69 x3) then (bd (f_HM_areAlike x2 x3 x1 σ7) fun r15 σ14 => if r15 = 0 then (some (1, σ14)) else (f_HM_isForgetful_b62 k12 x1 x2 x3 σ14)) else (f_HM_isForgetful_b62 k12 x1 x2 x3 σ7))))
set_option maxRecDepth 4000 in
theorem ok_HM_isForgetful_b12 {E : gE} {w : wT} {σ' : St} {r : Int32} (X : gC E w cX9_isForgetful 4 RX9 4) (Y : gQ E w (some .boolean) (some (.int r)) σ') {k2 : Int32 → Int32 → St → Option (Int32 × St)} (hk2 : ∀ (x1 : Int32) (x2 : Int32) (σ : St), k2 x1 x2 σ = some (r, σ') → gW E w 4 σ 2 [some (.ref (w.1 9)), some (.int x1), some (.int x2)] []) {k12 : Int32 → Int32 → Int32 → St → Option (Int32 × St)} (hk12 : ∀ (x1 : Int32) (x2 : Int32) (x3 : Int32) (σ : St), k12 x1 x2 x3 σ = some (r, σ') → gW E w 4 σ 12 [some (.ref (w.1 9)), some (.int x1), some (.int x2), some (.int x3)] []) {x1 : Int32} {x2 : Int32} {x3 : Int32} (σ : St) (h : f_HM_isForgetful_b12 k2 k12 x1 x2 x3 σ = some (r, σ')) : gW E w 4 σ 12 [some (.ref (w.1 9)), some (.int x1), some (.int x2), some (.int x3)] [] := by
  unfold f_HM_isForgetful_b12 at h
  refine g_iload_n X dX9_isForgetful_12 rfl rfl ?_
  refine g_iload_n X dX9_isForgetful_13 rfl rfl ?_
  refine g_icmp_ge X dX9_isForgetful_14 (tgt := 68) rfl rfl (fun c1 => ?_) (fun c1 => ?_)
  · replace h := if_t c1 h
    refine g_iinc X [some (.ref (w.1 9)), some (.int x1), some (.int (x2 + 1)), some (.int x3)] dX9_isForgetful_68 rfl (ii_1 x2) (Nat.le_of_ble_eq_true rfl) rfl rfl rfl ?_
    refine g_goto X dX9_isForgetful_71 (tgt := 2) rfl ?_
    exact g_le (lle_s (lle_s (lle_s (lle_0)))) (hk2 x1 (x2 + 1) σ h)
  · replace h := if_f c1 h
    refine g_aload_n X dX9_isForgetful_17 rfl rfl ?_
    refine g_iload_n X dX9_isForgetful_18 rfl rfl ?_
    refine g_iload_n X dX9_isForgetful_19 rfl rfl ?_
    obtain ⟨r4, σ3, h2, h⟩ := bd_e h
    refine g_callVI X [.int x2, .int x1] (ok_HM_isOf X.inj h2) my_yX9_isOf mi_yX9_isOf ms_yX9_isOf ml_RX9_208 (by decide) rfl rfl (by decide) rfl dX9_isForgetful_20 (Nat.le_of_ble_eq_true rfl) rfl rfl ?_
    refine g_if_eq X dX9_isForgetful_23 (tgt := 62) rfl rfl (fun c5 => ?_) (fun c5 => ?_)
    · replace h := if_t c5 h
      exact ok_HM_isForgetful_b62 X Y hk12 σ3 h
    · replace h := if_f c5 h
      refine g_aload_n X dX9_isForgetful_26 rfl rfl ?_
      refine g_iload_n X dX9_isForgetful_27 rfl rfl ?_
      refine g_iload_n X dX9_isForgetful_28 rfl rfl ?_
      obtain ⟨r8, σ7, h6, h⟩ := bd_e h
      refine g_callVI X [.int x3, .int x1] (ok_HM_isOf X.inj h6) my_yX9_isOf mi_yX9_isOf ms_yX9_isOf ml_RX9_208 (by decide) rfl rfl (by decide) rfl dX9_isForgetful_29 (Nat.le_of_ble_eq_true rfl) rfl rfl ?_
      refine g_if_eq X dX9_isForgetful_32 (tgt := 62) rfl rfl (fun c9 => ?_) (fun c9 => ?_)
      · replace h := if_t c9 h
        exact ok_HM_isForgetful_b62 X Y hk12 σ7 h
      · replace h := if_f c9 h
        refine g_aload_n X dX9_isForgetful_35 rfl rfl ?_
        refine gf_RX9_28 X dX9_isForgetful_36 rfl ?_
        refine g_iload_n X dX9_isForgetful_39 rfl rfl ?_
        obtain ⟨c10, h⟩ := ck_e h
        refine g_iald X ar_69.1 ar_69.2.1 ar_69.2.2 (ib_e c10) dX9_isForgetful_40 rfl ?_
        refine g_aload_n X dX9_isForgetful_41 rfl rfl ?_
        refine gf_RX9_28 X dX9_isForgetful_42 rfl ?_
        refine g_iload_n X dX9_isForgetful_45 rfl rfl ?_
        obtain ⟨c11, h⟩ := ck_e h
        refine g_iald X ar_69.1 ar_69.2.1 ar_69.2.2 (ib_e c11) dX9_isForgetful_46 rfl ?_
        refine g_icmp_ne X dX9_isForgetful_47 (tgt := 62) rfl rfl (fun c12 => ?_) (fun c12 => ?_)
        · replace h := if_f c12 h
          exact ok_HM_isForgetful_b62 X Y hk12 σ7 h
        · replace h := if_t c12 h
          refine g_aload_n X dX9_isForgetful_50 rfl rfl ?_
          refine g_iload_n X dX9_isForgetful_51 rfl rfl ?_
          refine g_iload_n X dX9_isForgetful_52 rfl rfl ?_
          refine g_iload_n X dX9_isForgetful_53 rfl rfl ?_
          obtain ⟨r15, σ14, h13, h⟩ := bd_e h
          refine g_callVI X [.int x2, .int x3, .int x1] (ok_HM_areAlike X.inj h13) my_yX9_areAlike mi_yX9_areAlike ms_yX9_areAlike ml_RX9_218 (by decide) rfl rfl (by decide) rfl dX9_isForgetful_54 (Nat.le_of_ble_eq_true rfl) rfl rfl ?_
          refine g_if_ne X dX9_isForgetful_57 (tgt := 62) rfl rfl (fun c16 => ?_) (fun c16 => ?_)
          · replace h := if_f c16 h
            exact ok_HM_isForgetful_b62 X Y hk12 σ14 h
          · replace h := if_t c16 h
            refine g_iconst X kI_1 dX9_isForgetful_60 rfl ?_
            obtain ⟨rfl, rfl⟩ := rt_e h
            exact g_zret X Y rfl dX9_isForgetful_61
def f_HM_isForgetful_l12 (k2 : Int32 → Int32 → St → Option (Int32 × St)) : Int32 → Int32 → Int32 → St → Option (Int32 × St) := lp (fun _ _ _ _ => none) (f_HM_isForgetful_b12 k2) FU
theorem ok_HM_isForgetful_l12 {E : gE} {w : wT} {σ' : St} {r : Int32} (X : gC E w cX9_isForgetful 4 RX9 4) (Y : gQ E w (some .boolean) (some (.int r)) σ') {k2 : Int32 → Int32 → St → Option (Int32 × St)} (hk2 : ∀ (x1 : Int32) (x2 : Int32) (σ : St), k2 x1 x2 σ = some (r, σ') → gW E w 4 σ 2 [some (.ref (w.1 9)), some (.int x1), some (.int x2)] []) {x1 : Int32} {x2 : Int32} {x3 : Int32} (σ : St) (h : f_HM_isForgetful_l12 k2 x1 x2 x3 σ = some (r, σ')) : gW E w 4 σ 12 [some (.ref (w.1 9)), some (.int x1), some (.int x2), some (.int x3)] [] :=
  lp_ind (P := fun (k : Int32 → Int32 → Int32 → St → Option (Int32 × St)) => ∀ (x1 : Int32) (x2 : Int32) (x3 : Int32) (σ : St), k x1 x2 x3 σ = some (r, σ') → gW E w 4 σ 12 [some (.ref (w.1 9)), some (.int x1), some (.int x2), some (.int x3)] []) (fun _ _ _ _ hh => nn hh) (fun k hk x1 x2 x3 σ  hh => ok_HM_isForgetful_b12 X Y hk2 hk σ hh) FU x1 x2 x3 σ  h

def f_HM_isForgetful_b2 (k2 : Int32 → Int32 → St → Option (Int32 × St)) (x1 : Int32) (x2 : Int32) (σ : St) : Option (Int32 × St) :=
  if (rF σ 43) ≤ x2 then (some (0, σ)) else (f_HM_isForgetful_l12 k2 x1 x2 0 σ)
set_option maxRecDepth 4000 in
theorem ok_HM_isForgetful_b2 {E : gE} {w : wT} {σ' : St} {r : Int32} (X : gC E w cX9_isForgetful 4 RX9 4) (Y : gQ E w (some .boolean) (some (.int r)) σ') {k2 : Int32 → Int32 → St → Option (Int32 × St)} (hk2 : ∀ (x1 : Int32) (x2 : Int32) (σ : St), k2 x1 x2 σ = some (r, σ') → gW E w 4 σ 2 [some (.ref (w.1 9)), some (.int x1), some (.int x2)] []) {x1 : Int32} {x2 : Int32} (σ : St) (h : f_HM_isForgetful_b2 k2 x1 x2 σ = some (r, σ')) : gW E w 4 σ 2 [some (.ref (w.1 9)), some (.int x1), some (.int x2)] [] := by
  unfold f_HM_isForgetful_b2 at h
  refine g_iload_n X dX9_isForgetful_2 rfl rfl ?_
  refine g_aload_n X dX9_isForgetful_3 rfl rfl ?_
  refine gf_RX9_192 X dX9_isForgetful_4 rfl ?_
  refine g_icmp_ge X dX9_isForgetful_7 (tgt := 74) rfl rfl (fun c1 => ?_) (fun c1 => ?_)
  · replace h := if_t c1 h
    refine g_iconst X kI_0 dX9_isForgetful_74 rfl ?_
    obtain ⟨rfl, rfl⟩ := rt_e h
    exact g_zret X Y rfl dX9_isForgetful_75
  · replace h := if_f c1 h
    refine g_iconst X kI_0 dX9_isForgetful_10 rfl ?_
    refine g_istore_n X [some (.ref (w.1 9)), some (.int x1), some (.int x2), some (.int 0)] dX9_isForgetful_11 (Nat.le_of_ble_eq_true rfl) rfl rfl rfl ?_
    exact ok_HM_isForgetful_l12 X Y hk2 σ h
def f_HM_isForgetful_l2 : Int32 → Int32 → St → Option (Int32 × St) := lp (fun _ _ _ => none) (f_HM_isForgetful_b2) FU
theorem ok_HM_isForgetful_l2 {E : gE} {w : wT} {σ' : St} {r : Int32} (X : gC E w cX9_isForgetful 4 RX9 4) (Y : gQ E w (some .boolean) (some (.int r)) σ') {x1 : Int32} {x2 : Int32} (σ : St) (h : f_HM_isForgetful_l2 x1 x2 σ = some (r, σ')) : gW E w 4 σ 2 [some (.ref (w.1 9)), some (.int x1), some (.int x2)] [] :=
  lp_ind (P := fun (k : Int32 → Int32 → St → Option (Int32 × St)) => ∀ (x1 : Int32) (x2 : Int32) (σ : St), k x1 x2 σ = some (r, σ') → gW E w 4 σ 2 [some (.ref (w.1 9)), some (.int x1), some (.int x2)] []) (fun _ _ _ hh => nn hh) (fun k hk x1 x2 σ  hh => ok_HM_isForgetful_b2 X Y hk σ hh) FU x1 x2 σ  h

def f_HM_isForgetful (x1 : Int32) (σ : St) : Option (Int32 × St) :=
  f_HM_isForgetful_l2 x1 0 σ
set_option maxRecDepth 4000 in
theorem ok_HM_isForgetful {w : wT} (hi : wInj w) {l : Launch} {x1 : Int32} {σ σ' : St} {r : Int32} (h : f_HM_isForgetful x1 σ = some (r, σ')) : gM w l yX9_isForgetful cX9_isForgetful 4 (some .boolean) 4 [.ref (w.1 9), .int x1] σ (some (.int r)) σ' := by
  unfold f_HM_isForgetful at h
  refine gM_of hi (by decide) [some (.ref (w.1 9)), some (.int x1)] rfl (Nat.le_of_ble_eq_true rfl) (fun E hl X Y => ?_)
  refine g_iconst X kI_0 dX9_isForgetful_0 rfl ?_
  refine g_istore_n X [some (.ref (w.1 9)), some (.int x1), some (.int 0)] dX9_isForgetful_1 (Nat.le_of_ble_eq_true rfl) rfl rfl rfl ?_
  exact ok_HM_isForgetful_l2 X Y σ h

theorem dX9_forgets_0 : decode cX9_forgets 0 = .ok (.iload_n 1, 1) := by decide +kernel
theorem dX9_forgets_1 : decode cX9_forgets 1 = .ok (.i2l, 1) := by decide +kernel
theorem dX9_forgets_2 : decode cX9_forgets 2 = .ok (.lconst 0, 1) := by decide +kernel
theorem dX9_forgets_3 : decode cX9_forgets 3 = .ok (.lconst 1, 1) := by decide +kernel
theorem dX9_forgets_4 : decode cX9_forgets 4 = .ok (.invokestatic 91, 3) := by decide +kernel
theorem dX9_forgets_7 : decode cX9_forgets 7 = .ok (.ifCond .ne 9, 3) := by decide +kernel
theorem dX9_forgets_10 : decode cX9_forgets 10 = .ok (.ldc2_w 107, 3) := by decide +kernel
theorem dX9_forgets_13 : decode cX9_forgets 13 = .ok (.goto 16, 3) := by decide +kernel
theorem dX9_forgets_16 : decode cX9_forgets 16 = .ok (.aload_n 0, 1) := by decide +kernel
theorem dX9_forgets_17 : decode cX9_forgets 17 = .ok (.iload_n 1, 1) := by decide +kernel
theorem dX9_forgets_18 : decode cX9_forgets 18 = .ok (.invokevirtual 222, 3) := by decide +kernel
theorem dX9_forgets_21 : decode cX9_forgets 21 = .ok (.ifCond .eq 7, 3) := by decide +kernel
theorem dX9_forgets_24 : decode cX9_forgets 24 = .ok (.lconst 1, 1) := by decide +kernel
theorem dX9_forgets_25 : decode cX9_forgets 25 = .ok (.goto 4, 3) := by decide +kernel
theorem dX9_forgets_28 : decode cX9_forgets 28 = .ok (.lconst 0, 1) := by decide +kernel
theorem dX9_forgets_29 : decode cX9_forgets 29 = .ok (.lreturn, 1) := by decide +kernel
def f_HM_forgets (x1 : Int32) (σ : St) : Option (Int64 × St) :=
  bd (f_HM_in x1.toInt64 0 1 σ) fun r3 σ2 => if r3 = 0 then (some ((-9000000000000000001), σ2)) else (bd (f_HM_isForgetful x1 σ2) fun r7 σ6 => if r7 = 0 then (some (0, σ6)) else (some (1, σ6)))
set_option maxRecDepth 4000 in
theorem ok_HM_forgets {w : wT} (hi : wInj w) {l : Launch} {x1 : Int32} {σ σ' : St} {r : Int64} (h : f_HM_forgets x1 σ = some (r, σ')) : gM w l yX9_forgets cX9_forgets 2 (some .long) 5 [.ref (w.1 9), .int x1] σ (some (.long r)) σ' := by
  unfold f_HM_forgets at h
  refine gM_of hi (by decide) [some (.ref (w.1 9)), some (.int x1)] rfl (Nat.le_of_ble_eq_true rfl) (fun E hl X Y => ?_)
  refine g_iload_n X dX9_forgets_0 rfl rfl ?_
  refine g_i2l X dX9_forgets_1 rfl ?_
  refine g_lconst X kL_0 dX9_forgets_2 rfl ?_
  refine g_lconst X kL_1 dX9_forgets_3 rfl ?_
  obtain ⟨r3, σ2, h1, h⟩ := bd_e h
  refine g_callSI X [.long x1.toInt64, .long 0, .long 1] (ok_HM_in X.inj h1) my_yX9_in mt_yX9_in ml_RX9_91 (by decide) rfl dX9_forgets_4 (Nat.le_of_ble_eq_true rfl) rfl rfl ?_
  refine g_if_ne X dX9_forgets_7 (tgt := 16) rfl rfl (fun c4 => ?_) (fun c4 => ?_)
  · replace h := if_f c4 h
    refine g_aload_n X dX9_forgets_16 rfl rfl ?_
    refine g_iload_n X dX9_forgets_17 rfl rfl ?_
    obtain ⟨r7, σ6, h5, h⟩ := bd_e h
    refine g_callVI X [.int x1] (ok_HM_isForgetful X.inj h5) my_yX9_isForgetful mi_yX9_isForgetful ms_yX9_isForgetful ml_RX9_222 (by decide) rfl rfl (by decide) rfl dX9_forgets_18 (Nat.le_of_ble_eq_true rfl) rfl rfl ?_
    refine g_if_eq X dX9_forgets_21 (tgt := 28) rfl rfl (fun c8 => ?_) (fun c8 => ?_)
    · replace h := if_t c8 h
      refine g_lconst X kL_0 dX9_forgets_28 rfl ?_
      obtain ⟨rfl, rfl⟩ := rt_e h
      exact g_lret X Y dX9_forgets_29
    · replace h := if_f c8 h
      refine g_lconst X kL_1 dX9_forgets_24 rfl ?_
      refine g_goto X dX9_forgets_25 (tgt := 29) rfl ?_
      obtain ⟨rfl, rfl⟩ := rt_e h
      exact g_lret X Y dX9_forgets_29
  · replace h := if_t c4 h
    refine g_ldc2 X dX9_forgets_10 kc_RX9_107 rfl ?_
    refine g_goto X dX9_forgets_13 (tgt := 29) rfl ?_
    obtain ⟨rfl, rfl⟩ := rt_e h
    exact g_lret X Y dX9_forgets_29

theorem dX9_isSet_0 : decode cX9_isSet 0 = .ok (.iload_n 1, 1) := by decide +kernel
theorem dX9_isSet_1 : decode cX9_isSet 1 = .ok (.i2l, 1) := by decide +kernel
theorem dX9_isSet_2 : decode cX9_isSet 2 = .ok (.lconst 0, 1) := by decide +kernel
theorem dX9_isSet_3 : decode cX9_isSet 3 = .ok (.ldc2_w 198, 3) := by decide +kernel
theorem dX9_isSet_6 : decode cX9_isSet 6 = .ok (.invokestatic 91, 3) := by decide +kernel
theorem dX9_isSet_9 : decode cX9_isSet 9 = .ok (.ifCond .eq 16, 3) := by decide +kernel
theorem dX9_isSet_12 : decode cX9_isSet 12 = .ok (.aload_n 0, 1) := by decide +kernel
theorem dX9_isSet_13 : decode cX9_isSet 13 = .ok (.getfield 49, 3) := by decide +kernel
theorem dX9_isSet_16 : decode cX9_isSet 16 = .ok (.iload_n 1, 1) := by decide +kernel
theorem dX9_isSet_17 : decode cX9_isSet 17 = .ok (.iaload, 1) := by decide +kernel
theorem dX9_isSet_18 : decode cX9_isSet 18 = .ok (.ifCond .lt 7, 3) := by decide +kernel
theorem dX9_isSet_21 : decode cX9_isSet 21 = .ok (.iconst 1, 1) := by decide +kernel
theorem dX9_isSet_22 : decode cX9_isSet 22 = .ok (.goto 4, 3) := by decide +kernel
theorem dX9_isSet_25 : decode cX9_isSet 25 = .ok (.iconst 0, 1) := by decide +kernel
theorem dX9_isSet_26 : decode cX9_isSet 26 = .ok (.ireturn, 1) := by decide +kernel
def f_HM_isSet (x1 : Int32) (σ : St) : Option (Int32 × St) :=
  bd (f_HM_in x1.toInt64 0 9 σ) fun r3 σ2 => if r3 = 0 then (some (0, σ2)) else (ck (ib x1 20) <| if (rI σ2 76 x1) < 0 then (some (0, σ2)) else (some (1, σ2)))
set_option maxRecDepth 4000 in
theorem ok_HM_isSet {w : wT} (hi : wInj w) {l : Launch} {x1 : Int32} {σ σ' : St} {r : Int32} (h : f_HM_isSet x1 σ = some (r, σ')) : gM w l yX9_isSet cX9_isSet 2 (some .boolean) 2 [.ref (w.1 9), .int x1] σ (some (.int r)) σ' := by
  unfold f_HM_isSet at h
  refine gM_of hi (by decide) [some (.ref (w.1 9)), some (.int x1)] rfl (Nat.le_of_ble_eq_true rfl) (fun E hl X Y => ?_)
  refine g_iload_n X dX9_isSet_0 rfl rfl ?_
  refine g_i2l X dX9_isSet_1 rfl ?_
  refine g_lconst X kL_0 dX9_isSet_2 rfl ?_
  refine g_ldc2 X dX9_isSet_3 kc_RX9_198 rfl ?_
  obtain ⟨r3, σ2, h1, h⟩ := bd_e h
  refine g_callSI X [.long x1.toInt64, .long 0, .long 9] (ok_HM_in X.inj h1) my_yX9_in mt_yX9_in ml_RX9_91 (by decide) rfl dX9_isSet_6 (Nat.le_of_ble_eq_true rfl) rfl rfl ?_
  refine g_if_eq X dX9_isSet_9 (tgt := 25) rfl rfl (fun c4 => ?_) (fun c4 => ?_)
  · replace h := if_t c4 h
    refine g_iconst X kI_0 dX9_isSet_25 rfl ?_
    obtain ⟨rfl, rfl⟩ := rt_e h
    exact g_zret X Y rfl dX9_isSet_26
  · replace h := if_f c4 h
    refine g_aload_n X dX9_isSet_12 rfl rfl ?_
    refine gf_RX9_49 X dX9_isSet_13 rfl ?_
    refine g_iload_n X dX9_isSet_16 rfl rfl ?_
    obtain ⟨c5, h⟩ := ck_e h
    refine g_iald X ar_76.1 ar_76.2.1 ar_76.2.2 (ib_e c5) dX9_isSet_17 rfl ?_
    refine g_if_lt X dX9_isSet_18 (tgt := 25) rfl rfl (fun c6 => ?_) (fun c6 => ?_)
    · replace h := if_t c6 h
      refine g_iconst X kI_0 dX9_isSet_25 rfl ?_
      obtain ⟨rfl, rfl⟩ := rt_e h
      exact g_zret X Y rfl dX9_isSet_26
    · replace h := if_f c6 h
      refine g_iconst X kI_1 dX9_isSet_21 rfl ?_
      refine g_goto X dX9_isSet_22 (tgt := 26) rfl ?_
      obtain ⟨rfl, rfl⟩ := rt_e h
      exact g_zret X Y rfl dX9_isSet_26

theorem dX9_mix_0 : decode cX9_mix 0 = .ok (.aload_n 0, 1) := by decide +kernel
theorem dX9_mix_1 : decode cX9_mix 1 = .ok (.iload_n 1, 1) := by decide +kernel
theorem dX9_mix_2 : decode cX9_mix 2 = .ok (.invokevirtual 225, 3) := by decide +kernel
theorem dX9_mix_5 : decode cX9_mix 5 = .ok (.ifCond .eq 10, 3) := by decide +kernel
theorem dX9_mix_8 : decode cX9_mix 8 = .ok (.iload_n 2, 1) := by decide +kernel
theorem dX9_mix_9 : decode cX9_mix 9 = .ok (.invokestatic 101, 3) := by decide +kernel
theorem dX9_mix_12 : decode cX9_mix 12 = .ok (.ifCond .ne 7, 3) := by decide +kernel
theorem dX9_mix_15 : decode cX9_mix 15 = .ok (.ldc2_w 107, 3) := by decide +kernel
theorem dX9_mix_18 : decode cX9_mix 18 = .ok (.lreturn, 1) := by decide +kernel
theorem dX9_mix_19 : decode cX9_mix 19 = .ok (.aload_n 0, 1) := by decide +kernel
theorem dX9_mix_20 : decode cX9_mix 20 = .ok (.getfield 7, 3) := by decide +kernel
theorem dX9_mix_23 : decode cX9_mix 23 = .ok (.iload_n 2, 1) := by decide +kernel
theorem dX9_mix_24 : decode cX9_mix 24 = .ok (.iaload, 1) := by decide +kernel
theorem dX9_mix_25 : decode cX9_mix 25 = .ok (.ifCond .ge 9, 3) := by decide +kernel
theorem dX9_mix_28 : decode cX9_mix 28 = .ok (.aload_n 0, 1) := by decide +kernel
theorem dX9_mix_29 : decode cX9_mix 29 = .ok (.iconst 1, 1) := by decide +kernel
theorem dX9_mix_30 : decode cX9_mix 30 = .ok (.invokevirtual 109, 3) := by decide +kernel
theorem dX9_mix_33 : decode cX9_mix 33 = .ok (.lreturn, 1) := by decide +kernel
theorem dX9_mix_34 : decode cX9_mix 34 = .ok (.iload_n 3, 1) := by decide +kernel
theorem dX9_mix_35 : decode cX9_mix 35 = .ok (.ifCond .lt 24, 3) := by decide +kernel
theorem dX9_mix_38 : decode cX9_mix 38 = .ok (.iload_n 3, 1) := by decide +kernel
theorem dX9_mix_39 : decode cX9_mix 39 = .ok (.i2l, 1) := by decide +kernel
theorem dX9_mix_40 : decode cX9_mix 40 = .ok (.aload_n 0, 1) := by decide +kernel
theorem dX9_mix_41 : decode cX9_mix 41 = .ok (.getfield 52, 3) := by decide +kernel
theorem dX9_mix_44 : decode cX9_mix 44 = .ok (.iload_n 1, 1) := by decide +kernel
theorem dX9_mix_45 : decode cX9_mix 45 = .ok (.iaload, 1) := by decide +kernel
theorem dX9_mix_46 : decode cX9_mix 46 = .ok (.i2l, 1) := by decide +kernel
theorem dX9_mix_47 : decode cX9_mix 47 = .ok (.ladd, 1) := by decide +kernel
theorem dX9_mix_48 : decode cX9_mix 48 = .ok (.aload_n 0, 1) := by decide +kernel
theorem dX9_mix_49 : decode cX9_mix 49 = .ok (.getfield 13, 3) := by decide +kernel
theorem dX9_mix_52 : decode cX9_mix 52 = .ok (.iload_n 2, 1) := by decide +kernel
theorem dX9_mix_53 : decode cX9_mix 53 = .ok (.iaload, 1) := by decide +kernel
theorem dX9_mix_54 : decode cX9_mix 54 = .ok (.i2l, 1) := by decide +kernel
theorem dX9_mix_55 : decode cX9_mix 55 = .ok (.lcmp, 1) := by decide +kernel
theorem dX9_mix_56 : decode cX9_mix 56 = .ok (.ifCond .le 9, 3) := by decide +kernel
theorem dX9_mix_59 : decode cX9_mix 59 = .ok (.aload_n 0, 1) := by decide +kernel
theorem dX9_mix_60 : decode cX9_mix 60 = .ok (.iconst 2, 1) := by decide +kernel
theorem dX9_mix_61 : decode cX9_mix 61 = .ok (.invokevirtual 109, 3) := by decide +kernel
theorem dX9_mix_64 : decode cX9_mix 64 = .ok (.lreturn, 1) := by decide +kernel
theorem dX9_mix_65 : decode cX9_mix 65 = .ok (.iconst 0, 1) := by decide +kernel
theorem dX9_mix_66 : decode cX9_mix 66 = .ok (.istore 4, 2) := by decide +kernel
theorem dX9_mix_68 : decode cX9_mix 68 = .ok (.iconst 1, 1) := by decide +kernel
theorem dX9_mix_69 : decode cX9_mix 69 = .ok (.istore 5, 2) := by decide +kernel
theorem dX9_mix_71 : decode cX9_mix 71 = .ok (.iconst 0, 1) := by decide +kernel
theorem dX9_mix_72 : decode cX9_mix 72 = .ok (.istore 6, 2) := by decide +kernel
theorem dX9_mix_74 : decode cX9_mix 74 = .ok (.iload 6, 2) := by decide +kernel
theorem dX9_mix_76 : decode cX9_mix 76 = .ok (.aload_n 0, 1) := by decide +kernel
theorem dX9_mix_77 : decode cX9_mix 77 = .ok (.getfield 52, 3) := by decide +kernel
theorem dX9_mix_80 : decode cX9_mix 80 = .ok (.iload_n 1, 1) := by decide +kernel
theorem dX9_mix_81 : decode cX9_mix 81 = .ok (.iaload, 1) := by decide +kernel
theorem dX9_mix_82 : decode cX9_mix 82 = .ok (.if_icmp .ge 66, 3) := by decide +kernel
theorem dX9_mix_85 : decode cX9_mix 85 = .ok (.aload_n 0, 1) := by decide +kernel
theorem dX9_mix_86 : decode cX9_mix 86 = .ok (.getfield 16, 3) := by decide +kernel
theorem dX9_mix_89 : decode cX9_mix 89 = .ok (.bipush 40, 2) := by decide +kernel
theorem dX9_mix_91 : decode cX9_mix 91 = .ok (.iload_n 2, 1) := by decide +kernel
theorem dX9_mix_92 : decode cX9_mix 92 = .ok (.imul, 1) := by decide +kernel
theorem dX9_mix_93 : decode cX9_mix 93 = .ok (.iload_n 3, 1) := by decide +kernel
theorem dX9_mix_94 : decode cX9_mix 94 = .ok (.iadd, 1) := by decide +kernel
theorem dX9_mix_95 : decode cX9_mix 95 = .ok (.iload 6, 2) := by decide +kernel
theorem dX9_mix_97 : decode cX9_mix 97 = .ok (.iadd, 1) := by decide +kernel
theorem dX9_mix_98 : decode cX9_mix 98 = .ok (.iaload, 1) := by decide +kernel
theorem dX9_mix_99 : decode cX9_mix 99 = .ok (.istore 7, 2) := by decide +kernel
theorem dX9_mix_101 : decode cX9_mix 101 = .ok (.iload 5, 2) := by decide +kernel
theorem dX9_mix_103 : decode cX9_mix 103 = .ok (.ifCond .eq 20, 3) := by decide +kernel
theorem dX9_mix_106 : decode cX9_mix 106 = .ok (.iload 7, 2) := by decide +kernel
theorem dX9_mix_108 : decode cX9_mix 108 = .ok (.i2l, 1) := by decide +kernel
theorem dX9_mix_109 : decode cX9_mix 109 = .ok (.lconst 0, 1) := by decide +kernel
theorem dX9_mix_110 : decode cX9_mix 110 = .ok (.ldc2_w 228, 3) := by decide +kernel
theorem dX9_mix_113 : decode cX9_mix 113 = .ok (.invokestatic 91, 3) := by decide +kernel
theorem dX9_mix_116 : decode cX9_mix 116 = .ok (.ifCond .eq 7, 3) := by decide +kernel
theorem dX9_mix_119 : decode cX9_mix 119 = .ok (.iconst 1, 1) := by decide +kernel
theorem dX9_mix_120 : decode cX9_mix 120 = .ok (.goto 4, 3) := by decide +kernel
theorem dX9_mix_123 : decode cX9_mix 123 = .ok (.iconst 0, 1) := by decide +kernel
theorem dX9_mix_124 : decode cX9_mix 124 = .ok (.istore 5, 2) := by decide +kernel
theorem dX9_mix_126 : decode cX9_mix 126 = .ok (.iload 4, 2) := by decide +kernel
theorem dX9_mix_128 : decode cX9_mix 128 = .ok (.iload 5, 2) := by decide +kernel
theorem dX9_mix_130 : decode cX9_mix 130 = .ok (.ifCond .eq 8, 3) := by decide +kernel
theorem dX9_mix_133 : decode cX9_mix 133 = .ok (.iload 7, 2) := by decide +kernel
theorem dX9_mix_135 : decode cX9_mix 135 = .ok (.goto 4, 3) := by decide +kernel
theorem dX9_mix_138 : decode cX9_mix 138 = .ok (.iconst 0, 1) := by decide +kernel
theorem dX9_mix_139 : decode cX9_mix 139 = .ok (.iadd, 1) := by decide +kernel
theorem dX9_mix_140 : decode cX9_mix 140 = .ok (.istore 4, 2) := by decide +kernel
theorem dX9_mix_142 : decode cX9_mix 142 = .ok (.iinc 6 1, 3) := by decide +kernel
theorem dX9_mix_145 : decode cX9_mix 145 = .ok (.goto (-71), 3) := by decide +kernel
theorem dX9_mix_148 : decode cX9_mix 148 = .ok (.iload 5, 2) := by decide +kernel
theorem dX9_mix_150 : decode cX9_mix 150 = .ok (.ifCond .eq 10, 3) := by decide +kernel
theorem dX9_mix_153 : decode cX9_mix 153 = .ok (.iload 4, 2) := by decide +kernel
theorem dX9_mix_155 : decode cX9_mix 155 = .ok (.bipush 12, 2) := by decide +kernel
theorem dX9_mix_157 : decode cX9_mix 157 = .ok (.if_icmp .eq 7, 3) := by decide +kernel
theorem dX9_mix_160 : decode cX9_mix 160 = .ok (.ldc2_w 107, 3) := by decide +kernel
theorem dX9_mix_163 : decode cX9_mix 163 = .ok (.lreturn, 1) := by decide +kernel
theorem dX9_mix_164 : decode cX9_mix 164 = .ok (.iconst 0, 1) := by decide +kernel
theorem dX9_mix_165 : decode cX9_mix 165 = .ok (.istore 6, 2) := by decide +kernel
theorem dX9_mix_167 : decode cX9_mix 167 = .ok (.iload 6, 2) := by decide +kernel
theorem dX9_mix_169 : decode cX9_mix 169 = .ok (.aload_n 0, 1) := by decide +kernel
theorem dX9_mix_170 : decode cX9_mix 170 = .ok (.getfield 52, 3) := by decide +kernel
theorem dX9_mix_173 : decode cX9_mix 173 = .ok (.iload_n 1, 1) := by decide +kernel
theorem dX9_mix_174 : decode cX9_mix 174 = .ok (.iaload, 1) := by decide +kernel
theorem dX9_mix_175 : decode cX9_mix 175 = .ok (.if_icmp .ge 34, 3) := by decide +kernel
theorem dX9_mix_178 : decode cX9_mix 178 = .ok (.aload_n 0, 1) := by decide +kernel
theorem dX9_mix_179 : decode cX9_mix 179 = .ok (.getfield 55, 3) := by decide +kernel
theorem dX9_mix_182 : decode cX9_mix 182 = .ok (.iconst 3, 1) := by decide +kernel
theorem dX9_mix_183 : decode cX9_mix 183 = .ok (.iload_n 1, 1) := by decide +kernel
theorem dX9_mix_184 : decode cX9_mix 184 = .ok (.imul, 1) := by decide +kernel
theorem dX9_mix_185 : decode cX9_mix 185 = .ok (.iload 6, 2) := by decide +kernel
theorem dX9_mix_187 : decode cX9_mix 187 = .ok (.iadd, 1) := by decide +kernel
theorem dX9_mix_188 : decode cX9_mix 188 = .ok (.aload_n 0, 1) := by decide +kernel
theorem dX9_mix_189 : decode cX9_mix 189 = .ok (.getfield 16, 3) := by decide +kernel
theorem dX9_mix_192 : decode cX9_mix 192 = .ok (.bipush 40, 2) := by decide +kernel
theorem dX9_mix_194 : decode cX9_mix 194 = .ok (.iload_n 2, 1) := by decide +kernel
theorem dX9_mix_195 : decode cX9_mix 195 = .ok (.imul, 1) := by decide +kernel
theorem dX9_mix_196 : decode cX9_mix 196 = .ok (.iload_n 3, 1) := by decide +kernel
theorem dX9_mix_197 : decode cX9_mix 197 = .ok (.iadd, 1) := by decide +kernel
theorem dX9_mix_198 : decode cX9_mix 198 = .ok (.iload 6, 2) := by decide +kernel
theorem dX9_mix_200 : decode cX9_mix 200 = .ok (.iadd, 1) := by decide +kernel
theorem dX9_mix_201 : decode cX9_mix 201 = .ok (.iaload, 1) := by decide +kernel
theorem dX9_mix_202 : decode cX9_mix 202 = .ok (.iastore, 1) := by decide +kernel
theorem dX9_mix_203 : decode cX9_mix 203 = .ok (.iinc 6 1, 3) := by decide +kernel
theorem dX9_mix_206 : decode cX9_mix 206 = .ok (.goto (-39), 3) := by decide +kernel
theorem dX9_mix_209 : decode cX9_mix 209 = .ok (.aload_n 0, 1) := by decide +kernel
theorem dX9_mix_210 : decode cX9_mix 210 = .ok (.lconst 1, 1) := by decide +kernel
theorem dX9_mix_211 : decode cX9_mix 211 = .ok (.invokevirtual 113, 3) := by decide +kernel
theorem dX9_mix_214 : decode cX9_mix 214 = .ok (.lreturn, 1) := by decide +kernel
def f_HM_mix_b167 (k167 : Int32 → Int32 → Int32 → Int32 → St → Option (Int64 × St)) (x1 : Int32) (x2 : Int32) (x3 : Int32) (x6 : Int32) (σ : St) : Option (Int64 × St) :=
  ck (ib x1 20) <| if (rI σ 77 x1) ≤ x6 then (bd (f_HM_taken 1 σ) fun r5 σ4 => some (r5, σ4)) else (ck (ib (((40 * x2) + x3) + x6) 320) <| ck (ib ((3 * x1) + x6) 30) <| lE (stA σ 78 ((3 * x1) + x6).toNatClampNeg (rI σ 65 (((40 * x2) + x3) + x6))) fun σ8 => k167 x1 x2 x3 (x6 + 1) σ8)
set_option maxRecDepth 4000 in
theorem ok_HM_mix_b167 {E : gE} {w : wT} {σ' : St} {r : Int64} (X : gC E w cX9_mix 8 RX9 3) (Y : gQ E w (some .long) (some (.long r)) σ') {k167 : Int32 → Int32 → Int32 → Int32 → St → Option (Int64 × St)} (hk167 : ∀ (x1 : Int32) (x2 : Int32) (x3 : Int32) (x6 : Int32) (σ : St), k167 x1 x2 x3 x6 σ = some (r, σ') → gW E w 8 σ 167 [some (.ref (w.1 9)), some (.int x1), some (.int x2), some (.int x3), none, none, some (.int x6)] []) {x1 : Int32} {x2 : Int32} {x3 : Int32} {x6 : Int32} (σ : St) (h : f_HM_mix_b167 k167 x1 x2 x3 x6 σ = some (r, σ')) : gW E w 8 σ 167 [some (.ref (w.1 9)), some (.int x1), some (.int x2), some (.int x3), none, none, some (.int x6)] [] := by
  unfold f_HM_mix_b167 at h
  refine g_iload X dX9_mix_167 rfl rfl ?_
  refine g_aload_n X dX9_mix_169 rfl rfl ?_
  refine gf_RX9_52 X dX9_mix_170 rfl ?_
  refine g_iload_n X dX9_mix_173 rfl rfl ?_
  obtain ⟨c1, h⟩ := ck_e h
  refine g_iald X ar_77.1 ar_77.2.1 ar_77.2.2 (ib_e c1) dX9_mix_174 rfl ?_
  refine g_icmp_ge X dX9_mix_175 (tgt := 209) rfl rfl (fun c2 => ?_) (fun c2 => ?_)
  · replace h := if_t c2 h
    refine g_aload_n X dX9_mix_209 rfl rfl ?_
    refine g_lconst X kL_1 dX9_mix_210 rfl ?_
    obtain ⟨r5, σ4, h3, h⟩ := bd_e h
    refine g_callVJ X [.long 1] (ok_HM_taken X.inj h3) my_yX9_taken mi_yX9_taken ms_yX9_taken ml_RX9_113 (by decide) rfl rfl (by decide) rfl dX9_mix_211 (Nat.le_of_ble_eq_true rfl) rfl rfl ?_
    obtain ⟨rfl, rfl⟩ := rt_e h
    exact g_lret X Y dX9_mix_214
  · replace h := if_f c2 h
    refine g_aload_n X dX9_mix_178 rfl rfl ?_
    refine gf_RX9_55 X dX9_mix_179 rfl ?_
    refine g_iconst X kI_3 dX9_mix_182 rfl ?_
    refine g_iload_n X dX9_mix_183 rfl rfl ?_
    refine g_imul X dX9_mix_184 rfl ?_
    refine g_iload X dX9_mix_185 rfl rfl ?_
    refine g_iadd X dX9_mix_187 rfl ?_
    refine g_aload_n X dX9_mix_188 rfl rfl ?_
    refine gf_RX9_16 X dX9_mix_189 rfl ?_
    refine g_bipush X kB_40 dX9_mix_192 rfl ?_
    refine g_iload_n X dX9_mix_194 rfl rfl ?_
    refine g_imul X dX9_mix_195 rfl ?_
    refine g_iload_n X dX9_mix_196 rfl rfl ?_
    refine g_iadd X dX9_mix_197 rfl ?_
    refine g_iload X dX9_mix_198 rfl rfl ?_
    refine g_iadd X dX9_mix_200 rfl ?_
    obtain ⟨c6, h⟩ := ck_e h
    refine g_iald X ar_65.1 ar_65.2.1 ar_65.2.2 (ib_e c6) dX9_mix_201 rfl ?_
    obtain ⟨c7, h⟩ := ck_e h
    refine g_iast X ar_78.1 ar_78.2.1 ar_78.2.2 (ib_e c7) dX9_mix_202 rfl (fun σ8 e9 => ?_)
    replace h := lE_c e9 h
    refine g_iinc X [some (.ref (w.1 9)), some (.int x1), some (.int x2), some (.int x3), none, none, some (.int (x6 + 1))] dX9_mix_203 rfl (ii_1 x6) (Nat.le_of_ble_eq_true rfl) rfl rfl rfl ?_
    refine g_goto X dX9_mix_206 (tgt := 167) rfl ?_
    exact hk167 x1 x2 x3 (x6 + 1) σ8 h
def f_HM_mix_l167 : Int32 → Int32 → Int32 → Int32 → St → Option (Int64 × St) := lp (fun _ _ _ _ _ => none) (f_HM_mix_b167) FU
theorem ok_HM_mix_l167 {E : gE} {w : wT} {σ' : St} {r : Int64} (X : gC E w cX9_mix 8 RX9 3) (Y : gQ E w (some .long) (some (.long r)) σ') {x1 : Int32} {x2 : Int32} {x3 : Int32} {x6 : Int32} (σ : St) (h : f_HM_mix_l167 x1 x2 x3 x6 σ = some (r, σ')) : gW E w 8 σ 167 [some (.ref (w.1 9)), some (.int x1), some (.int x2), some (.int x3), none, none, some (.int x6)] [] :=
  lp_ind (P := fun (k : Int32 → Int32 → Int32 → Int32 → St → Option (Int64 × St)) => ∀ (x1 : Int32) (x2 : Int32) (x3 : Int32) (x6 : Int32) (σ : St), k x1 x2 x3 x6 σ = some (r, σ') → gW E w 8 σ 167 [some (.ref (w.1 9)), some (.int x1), some (.int x2), some (.int x3), none, none, some (.int x6)] []) (fun _ _ _ _ _ hh => nn hh) (fun k hk x1 x2 x3 x6 σ  hh => ok_HM_mix_b167 X Y hk σ hh) FU x1 x2 x3 x6 σ  h

def f_HM_mix_b139 (k74 : Int32 → Int32 → Int32 → Int32 → Int32 → Int32 → St → Option (Int64 × St)) (x1 : Int32) (x2 : Int32) (x3 : Int32) (x5 : Int32) (x6 : Int32) (xs0 : Int32) (xs1 : Int32) (σ : St) : Option (Int64 × St) :=
  k74 x1 x2 x3 (xs0 + xs1) x5 (x6 + 1) σ
set_option maxRecDepth 4000 in
theorem ok_HM_mix_b139 {E : gE} {w : wT} {σ' : St} {r : Int64} (X : gC E w cX9_mix 8 RX9 3) (Y : gQ E w (some .long) (some (.long r)) σ') {k74 : Int32 → Int32 → Int32 → Int32 → Int32 → Int32 → St → Option (Int64 × St)} (hk74 : ∀ (x1 : Int32) (x2 : Int32) (x3 : Int32) (x4 : Int32) (x5 : Int32) (x6 : Int32) (σ : St), k74 x1 x2 x3 x4 x5 x6 σ = some (r, σ') → gW E w 8 σ 74 [some (.ref (w.1 9)), some (.int x1), some (.int x2), some (.int x3), some (.int x4), some (.int x5), some (.int x6)] []) {x1 : Int32} {x2 : Int32} {x3 : Int32} {x5 : Int32} {x6 : Int32} {xs0 : Int32} {xs1 : Int32} (σ : St) (h : f_HM_mix_b139 k74 x1 x2 x3 x5 x6 xs0 xs1 σ = some (r, σ')) : gW E w 8 σ 139 [some (.ref (w.1 9)), some (.int x1), some (.int x2), some (.int x3), none, some (.int x5), some (.int x6)] [.int xs1, .int xs0] := by
  unfold f_HM_mix_b139 at h
  refine g_iadd X dX9_mix_139 rfl ?_
  refine g_istore X [some (.ref (w.1 9)), some (.int x1), some (.int x2), some (.int x3), some (.int (xs0 + xs1)), some (.int x5), some (.int x6)] dX9_mix_140 (Nat.le_of_ble_eq_true rfl) rfl rfl rfl ?_
  refine g_iinc X [some (.ref (w.1 9)), some (.int x1), some (.int x2), some (.int x3), some (.int (xs0 + xs1)), some (.int x5), some (.int (x6 + 1))] dX9_mix_142 rfl (ii_1 x6) (Nat.le_of_ble_eq_true rfl) rfl rfl rfl ?_
  refine g_goto X dX9_mix_145 (tgt := 74) rfl ?_
  exact hk74 x1 x2 x3 (xs0 + xs1) x5 (x6 + 1) σ h

def f_HM_mix_b124 (k74 : Int32 → Int32 → Int32 → Int32 → Int32 → Int32 → St → Option (Int64 × St)) (x1 : Int32) (x2 : Int32) (x3 : Int32) (x4 : Int32) (x6 : Int32) (x7 : Int32) (xs0 : Int32) (σ : St) : Option (Int64 × St) :=
  if xs0 = 0 then (f_HM_mix_b139 k74 x1 x2 x3 xs0 x6 x4 0 σ) else (f_HM_mix_b139 k74 x1 x2 x3 xs0 x6 x4 x7 σ)
set_option maxRecDepth 4000 in
theorem ok_HM_mix_b124 {E : gE} {w : wT} {σ' : St} {r : Int64} (X : gC E w cX9_mix 8 RX9 3) (Y : gQ E w (some .long) (some (.long r)) σ') {k74 : Int32 → Int32 → Int32 → Int32 → Int32 → Int32 → St → Option (Int64 × St)} (hk74 : ∀ (x1 : Int32) (x2 : Int32) (x3 : Int32) (x4 : Int32) (x5 : Int32) (x6 : Int32) (σ : St), k74 x1 x2 x3 x4 x5 x6 σ = some (r, σ') → gW E w 8 σ 74 [some (.ref (w.1 9)), some (.int x1), some (.int x2), some (.int x3), some (.int x4), some (.int x5), some (.int x6)] []) {x1 : Int32} {x2 : Int32} {x3 : Int32} {x4 : Int32} {x6 : Int32} {x7 : Int32} {xs0 : Int32} (σ : St) (h : f_HM_mix_b124 k74 x1 x2 x3 x4 x6 x7 xs0 σ = some (r, σ')) : gW E w 8 σ 124 [some (.ref (w.1 9)), some (.int x1), some (.int x2), some (.int x3), some (.int x4), none, some (.int x6), some (.int x7)] [.int xs0] := by
  unfold f_HM_mix_b124 at h
  refine g_istore X [some (.ref (w.1 9)), some (.int x1), some (.int x2), some (.int x3), some (.int x4), some (.int xs0), some (.int x6), some (.int x7)] dX9_mix_124 (Nat.le_of_ble_eq_true rfl) rfl rfl rfl ?_
  refine g_iload X dX9_mix_126 rfl rfl ?_
  refine g_iload X dX9_mix_128 rfl rfl ?_
  refine g_if_eq X dX9_mix_130 (tgt := 138) rfl rfl (fun c1 => ?_) (fun c1 => ?_)
  · replace h := if_t c1 h
    refine g_iconst X kI_0 dX9_mix_138 rfl ?_
    exact g_le (lle_s (lle_s (lle_s (lle_s (lle_k (lle_s (lle_s (lle_0)))))))) (ok_HM_mix_b139 X Y hk74 σ h)
  · replace h := if_f c1 h
    refine g_iload X dX9_mix_133 rfl rfl ?_
    refine g_goto X dX9_mix_135 (tgt := 139) rfl ?_
    exact g_le (lle_s (lle_s (lle_s (lle_s (lle_k (lle_s (lle_s (lle_0)))))))) (ok_HM_mix_b139 X Y hk74 σ h)

def f_HM_mix_b123 (k74 : Int32 → Int32 → Int32 → Int32 → Int32 → Int32 → St → Option (Int64 × St)) (x1 : Int32) (x2 : Int32) (x3 : Int32) (x4 : Int32) (x6 : Int32) (x7 : Int32) (σ : St) : Option (Int64 × St) :=
  f_HM_mix_b124 k74 x1 x2 x3 x4 x6 x7 0 σ
set_option maxRecDepth 4000 in
theorem ok_HM_mix_b123 {E : gE} {w : wT} {σ' : St} {r : Int64} (X : gC E w cX9_mix 8 RX9 3) (Y : gQ E w (some .long) (some (.long r)) σ') {k74 : Int32 → Int32 → Int32 → Int32 → Int32 → Int32 → St → Option (Int64 × St)} (hk74 : ∀ (x1 : Int32) (x2 : Int32) (x3 : Int32) (x4 : Int32) (x5 : Int32) (x6 : Int32) (σ : St), k74 x1 x2 x3 x4 x5 x6 σ = some (r, σ') → gW E w 8 σ 74 [some (.ref (w.1 9)), some (.int x1), some (.int x2), some (.int x3), some (.int x4), some (.int x5), some (.int x6)] []) {x1 : Int32} {x2 : Int32} {x3 : Int32} {x4 : Int32} {x6 : Int32} {x7 : Int32} (σ : St) (h : f_HM_mix_b123 k74 x1 x2 x3 x4 x6 x7 σ = some (r, σ')) : gW E w 8 σ 123 [some (.ref (w.1 9)), some (.int x1), some (.int x2), some (.int x3), some (.int x4), none, some (.int x6), some (.int x7)] [] := by
  unfold f_HM_mix_b123 at h
  refine g_iconst X kI_0 dX9_mix_123 rfl ?_
  exact ok_HM_mix_b124 X Y hk74 σ h

def f_HM_mix_b74 (k74 : Int32 → Int32 → Int32 → Int32 → Int32 → Int32 → St → Option (Int64 × St)) (x1 : Int32) (x2 : Int32) (x3 : Int32) (x4 : Int32) (x5 : Int32) (x6 : Int32) (σ : St) : Option (Int64 × St) :=
  ck (ib x1 20) <| if (rI σ 77 x1) ≤ x6 then (if x5 = 0 then (some ((-9000000000000000001), σ)) else (if x4 = 12 then (f_HM_mix_l167 x1 x2 x3 0 σ) else (some ((-9000000000000000001), σ)))) else (ck (ib (((40 * x2) + x3) + x6) 320) <| if x5 = 0 then (f_HM_mix_b123 k74 x1 x2 x3 x4 x6 (rI σ 65 (((40 * x2) + x3) + x6)) σ) else (bd (f_HM_in ((rI σ 65 (((40 * x2) + x3) + x6)).toInt64) 0 12 σ) fun r9 σ8 => if r9 = 0 then (f_HM_mix_b123 k74 x1 x2 x3 x4 x6 (rI σ 65 (((40 * x2) + x3) + x6)) σ8) else (f_HM_mix_b124 k74 x1 x2 x3 x4 x6 (rI σ 65 (((40 * x2) + x3) + x6)) 1 σ8)))
set_option maxRecDepth 4000 in
theorem ok_HM_mix_b74 {E : gE} {w : wT} {σ' : St} {r : Int64} (X : gC E w cX9_mix 8 RX9 3) (Y : gQ E w (some .long) (some (.long r)) σ') {k74 : Int32 → Int32 → Int32 → Int32 → Int32 → Int32 → St → Option (Int64 × St)} (hk74 : ∀ (x1 : Int32) (x2 : Int32) (x3 : Int32) (x4 : Int32) (x5 : Int32) (x6 : Int32) (σ : St), k74 x1 x2 x3 x4 x5 x6 σ = some (r, σ') → gW E w 8 σ 74 [some (.ref (w.1 9)), some (.int x1), some (.int x2), some (.int x3), some (.int x4), some (.int x5), some (.int x6)] []) {x1 : Int32} {x2 : Int32} {x3 : Int32} {x4 : Int32} {x5 : Int32} {x6 : Int32} (σ : St) (h : f_HM_mix_b74 k74 x1 x2 x3 x4 x5 x6 σ = some (r, σ')) : gW E w 8 σ 74 [some (.ref (w.1 9)), some (.int x1), some (.int x2), some (.int x3), some (.int x4), some (.int x5), some (.int x6)] [] := by
  unfold f_HM_mix_b74 at h
  refine g_iload X dX9_mix_74 rfl rfl ?_
  refine g_aload_n X dX9_mix_76 rfl rfl ?_
  refine gf_RX9_52 X dX9_mix_77 rfl ?_
  refine g_iload_n X dX9_mix_80 rfl rfl ?_
  obtain ⟨c1, h⟩ := ck_e h
  refine g_iald X ar_77.1 ar_77.2.1 ar_77.2.2 (ib_e c1) dX9_mix_81 rfl ?_
  refine g_icmp_ge X dX9_mix_82 (tgt := 148) rfl rfl (fun c2 => ?_) (fun c2 => ?_)
  · replace h := if_t c2 h
    refine g_iload X dX9_mix_148 rfl rfl ?_
    refine g_if_eq X dX9_mix_150 (tgt := 160) rfl rfl (fun c3 => ?_) (fun c3 => ?_)
    · replace h := if_t c3 h
      refine g_ldc2 X dX9_mix_160 kc_RX9_107 rfl ?_
      obtain ⟨rfl, rfl⟩ := rt_e h
      exact g_lret X Y dX9_mix_163
    · replace h := if_f c3 h
      refine g_iload X dX9_mix_153 rfl rfl ?_
      refine g_bipush X kB_12 dX9_mix_155 rfl ?_
      refine g_icmp_eq X dX9_mix_157 (tgt := 164) rfl rfl (fun c4 => ?_) (fun c4 => ?_)
      · replace h := if_t c4 h
        refine g_iconst X kI_0 dX9_mix_164 rfl ?_
        refine g_istore X [some (.ref (w.1 9)), some (.int x1), some (.int x2), some (.int x3), some (.int x4), some (.int x5), some (.int 0)] dX9_mix_165 (Nat.le_of_ble_eq_true rfl) rfl rfl rfl ?_
        exact g_le (lle_s (lle_s (lle_s (lle_s (lle_k (lle_k (lle_s (lle_0)))))))) (ok_HM_mix_l167 X Y σ h)
      · replace h := if_f c4 h
        refine g_ldc2 X dX9_mix_160 kc_RX9_107 rfl ?_
        obtain ⟨rfl, rfl⟩ := rt_e h
        exact g_lret X Y dX9_mix_163
  · replace h := if_f c2 h
    refine g_aload_n X dX9_mix_85 rfl rfl ?_
    refine gf_RX9_16 X dX9_mix_86 rfl ?_
    refine g_bipush X kB_40 dX9_mix_89 rfl ?_
    refine g_iload_n X dX9_mix_91 rfl rfl ?_
    refine g_imul X dX9_mix_92 rfl ?_
    refine g_iload_n X dX9_mix_93 rfl rfl ?_
    refine g_iadd X dX9_mix_94 rfl ?_
    refine g_iload X dX9_mix_95 rfl rfl ?_
    refine g_iadd X dX9_mix_97 rfl ?_
    obtain ⟨c5, h⟩ := ck_e h
    refine g_iald X ar_65.1 ar_65.2.1 ar_65.2.2 (ib_e c5) dX9_mix_98 rfl ?_
    refine g_istore X [some (.ref (w.1 9)), some (.int x1), some (.int x2), some (.int x3), some (.int x4), some (.int x5), some (.int x6), some (.int (rI σ 65 (((40 * x2) + x3) + x6)))] dX9_mix_99 (Nat.le_of_ble_eq_true rfl) rfl rfl rfl ?_
    refine g_iload X dX9_mix_101 rfl rfl ?_
    refine g_if_eq X dX9_mix_103 (tgt := 123) rfl rfl (fun c6 => ?_) (fun c6 => ?_)
    · replace h := if_t c6 h
      exact g_le (lle_s (lle_s (lle_s (lle_s (lle_s (lle_k (lle_s (lle_s (lle_0))))))))) (ok_HM_mix_b123 X Y hk74 σ h)
    · replace h := if_f c6 h
      refine g_iload X dX9_mix_106 rfl rfl ?_
      refine g_i2l X dX9_mix_108 rfl ?_
      refine g_lconst X kL_0 dX9_mix_109 rfl ?_
      refine g_ldc2 X dX9_mix_110 kc_RX9_228 rfl ?_
      obtain ⟨r9, σ8, h7, h⟩ := bd_e h
      refine g_callSI X [.long ((rI σ 65 (((40 * x2) + x3) + x6)).toInt64), .long 0, .long 12] (ok_HM_in X.inj h7) my_yX9_in mt_yX9_in ml_RX9_91 (by decide) rfl dX9_mix_113 (Nat.le_of_ble_eq_true rfl) rfl rfl ?_
      refine g_if_eq X dX9_mix_116 (tgt := 123) rfl rfl (fun c10 => ?_) (fun c10 => ?_)
      · replace h := if_t c10 h
        exact g_le (lle_s (lle_s (lle_s (lle_s (lle_s (lle_k (lle_s (lle_s (lle_0))))))))) (ok_HM_mix_b123 X Y hk74 σ8 h)
      · replace h := if_f c10 h
        refine g_iconst X kI_1 dX9_mix_119 rfl ?_
        refine g_goto X dX9_mix_120 (tgt := 124) rfl ?_
        exact g_le (lle_s (lle_s (lle_s (lle_s (lle_s (lle_k (lle_s (lle_s (lle_0))))))))) (ok_HM_mix_b124 X Y hk74 σ8 h)
def f_HM_mix_l74 : Int32 → Int32 → Int32 → Int32 → Int32 → Int32 → St → Option (Int64 × St) := lp (fun _ _ _ _ _ _ _ => none) (f_HM_mix_b74) FU
theorem ok_HM_mix_l74 {E : gE} {w : wT} {σ' : St} {r : Int64} (X : gC E w cX9_mix 8 RX9 3) (Y : gQ E w (some .long) (some (.long r)) σ') {x1 : Int32} {x2 : Int32} {x3 : Int32} {x4 : Int32} {x5 : Int32} {x6 : Int32} (σ : St) (h : f_HM_mix_l74 x1 x2 x3 x4 x5 x6 σ = some (r, σ')) : gW E w 8 σ 74 [some (.ref (w.1 9)), some (.int x1), some (.int x2), some (.int x3), some (.int x4), some (.int x5), some (.int x6)] [] :=
  lp_ind (P := fun (k : Int32 → Int32 → Int32 → Int32 → Int32 → Int32 → St → Option (Int64 × St)) => ∀ (x1 : Int32) (x2 : Int32) (x3 : Int32) (x4 : Int32) (x5 : Int32) (x6 : Int32) (σ : St), k x1 x2 x3 x4 x5 x6 σ = some (r, σ') → gW E w 8 σ 74 [some (.ref (w.1 9)), some (.int x1), some (.int x2), some (.int x3), some (.int x4), some (.int x5), some (.int x6)] []) (fun _ _ _ _ _ _ _ hh => nn hh) (fun k hk x1 x2 x3 x4 x5 x6 σ  hh => ok_HM_mix_b74 X Y hk σ hh) FU x1 x2 x3 x4 x5 x6 σ  h

def f_HM_mix_b59 (σ : St) : Option (Int64 × St) :=
  bd (f_HM_found 2 σ) fun r3 σ2 => some (r3, σ2)
set_option maxRecDepth 4000 in
theorem ok_HM_mix_b59 {E : gE} {w : wT} {σ' : St} {r : Int64} (X : gC E w cX9_mix 8 RX9 3) (Y : gQ E w (some .long) (some (.long r)) σ') (σ : St) (h : f_HM_mix_b59 σ = some (r, σ')) : gW E w 8 σ 59 [some (.ref (w.1 9))] [] := by
  unfold f_HM_mix_b59 at h
  refine g_aload_n X dX9_mix_59 rfl rfl ?_
  refine g_iconst X kI_2 dX9_mix_60 rfl ?_
  obtain ⟨r3, σ2, h1, h⟩ := bd_e h
  refine g_callVJ X [.int 2] (ok_HM_found X.inj h1) my_yX9_found mi_yX9_found ms_yX9_found ml_RX9_109 (by decide) rfl rfl (by decide) rfl dX9_mix_61 (Nat.le_of_ble_eq_true rfl) rfl rfl ?_
  obtain ⟨rfl, rfl⟩ := rt_e h
  exact g_lret X Y dX9_mix_64

def f_HM_mix (x1 : Int32) (x2 : Int32) (x3 : Int32) (σ : St) : Option (Int64 × St) :=
  bd (f_HM_isSet x1 σ) fun r3 σ2 => if r3 = 0 then (some ((-9000000000000000001), σ2)) else (bd (f_HM_isRow x2 σ2) fun r7 σ6 => if r7 = 0 then (some ((-9000000000000000001), σ6)) else (ck (ib x2 8) <| if 0 ≤ (rI σ6 63 x2) then (if x3 < 0 then (f_HM_mix_b59 σ6) else (ck (ib x1 20) <| ck (ib x2 8) <| if (x3.toInt64 + ((rI σ6 77 x1).toInt64)) ≤ ((rI σ6 64 x2).toInt64) then (f_HM_mix_l74 x1 x2 x3 0 1 0 σ6) else (f_HM_mix_b59 σ6))) else (bd (f_HM_found 1 σ6) fun r17 σ16 => some (r17, σ16))))
set_option maxRecDepth 4000 in
theorem ok_HM_mix {w : wT} (hi : wInj w) {l : Launch} {x1 : Int32} {x2 : Int32} {x3 : Int32} {σ σ' : St} {r : Int64} (h : f_HM_mix x1 x2 x3 σ = some (r, σ')) : gM w l yX9_mix cX9_mix 8 (some .long) 3 [.ref (w.1 9), .int x1, .int x2, .int x3] σ (some (.long r)) σ' := by
  unfold f_HM_mix at h
  refine gM_of hi (by decide) [some (.ref (w.1 9)), some (.int x1), some (.int x2), some (.int x3)] rfl (Nat.le_of_ble_eq_true rfl) (fun E hl X Y => ?_)
  refine g_aload_n X dX9_mix_0 rfl rfl ?_
  refine g_iload_n X dX9_mix_1 rfl rfl ?_
  obtain ⟨r3, σ2, h1, h⟩ := bd_e h
  refine g_callVI X [.int x1] (ok_HM_isSet X.inj h1) my_yX9_isSet mi_yX9_isSet ms_yX9_isSet ml_RX9_225 (by decide) rfl rfl (by decide) rfl dX9_mix_2 (Nat.le_of_ble_eq_true rfl) rfl rfl ?_
  refine g_if_eq X dX9_mix_5 (tgt := 15) rfl rfl (fun c4 => ?_) (fun c4 => ?_)
  · replace h := if_t c4 h
    refine g_ldc2 X dX9_mix_15 kc_RX9_107 rfl ?_
    obtain ⟨rfl, rfl⟩ := rt_e h
    exact g_lret X Y dX9_mix_18
  · replace h := if_f c4 h
    refine g_iload_n X dX9_mix_8 rfl rfl ?_
    obtain ⟨r7, σ6, h5, h⟩ := bd_e h
    refine g_callSI X [.int x2] (ok_HM_isRow X.inj h5) my_yX9_isRow mt_yX9_isRow ml_RX9_101 (by decide) rfl dX9_mix_9 (Nat.le_of_ble_eq_true rfl) rfl rfl ?_
    refine g_if_ne X dX9_mix_12 (tgt := 19) rfl rfl (fun c8 => ?_) (fun c8 => ?_)
    · replace h := if_f c8 h
      refine g_aload_n X dX9_mix_19 rfl rfl ?_
      refine gf_RX9_7 X dX9_mix_20 rfl ?_
      refine g_iload_n X dX9_mix_23 rfl rfl ?_
      obtain ⟨c9, h⟩ := ck_e h
      refine g_iald X ar_63.1 ar_63.2.1 ar_63.2.2 (ib_e c9) dX9_mix_24 rfl ?_
      refine g_if_ge X dX9_mix_25 (tgt := 34) rfl rfl (fun c10 => ?_) (fun c10 => ?_)
      · replace h := if_t c10 h
        refine g_iload_n X dX9_mix_34 rfl rfl ?_
        refine g_if_lt X dX9_mix_35 (tgt := 59) rfl rfl (fun c11 => ?_) (fun c11 => ?_)
        · replace h := if_t c11 h
          exact g_le (lle_s (lle_0)) (ok_HM_mix_b59 X Y σ6 h)
        · replace h := if_f c11 h
          refine g_iload_n X dX9_mix_38 rfl rfl ?_
          refine g_i2l X dX9_mix_39 rfl ?_
          refine g_aload_n X dX9_mix_40 rfl rfl ?_
          refine gf_RX9_52 X dX9_mix_41 rfl ?_
          refine g_iload_n X dX9_mix_44 rfl rfl ?_
          obtain ⟨c12, h⟩ := ck_e h
          refine g_iald X ar_77.1 ar_77.2.1 ar_77.2.2 (ib_e c12) dX9_mix_45 rfl ?_
          refine g_i2l X dX9_mix_46 rfl ?_
          refine g_ladd X dX9_mix_47 rfl ?_
          refine g_aload_n X dX9_mix_48 rfl rfl ?_
          refine gf_RX9_13 X dX9_mix_49 rfl ?_
          refine g_iload_n X dX9_mix_52 rfl rfl ?_
          obtain ⟨c13, h⟩ := ck_e h
          refine g_iald X ar_64.1 ar_64.2.1 ar_64.2.2 (ib_e c13) dX9_mix_53 rfl ?_
          refine g_i2l X dX9_mix_54 rfl ?_
          refine g_lcmp_le X dX9_mix_55 rfl dX9_mix_56 (tgt := 65) rfl rfl (fun c14 => ?_) (fun c14 => ?_)
          · replace h := if_t c14 h
            refine g_iconst X kI_0 dX9_mix_65 rfl ?_
            refine g_istore X [some (.ref (w.1 9)), some (.int x1), some (.int x2), some (.int x3), some (.int 0)] dX9_mix_66 (Nat.le_of_ble_eq_true rfl) rfl rfl rfl ?_
            refine g_iconst X kI_1 dX9_mix_68 rfl ?_
            refine g_istore X [some (.ref (w.1 9)), some (.int x1), some (.int x2), some (.int x3), some (.int 0), some (.int 1)] dX9_mix_69 (Nat.le_of_ble_eq_true rfl) rfl rfl rfl ?_
            refine g_iconst X kI_0 dX9_mix_71 rfl ?_
            refine g_istore X [some (.ref (w.1 9)), some (.int x1), some (.int x2), some (.int x3), some (.int 0), some (.int 1), some (.int 0)] dX9_mix_72 (Nat.le_of_ble_eq_true rfl) rfl rfl rfl ?_
            exact ok_HM_mix_l74 X Y σ6 h
          · replace h := if_f c14 h
            exact g_le (lle_s (lle_0)) (ok_HM_mix_b59 X Y σ6 h)
      · replace h := if_f c10 h
        refine g_aload_n X dX9_mix_28 rfl rfl ?_
        refine g_iconst X kI_1 dX9_mix_29 rfl ?_
        obtain ⟨r17, σ16, h15, h⟩ := bd_e h
        refine g_callVJ X [.int 1] (ok_HM_found X.inj h15) my_yX9_found mi_yX9_found ms_yX9_found ml_RX9_109 (by decide) rfl rfl (by decide) rfl dX9_mix_30 (Nat.le_of_ble_eq_true rfl) rfl rfl ?_
        obtain ⟨rfl, rfl⟩ := rt_e h
        exact g_lret X Y dX9_mix_33
    · replace h := if_t c8 h
      refine g_ldc2 X dX9_mix_15 kc_RX9_107 rfl ?_
      obtain ⟨rfl, rfl⟩ := rt_e h
      exact g_lret X Y dX9_mix_18

theorem dX9_share_0 : decode cX9_share 0 = .ok (.aload_n 0, 1) := by decide +kernel
theorem dX9_share_1 : decode cX9_share 1 = .ok (.iload_n 1, 1) := by decide +kernel
theorem dX9_share_2 : decode cX9_share 2 = .ok (.invokevirtual 225, 3) := by decide +kernel
theorem dX9_share_5 : decode cX9_share 5 = .ok (.ifCond .eq 35, 3) := by decide +kernel
theorem dX9_share_8 : decode cX9_share 8 = .ok (.iload_n 2, 1) := by decide +kernel
theorem dX9_share_9 : decode cX9_share 9 = .ok (.i2l, 1) := by decide +kernel
theorem dX9_share_10 : decode cX9_share 10 = .ok (.lconst 0, 1) := by decide +kernel
theorem dX9_share_11 : decode cX9_share 11 = .ok (.aload_n 0, 1) := by decide +kernel
theorem dX9_share_12 : decode cX9_share 12 = .ok (.getfield 52, 3) := by decide +kernel
theorem dX9_share_15 : decode cX9_share 15 = .ok (.iload_n 1, 1) := by decide +kernel
theorem dX9_share_16 : decode cX9_share 16 = .ok (.iaload, 1) := by decide +kernel
theorem dX9_share_17 : decode cX9_share 17 = .ok (.iconst 1, 1) := by decide +kernel
theorem dX9_share_18 : decode cX9_share 18 = .ok (.isub, 1) := by decide +kernel
theorem dX9_share_19 : decode cX9_share 19 = .ok (.i2l, 1) := by decide +kernel
theorem dX9_share_20 : decode cX9_share 20 = .ok (.invokestatic 91, 3) := by decide +kernel
theorem dX9_share_23 : decode cX9_share 23 = .ok (.ifCond .eq 17, 3) := by decide +kernel
theorem dX9_share_26 : decode cX9_share 26 = .ok (.aload_n 0, 1) := by decide +kernel
theorem dX9_share_27 : decode cX9_share 27 = .ok (.getfield 55, 3) := by decide +kernel
theorem dX9_share_30 : decode cX9_share 30 = .ok (.iconst 3, 1) := by decide +kernel
theorem dX9_share_31 : decode cX9_share 31 = .ok (.iload_n 1, 1) := by decide +kernel
theorem dX9_share_32 : decode cX9_share 32 = .ok (.imul, 1) := by decide +kernel
theorem dX9_share_33 : decode cX9_share 33 = .ok (.iload_n 2, 1) := by decide +kernel
theorem dX9_share_34 : decode cX9_share 34 = .ok (.iadd, 1) := by decide +kernel
theorem dX9_share_35 : decode cX9_share 35 = .ok (.iaload, 1) := by decide +kernel
theorem dX9_share_36 : decode cX9_share 36 = .ok (.i2l, 1) := by decide +kernel
theorem dX9_share_37 : decode cX9_share 37 = .ok (.goto 6, 3) := by decide +kernel
theorem dX9_share_40 : decode cX9_share 40 = .ok (.ldc2_w 107, 3) := by decide +kernel
theorem dX9_share_43 : decode cX9_share 43 = .ok (.lreturn, 1) := by decide +kernel
def f_HM_share (x1 : Int32) (x2 : Int32) (σ : St) : Option (Int64 × St) :=
  bd (f_HM_isSet x1 σ) fun r3 σ2 => if r3 = 0 then (some ((-9000000000000000001), σ2)) else (ck (ib x1 20) <| bd (f_HM_in x2.toInt64 0 (((rI σ2 77 x1) - 1).toInt64) σ2) fun r8 σ7 => if r8 = 0 then (some ((-9000000000000000001), σ7)) else (ck (ib ((3 * x1) + x2) 30) <| some ((rI σ7 78 ((3 * x1) + x2)).toInt64, σ7)))
set_option maxRecDepth 4000 in
theorem ok_HM_share {w : wT} (hi : wInj w) {l : Launch} {x1 : Int32} {x2 : Int32} {σ σ' : St} {r : Int64} (h : f_HM_share x1 x2 σ = some (r, σ')) : gM w l yX9_share cX9_share 3 (some .long) 3 [.ref (w.1 9), .int x1, .int x2] σ (some (.long r)) σ' := by
  unfold f_HM_share at h
  refine gM_of hi (by decide) [some (.ref (w.1 9)), some (.int x1), some (.int x2)] rfl (Nat.le_of_ble_eq_true rfl) (fun E hl X Y => ?_)
  refine g_aload_n X dX9_share_0 rfl rfl ?_
  refine g_iload_n X dX9_share_1 rfl rfl ?_
  obtain ⟨r3, σ2, h1, h⟩ := bd_e h
  refine g_callVI X [.int x1] (ok_HM_isSet X.inj h1) my_yX9_isSet mi_yX9_isSet ms_yX9_isSet ml_RX9_225 (by decide) rfl rfl (by decide) rfl dX9_share_2 (Nat.le_of_ble_eq_true rfl) rfl rfl ?_
  refine g_if_eq X dX9_share_5 (tgt := 40) rfl rfl (fun c4 => ?_) (fun c4 => ?_)
  · replace h := if_t c4 h
    refine g_ldc2 X dX9_share_40 kc_RX9_107 rfl ?_
    obtain ⟨rfl, rfl⟩ := rt_e h
    exact g_lret X Y dX9_share_43
  · replace h := if_f c4 h
    refine g_iload_n X dX9_share_8 rfl rfl ?_
    refine g_i2l X dX9_share_9 rfl ?_
    refine g_lconst X kL_0 dX9_share_10 rfl ?_
    refine g_aload_n X dX9_share_11 rfl rfl ?_
    refine gf_RX9_52 X dX9_share_12 rfl ?_
    refine g_iload_n X dX9_share_15 rfl rfl ?_
    obtain ⟨c5, h⟩ := ck_e h
    refine g_iald X ar_77.1 ar_77.2.1 ar_77.2.2 (ib_e c5) dX9_share_16 rfl ?_
    refine g_iconst X kI_1 dX9_share_17 rfl ?_
    refine g_isub X dX9_share_18 rfl ?_
    refine g_i2l X dX9_share_19 rfl ?_
    obtain ⟨r8, σ7, h6, h⟩ := bd_e h
    refine g_callSI X [.long x2.toInt64, .long 0, .long (((rI σ2 77 x1) - 1).toInt64)] (ok_HM_in X.inj h6) my_yX9_in mt_yX9_in ml_RX9_91 (by decide) rfl dX9_share_20 (Nat.le_of_ble_eq_true rfl) rfl rfl ?_
    refine g_if_eq X dX9_share_23 (tgt := 40) rfl rfl (fun c9 => ?_) (fun c9 => ?_)
    · replace h := if_t c9 h
      refine g_ldc2 X dX9_share_40 kc_RX9_107 rfl ?_
      obtain ⟨rfl, rfl⟩ := rt_e h
      exact g_lret X Y dX9_share_43
    · replace h := if_f c9 h
      refine g_aload_n X dX9_share_26 rfl rfl ?_
      refine gf_RX9_55 X dX9_share_27 rfl ?_
      refine g_iconst X kI_3 dX9_share_30 rfl ?_
      refine g_iload_n X dX9_share_31 rfl rfl ?_
      refine g_imul X dX9_share_32 rfl ?_
      refine g_iload_n X dX9_share_33 rfl rfl ?_
      refine g_iadd X dX9_share_34 rfl ?_
      obtain ⟨c10, h⟩ := ck_e h
      refine g_iald X ar_78.1 ar_78.2.1 ar_78.2.2 (ib_e c10) dX9_share_35 rfl ?_
      refine g_i2l X dX9_share_36 rfl ?_
      refine g_goto X dX9_share_37 (tgt := 43) rfl ?_
      obtain ⟨rfl, rfl⟩ := rt_e h
      exact g_lret X Y dX9_share_43

theorem dX9_shareTo_0 : decode cX9_shareTo 0 = .ok (.aload_n 0, 1) := by decide +kernel
theorem dX9_shareTo_1 : decode cX9_shareTo 1 = .ok (.getfield 34, 3) := by decide +kernel
theorem dX9_shareTo_4 : decode cX9_shareTo 4 = .ok (.iload_n 1, 1) := by decide +kernel
theorem dX9_shareTo_5 : decode cX9_shareTo 5 = .ok (.iaload, 1) := by decide +kernel
theorem dX9_shareTo_6 : decode cX9_shareTo 6 = .ok (.istore 4, 2) := by decide +kernel
theorem dX9_shareTo_8 : decode cX9_shareTo 8 = .ok (.aload_n 0, 1) := by decide +kernel
theorem dX9_shareTo_9 : decode cX9_shareTo 9 = .ok (.getfield 22, 3) := by decide +kernel
theorem dX9_shareTo_12 : decode cX9_shareTo 12 = .ok (.iload 4, 2) := by decide +kernel
theorem dX9_shareTo_14 : decode cX9_shareTo 14 = .ok (.iaload, 1) := by decide +kernel
theorem dX9_shareTo_15 : decode cX9_shareTo 15 = .ok (.iconst 1, 1) := by decide +kernel
theorem dX9_shareTo_16 : decode cX9_shareTo 16 = .ok (.if_icmp .ne 10, 3) := by decide +kernel
theorem dX9_shareTo_19 : decode cX9_shareTo 19 = .ok (.aload_n 0, 1) := by decide +kernel
theorem dX9_shareTo_20 : decode cX9_shareTo 20 = .ok (.getfield 40, 3) := by decide +kernel
theorem dX9_shareTo_23 : decode cX9_shareTo 23 = .ok (.iload_n 1, 1) := by decide +kernel
theorem dX9_shareTo_24 : decode cX9_shareTo 24 = .ok (.iaload, 1) := by decide +kernel
theorem dX9_shareTo_25 : decode cX9_shareTo 25 = .ok (.ireturn, 1) := by decide +kernel
theorem dX9_shareTo_26 : decode cX9_shareTo 26 = .ok (.aload_n 0, 1) := by decide +kernel
theorem dX9_shareTo_27 : decode cX9_shareTo 27 = .ok (.getfield 28, 3) := by decide +kernel
theorem dX9_shareTo_30 : decode cX9_shareTo 30 = .ok (.iload 4, 2) := by decide +kernel
theorem dX9_shareTo_32 : decode cX9_shareTo 32 = .ok (.iaload, 1) := by decide +kernel
theorem dX9_shareTo_33 : decode cX9_shareTo 33 = .ok (.istore 5, 2) := by decide +kernel
theorem dX9_shareTo_35 : decode cX9_shareTo 35 = .ok (.aload_n 0, 1) := by decide +kernel
theorem dX9_shareTo_36 : decode cX9_shareTo 36 = .ok (.getfield 49, 3) := by decide +kernel
theorem dX9_shareTo_39 : decode cX9_shareTo 39 = .ok (.iload 5, 2) := by decide +kernel
theorem dX9_shareTo_41 : decode cX9_shareTo 41 = .ok (.iaload, 1) := by decide +kernel
theorem dX9_shareTo_42 : decode cX9_shareTo 42 = .ok (.iload_n 2, 1) := by decide +kernel
theorem dX9_shareTo_43 : decode cX9_shareTo 43 = .ok (.if_icmp .ne 6, 3) := by decide +kernel
theorem dX9_shareTo_46 : decode cX9_shareTo 46 = .ok (.bipush 12, 2) := by decide +kernel
theorem dX9_shareTo_48 : decode cX9_shareTo 48 = .ok (.ireturn, 1) := by decide +kernel
theorem dX9_shareTo_49 : decode cX9_shareTo 49 = .ok (.iload_n 3, 1) := by decide +kernel
theorem dX9_shareTo_50 : decode cX9_shareTo 50 = .ok (.ifCond .ge 22, 3) := by decide +kernel
theorem dX9_shareTo_53 : decode cX9_shareTo 53 = .ok (.aload_n 0, 1) := by decide +kernel
theorem dX9_shareTo_54 : decode cX9_shareTo 54 = .ok (.getfield 55, 3) := by decide +kernel
theorem dX9_shareTo_57 : decode cX9_shareTo 57 = .ok (.iconst 3, 1) := by decide +kernel
theorem dX9_shareTo_58 : decode cX9_shareTo 58 = .ok (.iload 5, 2) := by decide +kernel
theorem dX9_shareTo_60 : decode cX9_shareTo 60 = .ok (.imul, 1) := by decide +kernel
theorem dX9_shareTo_61 : decode cX9_shareTo 61 = .ok (.aload_n 0, 1) := by decide +kernel
theorem dX9_shareTo_62 : decode cX9_shareTo 62 = .ok (.getfield 37, 3) := by decide +kernel
theorem dX9_shareTo_65 : decode cX9_shareTo 65 = .ok (.iload_n 1, 1) := by decide +kernel
theorem dX9_shareTo_66 : decode cX9_shareTo 66 = .ok (.iaload, 1) := by decide +kernel
theorem dX9_shareTo_67 : decode cX9_shareTo 67 = .ok (.iadd, 1) := by decide +kernel
theorem dX9_shareTo_68 : decode cX9_shareTo 68 = .ok (.iaload, 1) := by decide +kernel
theorem dX9_shareTo_69 : decode cX9_shareTo 69 = .ok (.goto 30, 3) := by decide +kernel
theorem dX9_shareTo_72 : decode cX9_shareTo 72 = .ok (.aload_n 0, 1) := by decide +kernel
theorem dX9_shareTo_73 : decode cX9_shareTo 73 = .ok (.getfield 58, 3) := by decide +kernel
theorem dX9_shareTo_76 : decode cX9_shareTo 76 = .ok (.bipush 10, 2) := by decide +kernel
theorem dX9_shareTo_78 : decode cX9_shareTo 78 = .ok (.iload_n 3, 1) := by decide +kernel
theorem dX9_shareTo_79 : decode cX9_shareTo 79 = .ok (.imul, 1) := by decide +kernel
theorem dX9_shareTo_80 : decode cX9_shareTo 80 = .ok (.iload 5, 2) := by decide +kernel
theorem dX9_shareTo_82 : decode cX9_shareTo 82 = .ok (.iadd, 1) := by decide +kernel
theorem dX9_shareTo_83 : decode cX9_shareTo 83 = .ok (.iaload, 1) := by decide +kernel
theorem dX9_shareTo_84 : decode cX9_shareTo 84 = .ok (.aload_n 0, 1) := by decide +kernel
theorem dX9_shareTo_85 : decode cX9_shareTo 85 = .ok (.getfield 37, 3) := by decide +kernel
theorem dX9_shareTo_88 : decode cX9_shareTo 88 = .ok (.iload_n 1, 1) := by decide +kernel
theorem dX9_shareTo_89 : decode cX9_shareTo 89 = .ok (.iaload, 1) := by decide +kernel
theorem dX9_shareTo_90 : decode cX9_shareTo 90 = .ok (.if_icmp .ne 8, 3) := by decide +kernel
theorem dX9_shareTo_93 : decode cX9_shareTo 93 = .ok (.bipush 12, 2) := by decide +kernel
theorem dX9_shareTo_95 : decode cX9_shareTo 95 = .ok (.goto 4, 3) := by decide +kernel
theorem dX9_shareTo_98 : decode cX9_shareTo 98 = .ok (.iconst 0, 1) := by decide +kernel
theorem dX9_shareTo_99 : decode cX9_shareTo 99 = .ok (.ireturn, 1) := by decide +kernel
def f_HM_shareTo (x1 : Int32) (x2 : Int32) (x3 : Int32) (σ : St) : Option (Int32 × St) :=
  ck (ib x1 120) <| ck (ib (rI σ 71 x1) 120) <| if (rI σ 67 (rI σ 71 x1)) = 1 then (ck (ib x1 120) <| some (rI σ 73 x1, σ)) else (ck (ib (rI σ 71 x1) 120) <| ck (ib (rI σ 69 (rI σ 71 x1)) 20) <| if (rI σ 76 (rI σ 69 (rI σ 71 x1))) = x2 then (some (12, σ)) else (if 0 ≤ x3 then (ck (ib ((10 * x3) + (rI σ 69 (rI σ 71 x1))) 600) <| ck (ib x1 120) <| if (rI σ 79 ((10 * x3) + (rI σ 69 (rI σ 71 x1)))) = (rI σ 72 x1) then (some (12, σ)) else (some (0, σ))) else (ck (ib x1 120) <| ck (ib ((3 * (rI σ 69 (rI σ 71 x1))) + (rI σ 72 x1)) 30) <| some (rI σ 78 ((3 * (rI σ 69 (rI σ 71 x1))) + (rI σ 72 x1)), σ))))
set_option maxRecDepth 4000 in
theorem ok_HM_shareTo {w : wT} (hi : wInj w) {l : Launch} {x1 : Int32} {x2 : Int32} {x3 : Int32} {σ σ' : St} {r : Int32} (h : f_HM_shareTo x1 x2 x3 σ = some (r, σ')) : gM w l yX9_shareTo cX9_shareTo 6 (some .int) 1 [.ref (w.1 9), .int x1, .int x2, .int x3] σ (some (.int r)) σ' := by
  unfold f_HM_shareTo at h
  refine gM_of hi (by decide) [some (.ref (w.1 9)), some (.int x1), some (.int x2), some (.int x3)] rfl (Nat.le_of_ble_eq_true rfl) (fun E hl X Y => ?_)
  refine g_aload_n X dX9_shareTo_0 rfl rfl ?_
  refine gf_RX9_34 X dX9_shareTo_1 rfl ?_
  refine g_iload_n X dX9_shareTo_4 rfl rfl ?_
  obtain ⟨c1, h⟩ := ck_e h
  refine g_iald X ar_71.1 ar_71.2.1 ar_71.2.2 (ib_e c1) dX9_shareTo_5 rfl ?_
  refine g_istore X [some (.ref (w.1 9)), some (.int x1), some (.int x2), some (.int x3), some (.int (rI σ 71 x1))] dX9_shareTo_6 (Nat.le_of_ble_eq_true rfl) rfl rfl rfl ?_
  refine g_aload_n X dX9_shareTo_8 rfl rfl ?_
  refine gf_RX9_22 X dX9_shareTo_9 rfl ?_
  refine g_iload X dX9_shareTo_12 rfl rfl ?_
  obtain ⟨c2, h⟩ := ck_e h
  refine g_iald X ar_67.1 ar_67.2.1 ar_67.2.2 (ib_e c2) dX9_shareTo_14 rfl ?_
  refine g_iconst X kI_1 dX9_shareTo_15 rfl ?_
  refine g_icmp_ne X dX9_shareTo_16 (tgt := 26) rfl rfl (fun c3 => ?_) (fun c3 => ?_)
  · replace h := if_f c3 h
    refine g_aload_n X dX9_shareTo_26 rfl rfl ?_
    refine gf_RX9_28 X dX9_shareTo_27 rfl ?_
    refine g_iload X dX9_shareTo_30 rfl rfl ?_
    obtain ⟨c4, h⟩ := ck_e h
    refine g_iald X ar_69.1 ar_69.2.1 ar_69.2.2 (ib_e c4) dX9_shareTo_32 rfl ?_
    refine g_istore X [some (.ref (w.1 9)), some (.int x1), some (.int x2), some (.int x3), some (.int (rI σ 71 x1)), some (.int (rI σ 69 (rI σ 71 x1)))] dX9_shareTo_33 (Nat.le_of_ble_eq_true rfl) rfl rfl rfl ?_
    refine g_aload_n X dX9_shareTo_35 rfl rfl ?_
    refine gf_RX9_49 X dX9_shareTo_36 rfl ?_
    refine g_iload X dX9_shareTo_39 rfl rfl ?_
    obtain ⟨c5, h⟩ := ck_e h
    refine g_iald X ar_76.1 ar_76.2.1 ar_76.2.2 (ib_e c5) dX9_shareTo_41 rfl ?_
    refine g_iload_n X dX9_shareTo_42 rfl rfl ?_
    refine g_icmp_ne X dX9_shareTo_43 (tgt := 49) rfl rfl (fun c6 => ?_) (fun c6 => ?_)
    · replace h := if_f c6 h
      refine g_iload_n X dX9_shareTo_49 rfl rfl ?_
      refine g_if_ge X dX9_shareTo_50 (tgt := 72) rfl rfl (fun c7 => ?_) (fun c7 => ?_)
      · replace h := if_t c7 h
        refine g_aload_n X dX9_shareTo_72 rfl rfl ?_
        refine gf_RX9_58 X dX9_shareTo_73 rfl ?_
        refine g_bipush X kB_10 dX9_shareTo_76 rfl ?_
        refine g_iload_n X dX9_shareTo_78 rfl rfl ?_
        refine g_imul X dX9_shareTo_79 rfl ?_
        refine g_iload X dX9_shareTo_80 rfl rfl ?_
        refine g_iadd X dX9_shareTo_82 rfl ?_
        obtain ⟨c8, h⟩ := ck_e h
        refine g_iald X ar_79.1 ar_79.2.1 ar_79.2.2 (ib_e c8) dX9_shareTo_83 rfl ?_
        refine g_aload_n X dX9_shareTo_84 rfl rfl ?_
        refine gf_RX9_37 X dX9_shareTo_85 rfl ?_
        refine g_iload_n X dX9_shareTo_88 rfl rfl ?_
        obtain ⟨c9, h⟩ := ck_e h
        refine g_iald X ar_72.1 ar_72.2.1 ar_72.2.2 (ib_e c9) dX9_shareTo_89 rfl ?_
        refine g_icmp_ne X dX9_shareTo_90 (tgt := 98) rfl rfl (fun c10 => ?_) (fun c10 => ?_)
        · replace h := if_f c10 h
          refine g_iconst X kI_0 dX9_shareTo_98 rfl ?_
          obtain ⟨rfl, rfl⟩ := rt_e h
          exact g_iret X Y dX9_shareTo_99
        · replace h := if_t c10 h
          refine g_bipush X kB_12 dX9_shareTo_93 rfl ?_
          refine g_goto X dX9_shareTo_95 (tgt := 99) rfl ?_
          obtain ⟨rfl, rfl⟩ := rt_e h
          exact g_iret X Y dX9_shareTo_99
      · replace h := if_f c7 h
        refine g_aload_n X dX9_shareTo_53 rfl rfl ?_
        refine gf_RX9_55 X dX9_shareTo_54 rfl ?_
        refine g_iconst X kI_3 dX9_shareTo_57 rfl ?_
        refine g_iload X dX9_shareTo_58 rfl rfl ?_
        refine g_imul X dX9_shareTo_60 rfl ?_
        refine g_aload_n X dX9_shareTo_61 rfl rfl ?_
        refine gf_RX9_37 X dX9_shareTo_62 rfl ?_
        refine g_iload_n X dX9_shareTo_65 rfl rfl ?_
        obtain ⟨c11, h⟩ := ck_e h
        refine g_iald X ar_72.1 ar_72.2.1 ar_72.2.2 (ib_e c11) dX9_shareTo_66 rfl ?_
        refine g_iadd X dX9_shareTo_67 rfl ?_
        obtain ⟨c12, h⟩ := ck_e h
        refine g_iald X ar_78.1 ar_78.2.1 ar_78.2.2 (ib_e c12) dX9_shareTo_68 rfl ?_
        refine g_goto X dX9_shareTo_69 (tgt := 99) rfl ?_
        obtain ⟨rfl, rfl⟩ := rt_e h
        exact g_iret X Y dX9_shareTo_99
    · replace h := if_t c6 h
      refine g_bipush X kB_12 dX9_shareTo_46 rfl ?_
      obtain ⟨rfl, rfl⟩ := rt_e h
      exact g_iret X Y dX9_shareTo_48
  · replace h := if_t c3 h
    refine g_aload_n X dX9_shareTo_19 rfl rfl ?_
    refine gf_RX9_40 X dX9_shareTo_20 rfl ?_
    refine g_iload_n X dX9_shareTo_23 rfl rfl ?_
    obtain ⟨c13, h⟩ := ck_e h
    refine g_iald X ar_73.1 ar_73.2.1 ar_73.2.2 (ib_e c13) dX9_shareTo_24 rfl ?_
    obtain ⟨rfl, rfl⟩ := rt_e h
    exact g_iret X Y dX9_shareTo_25

theorem dX9_layReach_0 : decode cX9_layReach 0 = .ok (.aload_n 0, 1) := by decide +kernel
theorem dX9_layReach_1 : decode cX9_layReach 1 = .ok (.getfield 73, 3) := by decide +kernel
theorem dX9_layReach_4 : decode cX9_layReach 4 = .ok (.iconst 0, 1) := by decide +kernel
theorem dX9_layReach_5 : decode cX9_layReach 5 = .ok (.ldc2_w 230, 3) := by decide +kernel
theorem dX9_layReach_8 : decode cX9_layReach 8 = .ok (.lastore, 1) := by decide +kernel
theorem dX9_layReach_9 : decode cX9_layReach 9 = .ok (.iconst 1, 1) := by decide +kernel
theorem dX9_layReach_10 : decode cX9_layReach 10 = .ok (.istore_n 3, 1) := by decide +kernel
theorem dX9_layReach_11 : decode cX9_layReach 11 = .ok (.iload_n 3, 1) := by decide +kernel
theorem dX9_layReach_12 : decode cX9_layReach 12 = .ok (.aload_n 0, 1) := by decide +kernel
theorem dX9_layReach_13 : decode cX9_layReach 13 = .ok (.getfield 192, 3) := by decide +kernel
theorem dX9_layReach_16 : decode cX9_layReach 16 = .ok (.if_icmp .ge 39, 3) := by decide +kernel
theorem dX9_layReach_19 : decode cX9_layReach 19 = .ok (.aload_n 0, 1) := by decide +kernel
theorem dX9_layReach_20 : decode cX9_layReach 20 = .ok (.getfield 73, 3) := by decide +kernel
theorem dX9_layReach_23 : decode cX9_layReach 23 = .ok (.iload_n 3, 1) := by decide +kernel
theorem dX9_layReach_24 : decode cX9_layReach 24 = .ok (.aload_n 0, 1) := by decide +kernel
theorem dX9_layReach_25 : decode cX9_layReach 25 = .ok (.getfield 73, 3) := by decide +kernel
theorem dX9_layReach_28 : decode cX9_layReach 28 = .ok (.aload_n 0, 1) := by decide +kernel
theorem dX9_layReach_29 : decode cX9_layReach 29 = .ok (.getfield 34, 3) := by decide +kernel
theorem dX9_layReach_32 : decode cX9_layReach 32 = .ok (.iload_n 3, 1) := by decide +kernel
theorem dX9_layReach_33 : decode cX9_layReach 33 = .ok (.iaload, 1) := by decide +kernel
theorem dX9_layReach_34 : decode cX9_layReach 34 = .ok (.laload, 1) := by decide +kernel
theorem dX9_layReach_35 : decode cX9_layReach 35 = .ok (.ldc2_w 228, 3) := by decide +kernel
theorem dX9_layReach_38 : decode cX9_layReach 38 = .ok (.ldiv, 1) := by decide +kernel
theorem dX9_layReach_39 : decode cX9_layReach 39 = .ok (.aload_n 0, 1) := by decide +kernel
theorem dX9_layReach_40 : decode cX9_layReach 40 = .ok (.iload_n 3, 1) := by decide +kernel
theorem dX9_layReach_41 : decode cX9_layReach 41 = .ok (.iload_n 1, 1) := by decide +kernel
theorem dX9_layReach_42 : decode cX9_layReach 42 = .ok (.iload_n 2, 1) := by decide +kernel
theorem dX9_layReach_43 : decode cX9_layReach 43 = .ok (.invokevirtual 232, 3) := by decide +kernel
theorem dX9_layReach_46 : decode cX9_layReach 46 = .ok (.i2l, 1) := by decide +kernel
theorem dX9_layReach_47 : decode cX9_layReach 47 = .ok (.lmul, 1) := by decide +kernel
theorem dX9_layReach_48 : decode cX9_layReach 48 = .ok (.lastore, 1) := by decide +kernel
theorem dX9_layReach_49 : decode cX9_layReach 49 = .ok (.iinc 3 1, 3) := by decide +kernel
theorem dX9_layReach_52 : decode cX9_layReach 52 = .ok (.goto (-41), 3) := by decide +kernel
theorem dX9_layReach_55 : decode cX9_layReach 55 = .ok (.return_, 1) := by decide +kernel
def f_HM_layReach_b11 (k11 : Int32 → Int32 → Int32 → St → Option St) (x1 : Int32) (x2 : Int32) (x3 : Int32) (σ : St) : Option St :=
  if (rF σ 43) ≤ x3 then (some σ) else (ck (ib x3 120) <| ck (ib (rI σ 71 x3) 60) <| bd (f_HM_shareTo x3 x1 x2 σ) fun r6 σ5 => ck (ib x3 60) <| lE (stL σ5 84 x3.toNatClampNeg (((rL σ 84 (rI σ 71 x3)) / 12) * r6.toInt64)) fun σ8 => k11 x1 x2 (x3 + 1) σ8)
set_option maxRecDepth 4000 in
theorem ok_HM_layReach_b11 {E : gE} {w : wT} {σ' : St} (X : gC E w cX9_layReach 4 RX9 2) (Y : gQ E w none none σ') {k11 : Int32 → Int32 → Int32 → St → Option St} (hk11 : ∀ (x1 : Int32) (x2 : Int32) (x3 : Int32) (σ : St), k11 x1 x2 x3 σ = some σ' → gW E w 4 σ 11 [some (.ref (w.1 9)), some (.int x1), some (.int x2), some (.int x3)] []) {x1 : Int32} {x2 : Int32} {x3 : Int32} (σ : St) (h : f_HM_layReach_b11 k11 x1 x2 x3 σ = some σ') : gW E w 4 σ 11 [some (.ref (w.1 9)), some (.int x1), some (.int x2), some (.int x3)] [] := by
  unfold f_HM_layReach_b11 at h
  refine g_iload_n X dX9_layReach_11 rfl rfl ?_
  refine g_aload_n X dX9_layReach_12 rfl rfl ?_
  refine gf_RX9_192 X dX9_layReach_13 rfl ?_
  refine g_icmp_ge X dX9_layReach_16 (tgt := 55) rfl rfl (fun c1 => ?_) (fun c1 => ?_)
  · replace h := if_t c1 h
    obtain rfl := rv_e h
    exact g_vret X Y dX9_layReach_55
  · replace h := if_f c1 h
    refine g_aload_n X dX9_layReach_19 rfl rfl ?_
    refine gf_RX9_73 X dX9_layReach_20 rfl ?_
    refine g_iload_n X dX9_layReach_23 rfl rfl ?_
    refine g_aload_n X dX9_layReach_24 rfl rfl ?_
    refine gf_RX9_73 X dX9_layReach_25 rfl ?_
    refine g_aload_n X dX9_layReach_28 rfl rfl ?_
    refine gf_RX9_34 X dX9_layReach_29 rfl ?_
    refine g_iload_n X dX9_layReach_32 rfl rfl ?_
    obtain ⟨c2, h⟩ := ck_e h
    refine g_iald X ar_71.1 ar_71.2.1 ar_71.2.2 (ib_e c2) dX9_layReach_33 rfl ?_
    obtain ⟨c3, h⟩ := ck_e h
    refine g_lald X ar_84.1 ar_84.2.1 ar_84.2.2 (ib_e c3) dX9_layReach_34 rfl ?_
    refine g_ldc2 X dX9_layReach_35 kc_RX9_228 rfl ?_
    refine g_ldiv X dX9_layReach_38 (by decide) rfl ?_
    refine g_aload_n X dX9_layReach_39 rfl rfl ?_
    refine g_iload_n X dX9_layReach_40 rfl rfl ?_
    refine g_iload_n X dX9_layReach_41 rfl rfl ?_
    refine g_iload_n X dX9_layReach_42 rfl rfl ?_
    obtain ⟨r6, σ5, h4, h⟩ := bd_e h
    refine g_callVI X [.int x3, .int x1, .int x2] (ok_HM_shareTo X.inj h4) my_yX9_shareTo mi_yX9_shareTo ms_yX9_shareTo ml_RX9_232 (by decide) rfl rfl (by decide) rfl dX9_layReach_43 (Nat.le_of_ble_eq_true rfl) rfl rfl ?_
    refine g_i2l X dX9_layReach_46 rfl ?_
    refine g_lmul X dX9_layReach_47 rfl ?_
    obtain ⟨c7, h⟩ := ck_e h
    refine g_last X ar_84.1 ar_84.2.1 ar_84.2.2 (ib_e c7) dX9_layReach_48 rfl (fun σ8 e9 => ?_)
    replace h := lE_c e9 h
    refine g_iinc X [some (.ref (w.1 9)), some (.int x1), some (.int x2), some (.int (x3 + 1))] dX9_layReach_49 rfl (ii_1 x3) (Nat.le_of_ble_eq_true rfl) rfl rfl rfl ?_
    refine g_goto X dX9_layReach_52 (tgt := 11) rfl ?_
    exact hk11 x1 x2 (x3 + 1) σ8 h
def f_HM_layReach_l11 : Int32 → Int32 → Int32 → St → Option St := lp (fun _ _ _ _ => none) (f_HM_layReach_b11) FU
theorem ok_HM_layReach_l11 {E : gE} {w : wT} {σ' : St} (X : gC E w cX9_layReach 4 RX9 2) (Y : gQ E w none none σ') {x1 : Int32} {x2 : Int32} {x3 : Int32} (σ : St) (h : f_HM_layReach_l11 x1 x2 x3 σ = some σ') : gW E w 4 σ 11 [some (.ref (w.1 9)), some (.int x1), some (.int x2), some (.int x3)] [] :=
  lp_ind (P := fun (k : Int32 → Int32 → Int32 → St → Option St) => ∀ (x1 : Int32) (x2 : Int32) (x3 : Int32) (σ : St), k x1 x2 x3 σ = some σ' → gW E w 4 σ 11 [some (.ref (w.1 9)), some (.int x1), some (.int x2), some (.int x3)] []) (fun _ _ _ _ hh => nn hh) (fun k hk x1 x2 x3 σ  hh => ok_HM_layReach_b11 X Y hk σ hh) FU x1 x2 x3 σ  h

def f_HM_layReach (x1 : Int32) (x2 : Int32) (σ : St) : Option St :=
  ck (ib 0 60) <| lE (stL σ 84 (0 : Int32).toNatClampNeg 429981696) fun σ2 => f_HM_layReach_l11 x1 x2 1 σ2
set_option maxRecDepth 4000 in
theorem ok_HM_layReach {w : wT} (hi : wInj w) {l : Launch} {x1 : Int32} {x2 : Int32} {σ σ' : St} (h : f_HM_layReach x1 x2 σ = some σ') : gM w l yX9_layReach cX9_layReach 4 none 2 [.ref (w.1 9), .int x1, .int x2] σ none σ' := by
  unfold f_HM_layReach at h
  refine gM_of hi (by decide) [some (.ref (w.1 9)), some (.int x1), some (.int x2)] rfl (Nat.le_of_ble_eq_true rfl) (fun E hl X Y => ?_)
  refine g_aload_n X dX9_layReach_0 rfl rfl ?_
  refine gf_RX9_73 X dX9_layReach_1 rfl ?_
  refine g_iconst X kI_0 dX9_layReach_4 rfl ?_
  refine g_ldc2 X dX9_layReach_5 kc_RX9_230 rfl ?_
  obtain ⟨c1, h⟩ := ck_e h
  refine g_last X ar_84.1 ar_84.2.1 ar_84.2.2 (ib_e c1) dX9_layReach_8 rfl (fun σ2 e3 => ?_)
  replace h := lE_c e3 h
  refine g_iconst X kI_1 dX9_layReach_9 rfl ?_
  refine g_istore_n X [some (.ref (w.1 9)), some (.int x1), some (.int x2), some (.int 1)] dX9_layReach_10 (Nat.le_of_ble_eq_true rfl) rfl rfl rfl ?_
  exact ok_HM_layReach_l11 X Y σ2 h
