theorem dX3_workOut_0 : decode cX3_workOut 0 = .ok (.aload_n 3, 1) := by decide +kernel
theorem dX3_workOut_1 : decode cX3_workOut 1 = .ok (.iconst 0, 1) := by decide +kernel
theorem dX3_workOut_2 : decode cX3_workOut 2 = .ok (.ldc2_w 23, 3) := by decide +kernel
theorem dX3_workOut_5 : decode cX3_workOut 5 = .ok (.lastore, 1) := by decide +kernel
theorem dX3_workOut_6 : decode cX3_workOut 6 = .ok (.iconst 1, 1) := by decide +kernel
theorem dX3_workOut_7 : decode cX3_workOut 7 = .ok (.istore 4, 2) := by decide +kernel
theorem dX3_workOut_9 : decode cX3_workOut 9 = .ok (.iload 4, 2) := by decide +kernel
theorem dX3_workOut_11 : decode cX3_workOut 11 = .ok (.aload_n 1, 1) := by decide +kernel
theorem dX3_workOut_12 : decode cX3_workOut 12 = .ok (.getfield 25, 3) := by decide +kernel
theorem dX3_workOut_15 : decode cX3_workOut 15 = .ok (.if_icmp .ge 94, 3) := by decide +kernel
theorem dX3_workOut_18 : decode cX3_workOut 18 = .ok (.aload_n 1, 1) := by decide +kernel
theorem dX3_workOut_19 : decode cX3_workOut 19 = .ok (.getfield 31, 3) := by decide +kernel
theorem dX3_workOut_22 : decode cX3_workOut 22 = .ok (.iload 4, 2) := by decide +kernel
theorem dX3_workOut_24 : decode cX3_workOut 24 = .ok (.iaload, 1) := by decide +kernel
theorem dX3_workOut_25 : decode cX3_workOut 25 = .ok (.istore 5, 2) := by decide +kernel
theorem dX3_workOut_27 : decode cX3_workOut 27 = .ok (.bipush 12, 2) := by decide +kernel
theorem dX3_workOut_29 : decode cX3_workOut 29 = .ok (.istore 6, 2) := by decide +kernel
theorem dX3_workOut_31 : decode cX3_workOut 31 = .ok (.aload_n 1, 1) := by decide +kernel
theorem dX3_workOut_32 : decode cX3_workOut 32 = .ok (.getfield 34, 3) := by decide +kernel
theorem dX3_workOut_35 : decode cX3_workOut 35 = .ok (.iload 5, 2) := by decide +kernel
theorem dX3_workOut_37 : decode cX3_workOut 37 = .ok (.iaload, 1) := by decide +kernel
theorem dX3_workOut_38 : decode cX3_workOut 38 = .ok (.iconst 1, 1) := by decide +kernel
theorem dX3_workOut_39 : decode cX3_workOut 39 = .ok (.if_icmp .ne 15, 3) := by decide +kernel
theorem dX3_workOut_42 : decode cX3_workOut 42 = .ok (.aload_n 1, 1) := by decide +kernel
theorem dX3_workOut_43 : decode cX3_workOut 43 = .ok (.getfield 37, 3) := by decide +kernel
theorem dX3_workOut_46 : decode cX3_workOut 46 = .ok (.iload 4, 2) := by decide +kernel
theorem dX3_workOut_48 : decode cX3_workOut 48 = .ok (.iaload, 1) := by decide +kernel
theorem dX3_workOut_49 : decode cX3_workOut 49 = .ok (.istore 6, 2) := by decide +kernel
theorem dX3_workOut_51 : decode cX3_workOut 51 = .ok (.goto 36, 3) := by decide +kernel
theorem dX3_workOut_54 : decode cX3_workOut 54 = .ok (.aload_n 1, 1) := by decide +kernel
theorem dX3_workOut_55 : decode cX3_workOut 55 = .ok (.getfield 34, 3) := by decide +kernel
theorem dX3_workOut_58 : decode cX3_workOut 58 = .ok (.iload 5, 2) := by decide +kernel
theorem dX3_workOut_60 : decode cX3_workOut 60 = .ok (.iaload, 1) := by decide +kernel
theorem dX3_workOut_61 : decode cX3_workOut 61 = .ok (.iconst 2, 1) := by decide +kernel
theorem dX3_workOut_62 : decode cX3_workOut 62 = .ok (.isub, 1) := by decide +kernel
theorem dX3_workOut_63 : decode cX3_workOut 63 = .ok (.iload_n 2, 1) := by decide +kernel
theorem dX3_workOut_64 : decode cX3_workOut 64 = .ok (.if_icmp .eq 23, 3) := by decide +kernel
theorem dX3_workOut_67 : decode cX3_workOut 67 = .ok (.aload_n 0, 1) := by decide +kernel
theorem dX3_workOut_68 : decode cX3_workOut 68 = .ok (.aload_n 1, 1) := by decide +kernel
theorem dX3_workOut_69 : decode cX3_workOut 69 = .ok (.getfield 40, 3) := by decide +kernel
theorem dX3_workOut_72 : decode cX3_workOut 72 = .ok (.iload 5, 2) := by decide +kernel
theorem dX3_workOut_74 : decode cX3_workOut 74 = .ok (.iaload, 1) := by decide +kernel
theorem dX3_workOut_75 : decode cX3_workOut 75 = .ok (.aload_n 1, 1) := by decide +kernel
theorem dX3_workOut_76 : decode cX3_workOut 76 = .ok (.getfield 43, 3) := by decide +kernel
theorem dX3_workOut_79 : decode cX3_workOut 79 = .ok (.iload 4, 2) := by decide +kernel
theorem dX3_workOut_81 : decode cX3_workOut 81 = .ok (.iaload, 1) := by decide +kernel
theorem dX3_workOut_82 : decode cX3_workOut 82 = .ok (.invokevirtual 46, 3) := by decide +kernel
theorem dX3_workOut_85 : decode cX3_workOut 85 = .ok (.istore 6, 2) := by decide +kernel
theorem dX3_workOut_87 : decode cX3_workOut 87 = .ok (.aload_n 3, 1) := by decide +kernel
theorem dX3_workOut_88 : decode cX3_workOut 88 = .ok (.iload 4, 2) := by decide +kernel
theorem dX3_workOut_90 : decode cX3_workOut 90 = .ok (.aload_n 3, 1) := by decide +kernel
theorem dX3_workOut_91 : decode cX3_workOut 91 = .ok (.iload 5, 2) := by decide +kernel
theorem dX3_workOut_93 : decode cX3_workOut 93 = .ok (.laload, 1) := by decide +kernel
theorem dX3_workOut_94 : decode cX3_workOut 94 = .ok (.ldc2_w 50, 3) := by decide +kernel
theorem dX3_workOut_97 : decode cX3_workOut 97 = .ok (.ldiv, 1) := by decide +kernel
theorem dX3_workOut_98 : decode cX3_workOut 98 = .ok (.iload 6, 2) := by decide +kernel
theorem dX3_workOut_100 : decode cX3_workOut 100 = .ok (.i2l, 1) := by decide +kernel
theorem dX3_workOut_101 : decode cX3_workOut 101 = .ok (.lmul, 1) := by decide +kernel
theorem dX3_workOut_102 : decode cX3_workOut 102 = .ok (.lastore, 1) := by decide +kernel
theorem dX3_workOut_103 : decode cX3_workOut 103 = .ok (.iinc 4 1, 3) := by decide +kernel
theorem dX3_workOut_106 : decode cX3_workOut 106 = .ok (.goto (-97), 3) := by decide +kernel
theorem dX3_workOut_109 : decode cX3_workOut 109 = .ok (.return_, 1) := by decide +kernel
def f_Plan_workOut_b87 (q : Nat) (g : Nat) (a : Nat) (k9 : Int32 → Int32 → St → Option St) (x2 : Int32) (x4 : Int32) (x5 : Int32) (x6 : Int32) (σ : St) : Option St :=
  ck (ib x5 60) <| ck (ib x4 60) <| lE (stL σ a x4.toNatClampNeg (((rL σ a x5) / 12) * x6.toInt64)) fun σ3 => k9 x2 (x4 + 1) σ3
set_option maxRecDepth 4000 in
theorem ok_Plan_workOut_b87 {E : gE} {w : wT} {σ' : St} (X : gC E w cX3_workOut 7 RX3 2) (Y : gQ E w none none σ') {q : Nat} (hq : isP q = true) {g : Nat} (hg : isG g = true) {a : Nat} (ha : isL a = true) {k9 : Int32 → Int32 → St → Option St} (hk9 : ∀ (x2 : Int32) (x4 : Int32) (σ : St), k9 x2 x4 σ = some σ' → gW E w 7 σ 9 [some (.ref (w.1 q)), some (.ref (w.1 g)), some (.int x2), some (.ref (w.1 a)), some (.int x4)] []) {x2 : Int32} {x4 : Int32} {x5 : Int32} {x6 : Int32} (σ : St) (h : f_Plan_workOut_b87 q g a k9 x2 x4 x5 x6 σ = some σ') : gW E w 7 σ 87 [some (.ref (w.1 q)), some (.ref (w.1 g)), some (.int x2), some (.ref (w.1 a)), some (.int x4), some (.int x5), some (.int x6)] [] := by
  unfold f_Plan_workOut_b87 at h
  refine g_aload_n X dX3_workOut_87 rfl rfl ?_
  refine g_iload X dX3_workOut_88 rfl rfl ?_
  refine g_aload_n X dX3_workOut_90 rfl rfl ?_
  refine g_iload X dX3_workOut_91 rfl rfl ?_
  obtain ⟨c1, h⟩ := ck_e h
  refine g_lald X (isL_e ha).1 (isL_e ha).2.1 (isL_e ha).2.2 (ib_e c1) dX3_workOut_93 rfl ?_
  refine g_ldc2 X dX3_workOut_94 kc_RX3_50 rfl ?_
  refine g_ldiv X dX3_workOut_97 (by decide) rfl ?_
  refine g_iload X dX3_workOut_98 rfl rfl ?_
  refine g_i2l X dX3_workOut_100 rfl ?_
  refine g_lmul X dX3_workOut_101 rfl ?_
  obtain ⟨c2, h⟩ := ck_e h
  refine g_last X (isL_e ha).1 (isL_e ha).2.1 (isL_e ha).2.2 (ib_e c2) dX3_workOut_102 rfl (fun σ3 e4 => ?_)
  replace h := lE_c e4 h
  refine g_iinc X [some (.ref (w.1 q)), some (.ref (w.1 g)), some (.int x2), some (.ref (w.1 a)), some (.int (x4 + 1)), some (.int x5), some (.int x6)] dX3_workOut_103 rfl (ii_1 x4) (Nat.le_of_ble_eq_true rfl) rfl rfl rfl ?_
  refine g_goto X dX3_workOut_106 (tgt := 9) rfl ?_
  exact g_le (lle_s (lle_s (lle_s (lle_s (lle_s (lle_0)))))) (hk9 x2 (x4 + 1) σ3 h)

def f_Plan_workOut_b9 (q : Nat) (g : Nat) (a : Nat) (k9 : Int32 → Int32 → St → Option St) (x2 : Int32) (x4 : Int32) (σ : St) : Option St :=
  if (rF σ (g + 10)) ≤ x4 then (some σ) else (ck (ib x4 60) <| ck (ib (rI σ (g + 5) x4) 60) <| if (rI σ (g + 1) (rI σ (g + 5) x4)) = 1 then (ck (ib x4 60) <| f_Plan_workOut_b87 q g a k9 x2 x4 (rI σ (g + 5) x4) (rI σ (g + 8) x4) σ) else (ck (ib (rI σ (g + 5) x4) 60) <| if ((rI σ (g + 1) (rI σ (g + 5) x4)) - 2) = x2 then (f_Plan_workOut_b87 q g a k9 x2 x4 (rI σ (g + 5) x4) 12 σ) else (ck (ib (rI σ (g + 5) x4) 60) <| ck (ib x4 60) <| bd (f_Plan_shareOf q (rI σ (g + 3) (rI σ (g + 5) x4)) (rI σ (g + 7) x4) σ) fun r11 σ10 => f_Plan_workOut_b87 q g a k9 x2 x4 (rI σ (g + 5) x4) r11 σ10)))
set_option maxRecDepth 4000 in
theorem ok_Plan_workOut_b9 {E : gE} {w : wT} {σ' : St} (X : gC E w cX3_workOut 7 RX3 2) (Y : gQ E w none none σ') {q : Nat} (hq : isP q = true) {g : Nat} (hg : isG g = true) {a : Nat} (ha : isL a = true) {k9 : Int32 → Int32 → St → Option St} (hk9 : ∀ (x2 : Int32) (x4 : Int32) (σ : St), k9 x2 x4 σ = some σ' → gW E w 7 σ 9 [some (.ref (w.1 q)), some (.ref (w.1 g)), some (.int x2), some (.ref (w.1 a)), some (.int x4)] []) {x2 : Int32} {x4 : Int32} (σ : St) (h : f_Plan_workOut_b9 q g a k9 x2 x4 σ = some σ') : gW E w 7 σ 9 [some (.ref (w.1 q)), some (.ref (w.1 g)), some (.int x2), some (.ref (w.1 a)), some (.int x4)] [] := by
  unfold f_Plan_workOut_b9 at h
  refine g_iload X dX3_workOut_9 rfl rfl ?_
  refine g_aload_n X dX3_workOut_11 rfl rfl ?_
  refine gf_RX3_25 hg X dX3_workOut_12 rfl ?_
  refine g_icmp_ge X dX3_workOut_15 (tgt := 109) rfl rfl (fun c1 => ?_) (fun c1 => ?_)
  · replace h := if_t c1 h
    obtain rfl := rv_e h
    exact g_vret X Y dX3_workOut_109
  · replace h := if_f c1 h
    refine g_aload_n X dX3_workOut_18 rfl rfl ?_
    refine gf_RX3_31 hg X dX3_workOut_19 rfl ?_
    refine g_iload X dX3_workOut_22 rfl rfl ?_
    obtain ⟨c2, h⟩ := ck_e h
    refine g_iald X (ga_5 hg).1 (ga_5 hg).2.1 (ga_5 hg).2.2 (ib_e c2) dX3_workOut_24 rfl ?_
    refine g_istore X [some (.ref (w.1 q)), some (.ref (w.1 g)), some (.int x2), some (.ref (w.1 a)), some (.int x4), some (.int (rI σ (g + 5) x4))] dX3_workOut_25 (Nat.le_of_ble_eq_true rfl) rfl rfl rfl ?_
    refine g_bipush X kB_12 dX3_workOut_27 rfl ?_
    refine g_istore X [some (.ref (w.1 q)), some (.ref (w.1 g)), some (.int x2), some (.ref (w.1 a)), some (.int x4), some (.int (rI σ (g + 5) x4)), some (.int 12)] dX3_workOut_29 (Nat.le_of_ble_eq_true rfl) rfl rfl rfl ?_
    refine g_aload_n X dX3_workOut_31 rfl rfl ?_
    refine gf_RX3_34 hg X dX3_workOut_32 rfl ?_
    refine g_iload X dX3_workOut_35 rfl rfl ?_
    obtain ⟨c3, h⟩ := ck_e h
    refine g_iald X (ga_1 hg).1 (ga_1 hg).2.1 (ga_1 hg).2.2 (ib_e c3) dX3_workOut_37 rfl ?_
    refine g_iconst X kI_1 dX3_workOut_38 rfl ?_
    refine g_icmp_ne X dX3_workOut_39 (tgt := 54) rfl rfl (fun c4 => ?_) (fun c4 => ?_)
    · replace h := if_f c4 h
      refine g_aload_n X dX3_workOut_54 rfl rfl ?_
      refine gf_RX3_34 hg X dX3_workOut_55 rfl ?_
      refine g_iload X dX3_workOut_58 rfl rfl ?_
      obtain ⟨c5, h⟩ := ck_e h
      refine g_iald X (ga_1 hg).1 (ga_1 hg).2.1 (ga_1 hg).2.2 (ib_e c5) dX3_workOut_60 rfl ?_
      refine g_iconst X kI_2 dX3_workOut_61 rfl ?_
      refine g_isub X dX3_workOut_62 rfl ?_
      refine g_iload_n X dX3_workOut_63 rfl rfl ?_
      refine g_icmp_eq X dX3_workOut_64 (tgt := 87) rfl rfl (fun c6 => ?_) (fun c6 => ?_)
      · replace h := if_t c6 h
        exact ok_Plan_workOut_b87 X Y hq hg ha hk9 σ h
      · replace h := if_f c6 h
        refine g_aload_n X dX3_workOut_67 rfl rfl ?_
        refine g_aload_n X dX3_workOut_68 rfl rfl ?_
        refine gf_RX3_40 hg X dX3_workOut_69 rfl ?_
        refine g_iload X dX3_workOut_72 rfl rfl ?_
        obtain ⟨c7, h⟩ := ck_e h
        refine g_iald X (ga_3 hg).1 (ga_3 hg).2.1 (ga_3 hg).2.2 (ib_e c7) dX3_workOut_74 rfl ?_
        refine g_aload_n X dX3_workOut_75 rfl rfl ?_
        refine gf_RX3_43 hg X dX3_workOut_76 rfl ?_
        refine g_iload X dX3_workOut_79 rfl rfl ?_
        obtain ⟨c8, h⟩ := ck_e h
        refine g_iald X (ga_7 hg).1 (ga_7 hg).2.1 (ga_7 hg).2.2 (ib_e c8) dX3_workOut_81 rfl ?_
        obtain ⟨r11, σ10, h9, h⟩ := bd_e h
        refine g_callVI X [.int (rI σ (g + 3) (rI σ (g + 5) x4)), .int (rI σ (g + 7) x4)] (ok_Plan_shareOf X.inj h9) my_yX3_shareOf mi_yX3_shareOf ms_yX3_shareOf ml_RX3_46 (po_ hq).1 (po_ hq).2.1 (po_ hq).2.2 (by decide) rfl dX3_workOut_82 (Nat.le_of_ble_eq_true rfl) rfl rfl ?_
        refine g_istore X [some (.ref (w.1 q)), some (.ref (w.1 g)), some (.int x2), some (.ref (w.1 a)), some (.int x4), some (.int (rI σ (g + 5) x4)), some (.int r11)] dX3_workOut_85 (Nat.le_of_ble_eq_true rfl) rfl rfl rfl ?_
        exact ok_Plan_workOut_b87 X Y hq hg ha hk9 σ10 h
    · replace h := if_t c4 h
      refine g_aload_n X dX3_workOut_42 rfl rfl ?_
      refine gf_RX3_37 hg X dX3_workOut_43 rfl ?_
      refine g_iload X dX3_workOut_46 rfl rfl ?_
      obtain ⟨c12, h⟩ := ck_e h
      refine g_iald X (ga_8 hg).1 (ga_8 hg).2.1 (ga_8 hg).2.2 (ib_e c12) dX3_workOut_48 rfl ?_
      refine g_istore X [some (.ref (w.1 q)), some (.ref (w.1 g)), some (.int x2), some (.ref (w.1 a)), some (.int x4), some (.int (rI σ (g + 5) x4)), some (.int (rI σ (g + 8) x4))] dX3_workOut_49 (Nat.le_of_ble_eq_true rfl) rfl rfl rfl ?_
      refine g_goto X dX3_workOut_51 (tgt := 87) rfl ?_
      exact ok_Plan_workOut_b87 X Y hq hg ha hk9 σ h
def f_Plan_workOut_l9 (q : Nat) (g : Nat) (a : Nat) : Int32 → Int32 → St → Option St := lp (fun _ _ _ => none) (f_Plan_workOut_b9 q g a) FU
theorem ok_Plan_workOut_l9 {E : gE} {w : wT} {σ' : St} (X : gC E w cX3_workOut 7 RX3 2) (Y : gQ E w none none σ') {q : Nat} (hq : isP q = true) {g : Nat} (hg : isG g = true) {a : Nat} (ha : isL a = true) {x2 : Int32} {x4 : Int32} (σ : St) (h : f_Plan_workOut_l9 q g a x2 x4 σ = some σ') : gW E w 7 σ 9 [some (.ref (w.1 q)), some (.ref (w.1 g)), some (.int x2), some (.ref (w.1 a)), some (.int x4)] [] :=
  lp_ind (P := fun (k : Int32 → Int32 → St → Option St) => ∀ (x2 : Int32) (x4 : Int32) (σ : St), k x2 x4 σ = some σ' → gW E w 7 σ 9 [some (.ref (w.1 q)), some (.ref (w.1 g)), some (.int x2), some (.ref (w.1 a)), some (.int x4)] []) (fun _ _ _ hh => nn hh) (fun k hk x2 x4 σ  hh => ok_Plan_workOut_b9 X Y hq hg ha hk σ hh) FU x2 x4 σ  h

def f_Plan_workOut (q : Nat) (g : Nat) (x2 : Int32) (a : Nat) (σ : St) : Option St :=
  ck (isP q) <| ck (isG g) <| ck (isL a) <| ck (ib 0 60) <| lE (stL σ a (0 : Int32).toNatClampNeg 429981696) fun σ2 => f_Plan_workOut_l9 q g a x2 1 σ2
set_option maxRecDepth 4000 in
theorem ok_Plan_workOut {w : wT} (hi : wInj w) {l : Launch} {q : Nat} {g : Nat} {x2 : Int32} {a : Nat} {σ σ' : St} (h : f_Plan_workOut q g x2 a σ = some σ') : gM w l yX3_workOut cX3_workOut 7 none 2 [.ref (w.1 q), .ref (w.1 g), .int x2, .ref (w.1 a)] σ none σ' := by
  unfold f_Plan_workOut at h
  obtain ⟨hq, h⟩ := ck_e h
  obtain ⟨hg, h⟩ := ck_e h
  obtain ⟨ha, h⟩ := ck_e h
  refine gM_of hi (by decide) [some (.ref (w.1 q)), some (.ref (w.1 g)), some (.int x2), some (.ref (w.1 a))] rfl (Nat.le_of_ble_eq_true rfl) (fun E hl X Y => ?_)
  refine g_aload_n X dX3_workOut_0 rfl rfl ?_
  refine g_iconst X kI_0 dX3_workOut_1 rfl ?_
  refine g_ldc2 X dX3_workOut_2 kc_RX3_23 rfl ?_
  obtain ⟨c1, h⟩ := ck_e h
  refine g_last X (isL_e ha).1 (isL_e ha).2.1 (isL_e ha).2.2 (ib_e c1) dX3_workOut_5 rfl (fun σ2 e3 => ?_)
  replace h := lE_c e3 h
  refine g_iconst X kI_1 dX3_workOut_6 rfl ?_
  refine g_istore X [some (.ref (w.1 q)), some (.ref (w.1 g)), some (.int x2), some (.ref (w.1 a)), some (.int 1)] dX3_workOut_7 (Nat.le_of_ble_eq_true rfl) rfl rfl rfl ?_
  exact ok_Plan_workOut_l9 X Y hq hg ha σ2 h

theorem dX8_valueOfPlan_0 : decode cX8_valueOfPlan 0 = .ok (.aload_n 0, 1) := by decide +kernel
theorem dX8_valueOfPlan_1 : decode cX8_valueOfPlan 1 = .ok (.getfield 33, 3) := by decide +kernel
theorem dX8_valueOfPlan_4 : decode cX8_valueOfPlan 4 = .ok (.aload_n 0, 1) := by decide +kernel
theorem dX8_valueOfPlan_5 : decode cX8_valueOfPlan 5 = .ok (.getfield 65, 3) := by decide +kernel
theorem dX8_valueOfPlan_8 : decode cX8_valueOfPlan 8 = .ok (.ldc 215, 2) := by decide +kernel
theorem dX8_valueOfPlan_10 : decode cX8_valueOfPlan 10 = .ok (.aload_n 0, 1) := by decide +kernel
theorem dX8_valueOfPlan_11 : decode cX8_valueOfPlan 11 = .ok (.getfield 58, 3) := by decide +kernel
theorem dX8_valueOfPlan_14 : decode cX8_valueOfPlan 14 = .ok (.invokevirtual 216, 3) := by decide +kernel
theorem dX8_valueOfPlan_17 : decode cX8_valueOfPlan 17 = .ok (.lconst 0, 1) := by decide +kernel
theorem dX8_valueOfPlan_18 : decode cX8_valueOfPlan 18 = .ok (.lstore_n 1, 1) := by decide +kernel
theorem dX8_valueOfPlan_19 : decode cX8_valueOfPlan 19 = .ok (.iconst 0, 1) := by decide +kernel
theorem dX8_valueOfPlan_20 : decode cX8_valueOfPlan 20 = .ok (.istore_n 3, 1) := by decide +kernel
theorem dX8_valueOfPlan_21 : decode cX8_valueOfPlan 21 = .ok (.iload_n 3, 1) := by decide +kernel
theorem dX8_valueOfPlan_22 : decode cX8_valueOfPlan 22 = .ok (.aload_n 0, 1) := by decide +kernel
theorem dX8_valueOfPlan_23 : decode cX8_valueOfPlan 23 = .ok (.getfield 65, 3) := by decide +kernel
theorem dX8_valueOfPlan_26 : decode cX8_valueOfPlan 26 = .ok (.getfield 145, 3) := by decide +kernel
theorem dX8_valueOfPlan_29 : decode cX8_valueOfPlan 29 = .ok (.if_icmp .ge 41, 3) := by decide +kernel
theorem dX8_valueOfPlan_32 : decode cX8_valueOfPlan 32 = .ok (.aload_n 0, 1) := by decide +kernel
theorem dX8_valueOfPlan_33 : decode cX8_valueOfPlan 33 = .ok (.getfield 65, 3) := by decide +kernel
theorem dX8_valueOfPlan_36 : decode cX8_valueOfPlan 36 = .ok (.getfield 151, 3) := by decide +kernel
theorem dX8_valueOfPlan_39 : decode cX8_valueOfPlan 39 = .ok (.iload_n 3, 1) := by decide +kernel
theorem dX8_valueOfPlan_40 : decode cX8_valueOfPlan 40 = .ok (.iaload, 1) := by decide +kernel
theorem dX8_valueOfPlan_41 : decode cX8_valueOfPlan 41 = .ok (.ifCond .ne 23, 3) := by decide +kernel
theorem dX8_valueOfPlan_44 : decode cX8_valueOfPlan 44 = .ok (.lload_n 1, 1) := by decide +kernel
theorem dX8_valueOfPlan_45 : decode cX8_valueOfPlan 45 = .ok (.aload_n 0, 1) := by decide +kernel
theorem dX8_valueOfPlan_46 : decode cX8_valueOfPlan 46 = .ok (.getfield 65, 3) := by decide +kernel
theorem dX8_valueOfPlan_49 : decode cX8_valueOfPlan 49 = .ok (.getfield 154, 3) := by decide +kernel
theorem dX8_valueOfPlan_52 : decode cX8_valueOfPlan 52 = .ok (.iload_n 3, 1) := by decide +kernel
theorem dX8_valueOfPlan_53 : decode cX8_valueOfPlan 53 = .ok (.iaload, 1) := by decide +kernel
theorem dX8_valueOfPlan_54 : decode cX8_valueOfPlan 54 = .ok (.i2l, 1) := by decide +kernel
theorem dX8_valueOfPlan_55 : decode cX8_valueOfPlan 55 = .ok (.aload_n 0, 1) := by decide +kernel
theorem dX8_valueOfPlan_56 : decode cX8_valueOfPlan 56 = .ok (.getfield 58, 3) := by decide +kernel
theorem dX8_valueOfPlan_59 : decode cX8_valueOfPlan 59 = .ok (.iload_n 3, 1) := by decide +kernel
theorem dX8_valueOfPlan_60 : decode cX8_valueOfPlan 60 = .ok (.laload, 1) := by decide +kernel
theorem dX8_valueOfPlan_61 : decode cX8_valueOfPlan 61 = .ok (.lmul, 1) := by decide +kernel
theorem dX8_valueOfPlan_62 : decode cX8_valueOfPlan 62 = .ok (.ladd, 1) := by decide +kernel
theorem dX8_valueOfPlan_63 : decode cX8_valueOfPlan 63 = .ok (.lstore_n 1, 1) := by decide +kernel
theorem dX8_valueOfPlan_64 : decode cX8_valueOfPlan 64 = .ok (.iinc 3 1, 3) := by decide +kernel
theorem dX8_valueOfPlan_67 : decode cX8_valueOfPlan 67 = .ok (.goto (-46), 3) := by decide +kernel
theorem dX8_valueOfPlan_70 : decode cX8_valueOfPlan 70 = .ok (.lload_n 1, 1) := by decide +kernel
theorem dX8_valueOfPlan_71 : decode cX8_valueOfPlan 71 = .ok (.lreturn, 1) := by decide +kernel
def f_HG_valueOfPlan_b64 (k21 : Int64 → Int32 → St → Option (Int64 × St)) (x1 : Int64) (x3 : Int32) (σ : St) : Option (Int64 × St) :=
  k21 x1 (x3 + 1) σ
set_option maxRecDepth 4000 in
theorem ok_HG_valueOfPlan_b64 {E : gE} {w : wT} {σ' : St} {r : Int64} (X : gC E w cX8_valueOfPlan 4 RX8 3) (Y : gQ E w (some .long) (some (.long r)) σ') {k21 : Int64 → Int32 → St → Option (Int64 × St)} (hk21 : ∀ (x1 : Int64) (x3 : Int32) (σ : St), k21 x1 x3 σ = some (r, σ') → gW E w 4 σ 21 [some (.ref (w.1 0)), some (.long x1), none, some (.int x3)] []) {x1 : Int64} {x3 : Int32} (σ : St) (h : f_HG_valueOfPlan_b64 k21 x1 x3 σ = some (r, σ')) : gW E w 4 σ 64 [some (.ref (w.1 0)), some (.long x1), none, some (.int x3)] [] := by
  unfold f_HG_valueOfPlan_b64 at h
  refine g_iinc X [some (.ref (w.1 0)), some (.long x1), none, some (.int (x3 + 1))] dX8_valueOfPlan_64 rfl (ii_1 x3) (Nat.le_of_ble_eq_true rfl) rfl rfl rfl ?_
  refine g_goto X dX8_valueOfPlan_67 (tgt := 21) rfl ?_
  exact hk21 x1 (x3 + 1) σ h

def f_HG_valueOfPlan_b21 (k21 : Int64 → Int32 → St → Option (Int64 × St)) (x1 : Int64) (x3 : Int32) (σ : St) : Option (Int64 × St) :=
  ck (isG (rR σ 0)) <| if (rF σ ((rR σ 0) + 10)) ≤ x3 then (some (x1, σ)) else (ck (ib x3 60) <| if (rI σ ((rR σ 0) + 1) x3) = 0 then (ck (ib x3 60) <| ck (ib x3 60) <| f_HG_valueOfPlan_b64 k21 (x1 + (((rI σ ((rR σ 0) + 2) x3).toInt64) * (rL σ 46 x3))) x3 σ) else (f_HG_valueOfPlan_b64 k21 x1 x3 σ))
set_option maxRecDepth 4000 in
theorem ok_HG_valueOfPlan_b21 {E : gE} {w : wT} {σ' : St} {r : Int64} (X : gC E w cX8_valueOfPlan 4 RX8 3) (Y : gQ E w (some .long) (some (.long r)) σ') {k21 : Int64 → Int32 → St → Option (Int64 × St)} (hk21 : ∀ (x1 : Int64) (x3 : Int32) (σ : St), k21 x1 x3 σ = some (r, σ') → gW E w 4 σ 21 [some (.ref (w.1 0)), some (.long x1), none, some (.int x3)] []) {x1 : Int64} {x3 : Int32} (σ : St) (h : f_HG_valueOfPlan_b21 k21 x1 x3 σ = some (r, σ')) : gW E w 4 σ 21 [some (.ref (w.1 0)), some (.long x1), none, some (.int x3)] [] := by
  unfold f_HG_valueOfPlan_b21 at h
  refine g_iload_n X dX8_valueOfPlan_21 rfl rfl ?_
  refine g_aload_n X dX8_valueOfPlan_22 rfl rfl ?_
  refine gf_RX8_65 X dX8_valueOfPlan_23 rfl ?_
  obtain ⟨c1, h⟩ := ck_e h
  refine gf_RX8_145 c1 X dX8_valueOfPlan_26 rfl ?_
  refine g_icmp_ge X dX8_valueOfPlan_29 (tgt := 70) rfl rfl (fun c2 => ?_) (fun c2 => ?_)
  · replace h := if_t c2 h
    refine g_lload_n X dX8_valueOfPlan_70 rfl rfl ?_
    obtain ⟨rfl, rfl⟩ := rt_e h
    exact g_lret X Y dX8_valueOfPlan_71
  · replace h := if_f c2 h
    refine g_aload_n X dX8_valueOfPlan_32 rfl rfl ?_
    refine gf_RX8_65 X dX8_valueOfPlan_33 rfl ?_
    refine gf_RX8_151 c1 X dX8_valueOfPlan_36 rfl ?_
    refine g_iload_n X dX8_valueOfPlan_39 rfl rfl ?_
    obtain ⟨c3, h⟩ := ck_e h
    refine g_iald X (ga_1 c1).1 (ga_1 c1).2.1 (ga_1 c1).2.2 (ib_e c3) dX8_valueOfPlan_40 rfl ?_
    refine g_if_ne X dX8_valueOfPlan_41 (tgt := 64) rfl rfl (fun c4 => ?_) (fun c4 => ?_)
    · replace h := if_f c4 h
      exact ok_HG_valueOfPlan_b64 X Y hk21 σ h
    · replace h := if_t c4 h
      refine g_lload_n X dX8_valueOfPlan_44 rfl rfl ?_
      refine g_aload_n X dX8_valueOfPlan_45 rfl rfl ?_
      refine gf_RX8_65 X dX8_valueOfPlan_46 rfl ?_
      refine gf_RX8_154 c1 X dX8_valueOfPlan_49 rfl ?_
      refine g_iload_n X dX8_valueOfPlan_52 rfl rfl ?_
      obtain ⟨c5, h⟩ := ck_e h
      refine g_iald X (ga_2 c1).1 (ga_2 c1).2.1 (ga_2 c1).2.2 (ib_e c5) dX8_valueOfPlan_53 rfl ?_
      refine g_i2l X dX8_valueOfPlan_54 rfl ?_
      refine g_aload_n X dX8_valueOfPlan_55 rfl rfl ?_
      refine gf_RX8_58 X dX8_valueOfPlan_56 rfl ?_
      refine g_iload_n X dX8_valueOfPlan_59 rfl rfl ?_
      obtain ⟨c6, h⟩ := ck_e h
      refine g_lald X ar_46.1 ar_46.2.1 ar_46.2.2 (ib_e c6) dX8_valueOfPlan_60 rfl ?_
      refine g_lmul X dX8_valueOfPlan_61 rfl ?_
      refine g_ladd X dX8_valueOfPlan_62 rfl ?_
      refine g_lstore_n X [some (.ref (w.1 0)), some (.long (x1 + (((rI σ ((rR σ 0) + 2) x3).toInt64) * (rL σ 46 x3)))), none, some (.int x3)] dX8_valueOfPlan_63 (Nat.le_of_ble_eq_true rfl) rfl rfl rfl ?_
      exact ok_HG_valueOfPlan_b64 X Y hk21 σ h
def f_HG_valueOfPlan_l21 : Int64 → Int32 → St → Option (Int64 × St) := lp (fun _ _ _ => none) (f_HG_valueOfPlan_b21) FU
theorem ok_HG_valueOfPlan_l21 {E : gE} {w : wT} {σ' : St} {r : Int64} (X : gC E w cX8_valueOfPlan 4 RX8 3) (Y : gQ E w (some .long) (some (.long r)) σ') {x1 : Int64} {x3 : Int32} (σ : St) (h : f_HG_valueOfPlan_l21 x1 x3 σ = some (r, σ')) : gW E w 4 σ 21 [some (.ref (w.1 0)), some (.long x1), none, some (.int x3)] [] :=
  lp_ind (P := fun (k : Int64 → Int32 → St → Option (Int64 × St)) => ∀ (x1 : Int64) (x3 : Int32) (σ : St), k x1 x3 σ = some (r, σ') → gW E w 4 σ 21 [some (.ref (w.1 0)), some (.long x1), none, some (.int x3)] []) (fun _ _ _ hh => nn hh) (fun k hk x1 x3 σ  hh => ok_HG_valueOfPlan_b21 X Y hk σ hh) FU x1 x3 σ  h

def f_HG_valueOfPlan (σ : St) : Option (Int64 × St) :=
  bv (f_Plan_workOut 4 (rR σ 0) ((-1000000)) 46 σ) fun σ2 => f_HG_valueOfPlan_l21 0 0 σ2
set_option maxRecDepth 4000 in
theorem ok_HG_valueOfPlan {w : wT} (hi : wInj w) {l : Launch} {σ σ' : St} {r : Int64} (h : f_HG_valueOfPlan σ = some (r, σ')) : gM w l yX8_valueOfPlan cX8_valueOfPlan 4 (some .long) 3 [.ref (w.1 0)] σ (some (.long r)) σ' := by
  unfold f_HG_valueOfPlan at h
  refine gM_of hi (by decide) [some (.ref (w.1 0))] rfl (Nat.le_of_ble_eq_true rfl) (fun E hl X Y => ?_)
  refine g_aload_n X dX8_valueOfPlan_0 rfl rfl ?_
  refine gf_RX8_33 X dX8_valueOfPlan_1 rfl ?_
  refine g_aload_n X dX8_valueOfPlan_4 rfl rfl ?_
  refine gf_RX8_65 X dX8_valueOfPlan_5 rfl ?_
  refine g_ldc X dX8_valueOfPlan_8 kc_RX8_215 rfl ?_
  refine g_aload_n X dX8_valueOfPlan_10 rfl rfl ?_
  refine gf_RX8_58 X dX8_valueOfPlan_11 rfl ?_
  obtain ⟨σ2, h1, h⟩ := bv_e h
  refine g_callVV X [.ref (w.1 (rR σ 0)), .int ((-1000000)), .ref (w.1 46)] (ok_Plan_workOut X.inj h1) my_yX3_workOut mi_yX3_workOut ms_yX3_workOut ml_RX8_216 (po_ (by decide : isP 4 = true)).1 (po_ (by decide : isP 4 = true)).2.1 (po_ (by decide : isP 4 = true)).2.2 (by decide) rfl dX8_valueOfPlan_14 (Nat.le_of_ble_eq_true rfl) rfl rfl ?_
  refine g_lconst X kL_0 dX8_valueOfPlan_17 rfl ?_
  refine g_lstore_n X [some (.ref (w.1 0)), some (.long 0), none] dX8_valueOfPlan_18 (Nat.le_of_ble_eq_true rfl) rfl rfl rfl ?_
  refine g_iconst X kI_0 dX8_valueOfPlan_19 rfl ?_
  refine g_istore_n X [some (.ref (w.1 0)), some (.long 0), none, some (.int 0)] dX8_valueOfPlan_20 (Nat.le_of_ble_eq_true rfl) rfl rfl rfl ?_
  exact ok_HG_valueOfPlan_l21 X Y σ2 h

theorem dX8_value_0 : decode cX8_value 0 = .ok (.aload_n 0, 1) := by decide +kernel
theorem dX8_value_1 : decode cX8_value 1 = .ok (.invokevirtual 205, 3) := by decide +kernel
theorem dX8_value_4 : decode cX8_value 4 = .ok (.ifCond .eq 10, 3) := by decide +kernel
theorem dX8_value_7 : decode cX8_value 7 = .ok (.aload_n 0, 1) := by decide +kernel
theorem dX8_value_8 : decode cX8_value 8 = .ok (.invokevirtual 209, 3) := by decide +kernel
theorem dX8_value_11 : decode cX8_value 11 = .ok (.goto 6, 3) := by decide +kernel
theorem dX8_value_14 : decode cX8_value 14 = .ok (.ldc2_w 213, 3) := by decide +kernel
theorem dX8_value_17 : decode cX8_value 17 = .ok (.lreturn, 1) := by decide +kernel
def f_HG_value (σ : St) : Option (Int64 × St) :=
  bd (f_HG_hasGame σ) fun r3 σ2 => if r3 = 0 then (some ((-9000000000000000002), σ2)) else (bd (f_HG_valueOfPlan σ2) fun r7 σ6 => some (r7, σ6))
set_option maxRecDepth 4000 in
theorem ok_HG_value {w : wT} (hi : wInj w) {l : Launch} {σ σ' : St} {r : Int64} (h : f_HG_value σ = some (r, σ')) : gM w l yX8_value cX8_value 1 (some .long) 4 [.ref (w.1 0)] σ (some (.long r)) σ' := by
  unfold f_HG_value at h
  refine gM_of hi (by decide) [some (.ref (w.1 0))] rfl (Nat.le_of_ble_eq_true rfl) (fun E hl X Y => ?_)
  refine g_aload_n X dX8_value_0 rfl rfl ?_
  obtain ⟨r3, σ2, h1, h⟩ := bd_e h
  refine g_callVI X [] (ok_HG_hasGame X.inj h1) my_yX8_hasGame mi_yX8_hasGame ms_yX8_hasGame ml_RX8_205 (by decide) rfl rfl (by decide) rfl dX8_value_1 (Nat.le_of_ble_eq_true rfl) rfl rfl ?_
  refine g_if_eq X dX8_value_4 (tgt := 14) rfl rfl (fun c4 => ?_) (fun c4 => ?_)
  · replace h := if_t c4 h
    refine g_ldc2 X dX8_value_14 kc_RX8_213 rfl ?_
    obtain ⟨rfl, rfl⟩ := rt_e h
    exact g_lret X Y dX8_value_17
  · replace h := if_f c4 h
    refine g_aload_n X dX8_value_7 rfl rfl ?_
    obtain ⟨r7, σ6, h5, h⟩ := bd_e h
    refine g_callVJ X [] (ok_HG_valueOfPlan X.inj h5) my_yX8_valueOfPlan mi_yX8_valueOfPlan ms_yX8_valueOfPlan ml_RX8_209 (by decide) rfl rfl (by decide) rfl dX8_value_8 (Nat.le_of_ble_eq_true rfl) rfl rfl ?_
    refine g_goto X dX8_value_11 (tgt := 17) rfl ?_
    obtain ⟨rfl, rfl⟩ := rt_e h
    exact g_lret X Y dX8_value_17

theorem dX8_reach_0 : decode cX8_reach 0 = .ok (.aload_n 0, 1) := by decide +kernel
theorem dX8_reach_1 : decode cX8_reach 1 = .ok (.iload_n 1, 1) := by decide +kernel
theorem dX8_reach_2 : decode cX8_reach 2 = .ok (.invokevirtual 148, 3) := by decide +kernel
theorem dX8_reach_5 : decode cX8_reach 5 = .ok (.ifCond .eq 12, 3) := by decide +kernel
theorem dX8_reach_8 : decode cX8_reach 8 = .ok (.iload_n 2, 1) := by decide +kernel
theorem dX8_reach_9 : decode cX8_reach 9 = .ok (.ifCond .lt 8, 3) := by decide +kernel
theorem dX8_reach_12 : decode cX8_reach 12 = .ok (.iload_n 2, 1) := by decide +kernel
theorem dX8_reach_13 : decode cX8_reach 13 = .ok (.iconst 2, 1) := by decide +kernel
theorem dX8_reach_14 : decode cX8_reach 14 = .ok (.if_icmp .le 7, 3) := by decide +kernel
theorem dX8_reach_17 : decode cX8_reach 17 = .ok (.ldc2_w 83, 3) := by decide +kernel
theorem dX8_reach_20 : decode cX8_reach 20 = .ok (.lreturn, 1) := by decide +kernel
theorem dX8_reach_21 : decode cX8_reach 21 = .ok (.aload_n 0, 1) := by decide +kernel
theorem dX8_reach_22 : decode cX8_reach 22 = .ok (.getfield 33, 3) := by decide +kernel
theorem dX8_reach_25 : decode cX8_reach 25 = .ok (.aload_n 0, 1) := by decide +kernel
theorem dX8_reach_26 : decode cX8_reach 26 = .ok (.getfield 65, 3) := by decide +kernel
theorem dX8_reach_29 : decode cX8_reach 29 = .ok (.iload_n 2, 1) := by decide +kernel
theorem dX8_reach_30 : decode cX8_reach 30 = .ok (.ifCond .ne 8, 3) := by decide +kernel
theorem dX8_reach_33 : decode cX8_reach 33 = .ok (.ldc 215, 2) := by decide +kernel
theorem dX8_reach_35 : decode cX8_reach 35 = .ok (.goto 6, 3) := by decide +kernel
theorem dX8_reach_38 : decode cX8_reach 38 = .ok (.iload_n 2, 1) := by decide +kernel
theorem dX8_reach_39 : decode cX8_reach 39 = .ok (.iconst 1, 1) := by decide +kernel
theorem dX8_reach_40 : decode cX8_reach 40 = .ok (.isub, 1) := by decide +kernel
theorem dX8_reach_41 : decode cX8_reach 41 = .ok (.aload_n 0, 1) := by decide +kernel
theorem dX8_reach_42 : decode cX8_reach 42 = .ok (.getfield 58, 3) := by decide +kernel
theorem dX8_reach_45 : decode cX8_reach 45 = .ok (.invokevirtual 216, 3) := by decide +kernel
theorem dX8_reach_48 : decode cX8_reach 48 = .ok (.aload_n 0, 1) := by decide +kernel
theorem dX8_reach_49 : decode cX8_reach 49 = .ok (.getfield 58, 3) := by decide +kernel
theorem dX8_reach_52 : decode cX8_reach 52 = .ok (.iload_n 1, 1) := by decide +kernel
theorem dX8_reach_53 : decode cX8_reach 53 = .ok (.laload, 1) := by decide +kernel
theorem dX8_reach_54 : decode cX8_reach 54 = .ok (.lreturn, 1) := by decide +kernel
def f_HG_reach_b41 (x1 : Int32) (gs1 : Nat) (xs2 : Int32) (σ : St) : Option (Int64 × St) :=
  bv (f_Plan_workOut 4 gs1 xs2 46 σ) fun σ2 => ck (ib x1 60) <| some (rL σ2 46 x1, σ2)
set_option maxRecDepth 4000 in
theorem ok_HG_reach_b41 {E : gE} {w : wT} {σ' : St} {r : Int64} (X : gC E w cX8_reach 3 RX8 3) (Y : gQ E w (some .long) (some (.long r)) σ') {x1 : Int32} {gs1 : Nat} {xs2 : Int32} (hgs1 : isG gs1 = true) (σ : St) (h : f_HG_reach_b41 x1 gs1 xs2 σ = some (r, σ')) : gW E w 3 σ 41 [some (.ref (w.1 0)), some (.int x1)] [.int xs2, .ref (w.1 gs1), .ref (w.1 4)] := by
  unfold f_HG_reach_b41 at h
  refine g_aload_n X dX8_reach_41 rfl rfl ?_
  refine gf_RX8_58 X dX8_reach_42 rfl ?_
  obtain ⟨σ2, h1, h⟩ := bv_e h
  refine g_callVV X [.ref (w.1 gs1), .int xs2, .ref (w.1 46)] (ok_Plan_workOut X.inj h1) my_yX3_workOut mi_yX3_workOut ms_yX3_workOut ml_RX8_216 (po_ (by decide : isP 4 = true)).1 (po_ (by decide : isP 4 = true)).2.1 (po_ (by decide : isP 4 = true)).2.2 (by decide) rfl dX8_reach_45 (Nat.le_of_ble_eq_true rfl) rfl rfl ?_
  refine g_aload_n X dX8_reach_48 rfl rfl ?_
  refine gf_RX8_58 X dX8_reach_49 rfl ?_
  refine g_iload_n X dX8_reach_52 rfl rfl ?_
  obtain ⟨c3, h⟩ := ck_e h
  refine g_lald X ar_46.1 ar_46.2.1 ar_46.2.2 (ib_e c3) dX8_reach_53 rfl ?_
  obtain ⟨rfl, rfl⟩ := rt_e h
  exact g_lret X Y dX8_reach_54

def f_HG_reach (x1 : Int32) (x2 : Int32) (σ : St) : Option (Int64 × St) :=
  bd (f_HG_isPlace x1 σ) fun r3 σ2 => if r3 = 0 then (some ((-9000000000000000001), σ2)) else (if x2 < 0 then (some ((-9000000000000000001), σ2)) else (if x2 ≤ 2 then (if x2 = 0 then (ck (isG (rR σ2 0)) <| f_HG_reach_b41 x1 (rR σ2 0) ((-1000000)) σ2) else (ck (isG (rR σ2 0)) <| f_HG_reach_b41 x1 (rR σ2 0) (x2 - 1) σ2)) else (some ((-9000000000000000001), σ2))))
set_option maxRecDepth 4000 in
theorem ok_HG_reach {w : wT} (hi : wInj w) {l : Launch} {x1 : Int32} {x2 : Int32} {σ σ' : St} {r : Int64} (h : f_HG_reach x1 x2 σ = some (r, σ')) : gM w l yX8_reach cX8_reach 3 (some .long) 3 [.ref (w.1 0), .int x1, .int x2] σ (some (.long r)) σ' := by
  unfold f_HG_reach at h
  refine gM_of hi (by decide) [some (.ref (w.1 0)), some (.int x1), some (.int x2)] rfl (Nat.le_of_ble_eq_true rfl) (fun E hl X Y => ?_)
  refine g_aload_n X dX8_reach_0 rfl rfl ?_
  refine g_iload_n X dX8_reach_1 rfl rfl ?_
  obtain ⟨r3, σ2, h1, h⟩ := bd_e h
  refine g_callVI X [.int x1] (ok_HG_isPlace X.inj h1) my_yX8_isPlace mi_yX8_isPlace ms_yX8_isPlace ml_RX8_148 (by decide) rfl rfl (by decide) rfl dX8_reach_2 (Nat.le_of_ble_eq_true rfl) rfl rfl ?_
  refine g_if_eq X dX8_reach_5 (tgt := 17) rfl rfl (fun c4 => ?_) (fun c4 => ?_)
  · replace h := if_t c4 h
    refine g_ldc2 X dX8_reach_17 kc_RX8_83 rfl ?_
    obtain ⟨rfl, rfl⟩ := rt_e h
    exact g_lret X Y dX8_reach_20
  · replace h := if_f c4 h
    refine g_iload_n X dX8_reach_8 rfl rfl ?_
    refine g_if_lt X dX8_reach_9 (tgt := 17) rfl rfl (fun c5 => ?_) (fun c5 => ?_)
    · replace h := if_t c5 h
      refine g_ldc2 X dX8_reach_17 kc_RX8_83 rfl ?_
      obtain ⟨rfl, rfl⟩ := rt_e h
      exact g_lret X Y dX8_reach_20
    · replace h := if_f c5 h
      refine g_iload_n X dX8_reach_12 rfl rfl ?_
      refine g_iconst X kI_2 dX8_reach_13 rfl ?_
      refine g_icmp_le X dX8_reach_14 (tgt := 21) rfl rfl (fun c6 => ?_) (fun c6 => ?_)
      · replace h := if_t c6 h
        refine g_aload_n X dX8_reach_21 rfl rfl ?_
        refine gf_RX8_33 X dX8_reach_22 rfl ?_
        refine g_aload_n X dX8_reach_25 rfl rfl ?_
        refine gf_RX8_65 X dX8_reach_26 rfl ?_
        refine g_iload_n X dX8_reach_29 rfl rfl ?_
        refine g_if_ne X dX8_reach_30 (tgt := 38) rfl rfl (fun c7 => ?_) (fun c7 => ?_)
        · replace h := if_f c7 h
          refine g_iload_n X dX8_reach_38 rfl rfl ?_
          refine g_iconst X kI_1 dX8_reach_39 rfl ?_
          refine g_isub X dX8_reach_40 rfl ?_
          obtain ⟨c8, h⟩ := ck_e h
          exact g_le (lle_s (lle_s (lle_0))) (ok_HG_reach_b41 X Y c8 σ2 h)
        · replace h := if_t c7 h
          refine g_ldc X dX8_reach_33 kc_RX8_215 rfl ?_
          refine g_goto X dX8_reach_35 (tgt := 41) rfl ?_
          obtain ⟨c9, h⟩ := ck_e h
          exact g_le (lle_s (lle_s (lle_0))) (ok_HG_reach_b41 X Y c9 σ2 h)
      · replace h := if_f c6 h
        refine g_ldc2 X dX8_reach_17 kc_RX8_83 rfl ?_
        obtain ⟨rfl, rfl⟩ := rt_e h
        exact g_lret X Y dX8_reach_20

theorem dX6_leastAlike_0 : decode cX6_leastAlike 0 = .ok (.aload_n 1, 1) := by decide +kernel
theorem dX6_leastAlike_1 : decode cX6_leastAlike 1 = .ok (.getfield 61, 3) := by decide +kernel
theorem dX6_leastAlike_4 : decode cX6_leastAlike 4 = .ok (.aload_n 1, 1) := by decide +kernel
theorem dX6_leastAlike_5 : decode cX6_leastAlike 5 = .ok (.getfield 70, 3) := by decide +kernel
theorem dX6_leastAlike_8 : decode cX6_leastAlike 8 = .ok (.iload_n 2, 1) := by decide +kernel
theorem dX6_leastAlike_9 : decode cX6_leastAlike 9 = .ok (.iaload, 1) := by decide +kernel
theorem dX6_leastAlike_10 : decode cX6_leastAlike 10 = .ok (.iaload, 1) := by decide +kernel
theorem dX6_leastAlike_11 : decode cX6_leastAlike 11 = .ok (.istore_n 3, 1) := by decide +kernel
theorem dX6_leastAlike_12 : decode cX6_leastAlike 12 = .ok (.iload_n 3, 1) := by decide +kernel
theorem dX6_leastAlike_13 : decode cX6_leastAlike 13 = .ok (.iload_n 2, 1) := by decide +kernel
theorem dX6_leastAlike_14 : decode cX6_leastAlike 14 = .ok (.if_icmp .ge 41, 3) := by decide +kernel
theorem dX6_leastAlike_17 : decode cX6_leastAlike 17 = .ok (.aload_n 1, 1) := by decide +kernel
theorem dX6_leastAlike_18 : decode cX6_leastAlike 18 = .ok (.getfield 70, 3) := by decide +kernel
theorem dX6_leastAlike_21 : decode cX6_leastAlike 21 = .ok (.iload_n 3, 1) := by decide +kernel
theorem dX6_leastAlike_22 : decode cX6_leastAlike 22 = .ok (.iaload, 1) := by decide +kernel
theorem dX6_leastAlike_23 : decode cX6_leastAlike 23 = .ok (.aload_n 1, 1) := by decide +kernel
theorem dX6_leastAlike_24 : decode cX6_leastAlike 24 = .ok (.getfield 70, 3) := by decide +kernel
theorem dX6_leastAlike_27 : decode cX6_leastAlike 27 = .ok (.iload_n 2, 1) := by decide +kernel
theorem dX6_leastAlike_28 : decode cX6_leastAlike 28 = .ok (.iaload, 1) := by decide +kernel
theorem dX6_leastAlike_29 : decode cX6_leastAlike 29 = .ok (.if_icmp .ne 20, 3) := by decide +kernel
theorem dX6_leastAlike_32 : decode cX6_leastAlike 32 = .ok (.aload_n 0, 1) := by decide +kernel
theorem dX6_leastAlike_33 : decode cX6_leastAlike 33 = .ok (.getfield 25, 3) := by decide +kernel
theorem dX6_leastAlike_36 : decode cX6_leastAlike 36 = .ok (.iload_n 3, 1) := by decide +kernel
theorem dX6_leastAlike_37 : decode cX6_leastAlike 37 = .ok (.iaload, 1) := by decide +kernel
theorem dX6_leastAlike_38 : decode cX6_leastAlike 38 = .ok (.aload_n 0, 1) := by decide +kernel
theorem dX6_leastAlike_39 : decode cX6_leastAlike 39 = .ok (.getfield 25, 3) := by decide +kernel
theorem dX6_leastAlike_42 : decode cX6_leastAlike 42 = .ok (.iload_n 2, 1) := by decide +kernel
theorem dX6_leastAlike_43 : decode cX6_leastAlike 43 = .ok (.iaload, 1) := by decide +kernel
theorem dX6_leastAlike_44 : decode cX6_leastAlike 44 = .ok (.if_icmp .ne 5, 3) := by decide +kernel
theorem dX6_leastAlike_47 : decode cX6_leastAlike 47 = .ok (.iload_n 3, 1) := by decide +kernel
theorem dX6_leastAlike_48 : decode cX6_leastAlike 48 = .ok (.ireturn, 1) := by decide +kernel
theorem dX6_leastAlike_49 : decode cX6_leastAlike 49 = .ok (.iinc 3 1, 3) := by decide +kernel
theorem dX6_leastAlike_52 : decode cX6_leastAlike 52 = .ok (.goto (-40), 3) := by decide +kernel
theorem dX6_leastAlike_55 : decode cX6_leastAlike 55 = .ok (.iload_n 2, 1) := by decide +kernel
theorem dX6_leastAlike_56 : decode cX6_leastAlike 56 = .ok (.ireturn, 1) := by decide +kernel
def f_Solver_leastAlike_b49 (g : Nat) (k12 : Int32 → Int32 → St → Option (Int32 × St)) (x2 : Int32) (x3 : Int32) (σ : St) : Option (Int32 × St) :=
  k12 x2 (x3 + 1) σ
set_option maxRecDepth 4000 in
theorem ok_Solver_leastAlike_b49 {E : gE} {w : wT} {σ' : St} {r : Int32} (X : gC E w cX6_leastAlike 4 RX6 1) (Y : gQ E w (some .int) (some (.int r)) σ') {g : Nat} (hg : isG g = true) {k12 : Int32 → Int32 → St → Option (Int32 × St)} (hk12 : ∀ (x2 : Int32) (x3 : Int32) (σ : St), k12 x2 x3 σ = some (r, σ') → gW E w 4 σ 12 [some (.ref (w.1 6)), some (.ref (w.1 g)), some (.int x2), some (.int x3)] []) {x2 : Int32} {x3 : Int32} (σ : St) (h : f_Solver_leastAlike_b49 g k12 x2 x3 σ = some (r, σ')) : gW E w 4 σ 49 [some (.ref (w.1 6)), some (.ref (w.1 g)), some (.int x2), some (.int x3)] [] := by
  unfold f_Solver_leastAlike_b49 at h
  refine g_iinc X [some (.ref (w.1 6)), some (.ref (w.1 g)), some (.int x2), some (.int (x3 + 1))] dX6_leastAlike_49 rfl (ii_1 x3) (Nat.le_of_ble_eq_true rfl) rfl rfl rfl ?_
  refine g_goto X dX6_leastAlike_52 (tgt := 12) rfl ?_
  exact hk12 x2 (x3 + 1) σ h

def f_Solver_leastAlike_b12 (g : Nat) (k12 : Int32 → Int32 → St → Option (Int32 × St)) (x2 : Int32) (x3 : Int32) (σ : St) : Option (Int32 × St) :=
  if x2 ≤ x3 then (some (x2, σ)) else (ck (ib x3 60) <| ck (ib x2 60) <| if (rI σ (g + 3) x3) = (rI σ (g + 3) x2) then (ck (ib x3 60) <| ck (ib x2 60) <| if (rI σ 57 x3) = (rI σ 57 x2) then (some (x3, σ)) else (f_Solver_leastAlike_b49 g k12 x2 x3 σ)) else (f_Solver_leastAlike_b49 g k12 x2 x3 σ))
set_option maxRecDepth 4000 in
theorem ok_Solver_leastAlike_b12 {E : gE} {w : wT} {σ' : St} {r : Int32} (X : gC E w cX6_leastAlike 4 RX6 1) (Y : gQ E w (some .int) (some (.int r)) σ') {g : Nat} (hg : isG g = true) {k12 : Int32 → Int32 → St → Option (Int32 × St)} (hk12 : ∀ (x2 : Int32) (x3 : Int32) (σ : St), k12 x2 x3 σ = some (r, σ') → gW E w 4 σ 12 [some (.ref (w.1 6)), some (.ref (w.1 g)), some (.int x2), some (.int x3)] []) {x2 : Int32} {x3 : Int32} (σ : St) (h : f_Solver_leastAlike_b12 g k12 x2 x3 σ = some (r, σ')) : gW E w 4 σ 12 [some (.ref (w.1 6)), some (.ref (w.1 g)), some (.int x2), some (.int x3)] [] := by
  unfold f_Solver_leastAlike_b12 at h
  refine g_iload_n X dX6_leastAlike_12 rfl rfl ?_
  refine g_iload_n X dX6_leastAlike_13 rfl rfl ?_
  refine g_icmp_ge X dX6_leastAlike_14 (tgt := 55) rfl rfl (fun c1 => ?_) (fun c1 => ?_)
  · replace h := if_t c1 h
    refine g_iload_n X dX6_leastAlike_55 rfl rfl ?_
    obtain ⟨rfl, rfl⟩ := rt_e h
    exact g_iret X Y dX6_leastAlike_56
  · replace h := if_f c1 h
    refine g_aload_n X dX6_leastAlike_17 rfl rfl ?_
    refine gf_RX6_70 hg X dX6_leastAlike_18 rfl ?_
    refine g_iload_n X dX6_leastAlike_21 rfl rfl ?_
    obtain ⟨c2, h⟩ := ck_e h
    refine g_iald X (ga_3 hg).1 (ga_3 hg).2.1 (ga_3 hg).2.2 (ib_e c2) dX6_leastAlike_22 rfl ?_
    refine g_aload_n X dX6_leastAlike_23 rfl rfl ?_
    refine gf_RX6_70 hg X dX6_leastAlike_24 rfl ?_
    refine g_iload_n X dX6_leastAlike_27 rfl rfl ?_
    obtain ⟨c3, h⟩ := ck_e h
    refine g_iald X (ga_3 hg).1 (ga_3 hg).2.1 (ga_3 hg).2.2 (ib_e c3) dX6_leastAlike_28 rfl ?_
    refine g_icmp_ne X dX6_leastAlike_29 (tgt := 49) rfl rfl (fun c4 => ?_) (fun c4 => ?_)
    · replace h := if_f c4 h
      exact ok_Solver_leastAlike_b49 X Y hg hk12 σ h
    · replace h := if_t c4 h
      refine g_aload_n X dX6_leastAlike_32 rfl rfl ?_
      refine gf_RX6_25 X dX6_leastAlike_33 rfl ?_
      refine g_iload_n X dX6_leastAlike_36 rfl rfl ?_
      obtain ⟨c5, h⟩ := ck_e h
      refine g_iald X ar_57.1 ar_57.2.1 ar_57.2.2 (ib_e c5) dX6_leastAlike_37 rfl ?_
      refine g_aload_n X dX6_leastAlike_38 rfl rfl ?_
      refine gf_RX6_25 X dX6_leastAlike_39 rfl ?_
      refine g_iload_n X dX6_leastAlike_42 rfl rfl ?_
      obtain ⟨c6, h⟩ := ck_e h
      refine g_iald X ar_57.1 ar_57.2.1 ar_57.2.2 (ib_e c6) dX6_leastAlike_43 rfl ?_
      refine g_icmp_ne X dX6_leastAlike_44 (tgt := 49) rfl rfl (fun c7 => ?_) (fun c7 => ?_)
      · replace h := if_f c7 h
        exact ok_Solver_leastAlike_b49 X Y hg hk12 σ h
      · replace h := if_t c7 h
        refine g_iload_n X dX6_leastAlike_47 rfl rfl ?_
        obtain ⟨rfl, rfl⟩ := rt_e h
        exact g_iret X Y dX6_leastAlike_48
def f_Solver_leastAlike_l12 (g : Nat) : Int32 → Int32 → St → Option (Int32 × St) := lp (fun _ _ _ => none) (f_Solver_leastAlike_b12 g) FU
theorem ok_Solver_leastAlike_l12 {E : gE} {w : wT} {σ' : St} {r : Int32} (X : gC E w cX6_leastAlike 4 RX6 1) (Y : gQ E w (some .int) (some (.int r)) σ') {g : Nat} (hg : isG g = true) {x2 : Int32} {x3 : Int32} (σ : St) (h : f_Solver_leastAlike_l12 g x2 x3 σ = some (r, σ')) : gW E w 4 σ 12 [some (.ref (w.1 6)), some (.ref (w.1 g)), some (.int x2), some (.int x3)] [] :=
  lp_ind (P := fun (k : Int32 → Int32 → St → Option (Int32 × St)) => ∀ (x2 : Int32) (x3 : Int32) (σ : St), k x2 x3 σ = some (r, σ') → gW E w 4 σ 12 [some (.ref (w.1 6)), some (.ref (w.1 g)), some (.int x2), some (.int x3)] []) (fun _ _ _ hh => nn hh) (fun k hk x2 x3 σ  hh => ok_Solver_leastAlike_b12 X Y hg hk σ hh) FU x2 x3 σ  h

def f_Solver_leastAlike (g : Nat) (x2 : Int32) (σ : St) : Option (Int32 × St) :=
  ck (isG g) <| ck (ib x2 60) <| ck (ib (rI σ (g + 3) x2) 10) <| f_Solver_leastAlike_l12 g x2 (rI σ (g + 16) (rI σ (g + 3) x2)) σ
set_option maxRecDepth 4000 in
theorem ok_Solver_leastAlike {w : wT} (hi : wInj w) {l : Launch} {g : Nat} {x2 : Int32} {σ σ' : St} {r : Int32} (h : f_Solver_leastAlike g x2 σ = some (r, σ')) : gM w l yX6_leastAlike cX6_leastAlike 4 (some .int) 1 [.ref (w.1 6), .ref (w.1 g), .int x2] σ (some (.int r)) σ' := by
  unfold f_Solver_leastAlike at h
  obtain ⟨hg, h⟩ := ck_e h
  refine gM_of hi (by decide) [some (.ref (w.1 6)), some (.ref (w.1 g)), some (.int x2)] rfl (Nat.le_of_ble_eq_true rfl) (fun E hl X Y => ?_)
  refine g_aload_n X dX6_leastAlike_0 rfl rfl ?_
  refine gf_RX6_61 hg X dX6_leastAlike_1 rfl ?_
  refine g_aload_n X dX6_leastAlike_4 rfl rfl ?_
  refine gf_RX6_70 hg X dX6_leastAlike_5 rfl ?_
  refine g_iload_n X dX6_leastAlike_8 rfl rfl ?_
  obtain ⟨c1, h⟩ := ck_e h
  refine g_iald X (ga_3 hg).1 (ga_3 hg).2.1 (ga_3 hg).2.2 (ib_e c1) dX6_leastAlike_9 rfl ?_
  obtain ⟨c2, h⟩ := ck_e h
  refine g_iald X (ga_16 hg).1 (ga_16 hg).2.1 (ga_16 hg).2.2 (ib_e c2) dX6_leastAlike_10 rfl ?_
  refine g_istore_n X [some (.ref (w.1 6)), some (.ref (w.1 g)), some (.int x2), some (.int (rI σ (g + 16) (rI σ (g + 3) x2)))] dX6_leastAlike_11 (Nat.le_of_ble_eq_true rfl) rfl rfl rfl ?_
  exact ok_Solver_leastAlike_l12 X Y hg σ h

theorem dX6_tellGroups_0 : decode cX6_tellGroups 0 = .ok (.iconst 0, 1) := by decide +kernel
theorem dX6_tellGroups_1 : decode cX6_tellGroups 1 = .ok (.istore_n 3, 1) := by decide +kernel
theorem dX6_tellGroups_2 : decode cX6_tellGroups 2 = .ok (.iload_n 3, 1) := by decide +kernel
theorem dX6_tellGroups_3 : decode cX6_tellGroups 3 = .ok (.aload_n 1, 1) := by decide +kernel
theorem dX6_tellGroups_4 : decode cX6_tellGroups 4 = .ok (.getfield 64, 3) := by decide +kernel
theorem dX6_tellGroups_7 : decode cX6_tellGroups 7 = .ok (.if_icmp .ge 82, 3) := by decide +kernel
theorem dX6_tellGroups_10 : decode cX6_tellGroups 10 = .ok (.aload_n 0, 1) := by decide +kernel
theorem dX6_tellGroups_11 : decode cX6_tellGroups 11 = .ok (.getfield 25, 3) := by decide +kernel
theorem dX6_tellGroups_14 : decode cX6_tellGroups 14 = .ok (.iload_n 3, 1) := by decide +kernel
theorem dX6_tellGroups_15 : decode cX6_tellGroups 15 = .ok (.iload_n 3, 1) := by decide +kernel
theorem dX6_tellGroups_16 : decode cX6_tellGroups 16 = .ok (.ifCond .ne 8, 3) := by decide +kernel
theorem dX6_tellGroups_19 : decode cX6_tellGroups 19 = .ok (.ldc 28, 2) := by decide +kernel
theorem dX6_tellGroups_21 : decode cX6_tellGroups 21 = .ok (.goto 14, 3) := by decide +kernel
theorem dX6_tellGroups_24 : decode cX6_tellGroups 24 = .ok (.aload_n 0, 1) := by decide +kernel
theorem dX6_tellGroups_25 : decode cX6_tellGroups 25 = .ok (.getfield 25, 3) := by decide +kernel
theorem dX6_tellGroups_28 : decode cX6_tellGroups 28 = .ok (.aload_n 1, 1) := by decide +kernel
theorem dX6_tellGroups_29 : decode cX6_tellGroups 29 = .ok (.getfield 67, 3) := by decide +kernel
theorem dX6_tellGroups_32 : decode cX6_tellGroups 32 = .ok (.iload_n 3, 1) := by decide +kernel
theorem dX6_tellGroups_33 : decode cX6_tellGroups 33 = .ok (.iaload, 1) := by decide +kernel
theorem dX6_tellGroups_34 : decode cX6_tellGroups 34 = .ok (.iaload, 1) := by decide +kernel
theorem dX6_tellGroups_35 : decode cX6_tellGroups 35 = .ok (.iastore, 1) := by decide +kernel
theorem dX6_tellGroups_36 : decode cX6_tellGroups 36 = .ok (.iload_n 2, 1) := by decide +kernel
theorem dX6_tellGroups_37 : decode cX6_tellGroups 37 = .ok (.ldc 28, 2) := by decide +kernel
theorem dX6_tellGroups_39 : decode cX6_tellGroups 39 = .ok (.if_icmp .eq 20, 3) := by decide +kernel
theorem dX6_tellGroups_42 : decode cX6_tellGroups 42 = .ok (.aload_n 1, 1) := by decide +kernel
theorem dX6_tellGroups_43 : decode cX6_tellGroups 43 = .ok (.getfield 70, 3) := by decide +kernel
theorem dX6_tellGroups_46 : decode cX6_tellGroups 46 = .ok (.iload_n 3, 1) := by decide +kernel
theorem dX6_tellGroups_47 : decode cX6_tellGroups 47 = .ok (.iaload, 1) := by decide +kernel
theorem dX6_tellGroups_48 : decode cX6_tellGroups 48 = .ok (.iload_n 2, 1) := by decide +kernel
theorem dX6_tellGroups_49 : decode cX6_tellGroups 49 = .ok (.if_icmp .ne 10, 3) := by decide +kernel
theorem dX6_tellGroups_52 : decode cX6_tellGroups 52 = .ok (.aload_n 0, 1) := by decide +kernel
theorem dX6_tellGroups_53 : decode cX6_tellGroups 53 = .ok (.getfield 25, 3) := by decide +kernel
theorem dX6_tellGroups_56 : decode cX6_tellGroups 56 = .ok (.iload_n 3, 1) := by decide +kernel
theorem dX6_tellGroups_57 : decode cX6_tellGroups 57 = .ok (.iload_n 3, 1) := by decide +kernel
theorem dX6_tellGroups_58 : decode cX6_tellGroups 58 = .ok (.iastore, 1) := by decide +kernel
theorem dX6_tellGroups_59 : decode cX6_tellGroups 59 = .ok (.aload_n 0, 1) := by decide +kernel
theorem dX6_tellGroups_60 : decode cX6_tellGroups 60 = .ok (.getfield 15, 3) := by decide +kernel
theorem dX6_tellGroups_63 : decode cX6_tellGroups 63 = .ok (.iload_n 3, 1) := by decide +kernel
theorem dX6_tellGroups_64 : decode cX6_tellGroups 64 = .ok (.aload_n 1, 1) := by decide +kernel
theorem dX6_tellGroups_65 : decode cX6_tellGroups 65 = .ok (.iload_n 3, 1) := by decide +kernel
theorem dX6_tellGroups_66 : decode cX6_tellGroups 66 = .ok (.invokevirtual 73, 3) := by decide +kernel
theorem dX6_tellGroups_69 : decode cX6_tellGroups 69 = .ok (.ifCond .eq 12, 3) := by decide +kernel
theorem dX6_tellGroups_72 : decode cX6_tellGroups 72 = .ok (.aload_n 0, 1) := by decide +kernel
theorem dX6_tellGroups_73 : decode cX6_tellGroups 73 = .ok (.aload_n 1, 1) := by decide +kernel
theorem dX6_tellGroups_74 : decode cX6_tellGroups 74 = .ok (.iload_n 3, 1) := by decide +kernel
theorem dX6_tellGroups_75 : decode cX6_tellGroups 75 = .ok (.invokevirtual 77, 3) := by decide +kernel
theorem dX6_tellGroups_78 : decode cX6_tellGroups 78 = .ok (.goto 4, 3) := by decide +kernel
theorem dX6_tellGroups_81 : decode cX6_tellGroups 81 = .ok (.iload_n 3, 1) := by decide +kernel
theorem dX6_tellGroups_82 : decode cX6_tellGroups 82 = .ok (.iastore, 1) := by decide +kernel
theorem dX6_tellGroups_83 : decode cX6_tellGroups 83 = .ok (.iinc 3 1, 3) := by decide +kernel
theorem dX6_tellGroups_86 : decode cX6_tellGroups 86 = .ok (.goto (-84), 3) := by decide +kernel
theorem dX6_tellGroups_89 : decode cX6_tellGroups 89 = .ok (.return_, 1) := by decide +kernel
def f_Solver_tellGroups_b82 (g : Nat) (k2 : Int32 → Int32 → St → Option St) (x2 : Int32) (x3 : Int32) (xs1 : Int32) (xs2 : Int32) (σ : St) : Option St :=
  ck (ib xs1 60) <| lE (stA σ 54 xs1.toNatClampNeg xs2) fun σ2 => k2 x2 (x3 + 1) σ2
set_option maxRecDepth 4000 in
theorem ok_Solver_tellGroups_b82 {E : gE} {w : wT} {σ' : St} (X : gC E w cX6_tellGroups 4 RX6 2) (Y : gQ E w none none σ') {g : Nat} (hg : isG g = true) {k2 : Int32 → Int32 → St → Option St} (hk2 : ∀ (x2 : Int32) (x3 : Int32) (σ : St), k2 x2 x3 σ = some σ' → gW E w 4 σ 2 [some (.ref (w.1 6)), some (.ref (w.1 g)), some (.int x2), some (.int x3)] []) {x2 : Int32} {x3 : Int32} {xs1 : Int32} {xs2 : Int32} (σ : St) (h : f_Solver_tellGroups_b82 g k2 x2 x3 xs1 xs2 σ = some σ') : gW E w 4 σ 82 [some (.ref (w.1 6)), some (.ref (w.1 g)), some (.int x2), some (.int x3)] [.int xs2, .int xs1, .ref (w.1 54)] := by
  unfold f_Solver_tellGroups_b82 at h
  obtain ⟨c1, h⟩ := ck_e h
  refine g_iast X ar_54.1 ar_54.2.1 ar_54.2.2 (ib_e c1) dX6_tellGroups_82 rfl (fun σ2 e3 => ?_)
  replace h := lE_c e3 h
  refine g_iinc X [some (.ref (w.1 6)), some (.ref (w.1 g)), some (.int x2), some (.int (x3 + 1))] dX6_tellGroups_83 rfl (ii_1 x3) (Nat.le_of_ble_eq_true rfl) rfl rfl rfl ?_
  refine g_goto X dX6_tellGroups_86 (tgt := 2) rfl ?_
  exact hk2 x2 (x3 + 1) σ2 h

def f_Solver_tellGroups_b59 (g : Nat) (k2 : Int32 → Int32 → St → Option St) (x2 : Int32) (x3 : Int32) (σ : St) : Option St :=
  bd (f_Game_isHeld g x3 σ) fun r3 σ2 => if r3 = 0 then (f_Solver_tellGroups_b82 g k2 x2 x3 x3 x3 σ2) else (bd (f_Solver_leastAlike g x3 σ2) fun r7 σ6 => f_Solver_tellGroups_b82 g k2 x2 x3 x3 r7 σ6)
set_option maxRecDepth 4000 in
theorem ok_Solver_tellGroups_b59 {E : gE} {w : wT} {σ' : St} (X : gC E w cX6_tellGroups 4 RX6 2) (Y : gQ E w none none σ') {g : Nat} (hg : isG g = true) {k2 : Int32 → Int32 → St → Option St} (hk2 : ∀ (x2 : Int32) (x3 : Int32) (σ : St), k2 x2 x3 σ = some σ' → gW E w 4 σ 2 [some (.ref (w.1 6)), some (.ref (w.1 g)), some (.int x2), some (.int x3)] []) {x2 : Int32} {x3 : Int32} (σ : St) (h : f_Solver_tellGroups_b59 g k2 x2 x3 σ = some σ') : gW E w 4 σ 59 [some (.ref (w.1 6)), some (.ref (w.1 g)), some (.int x2), some (.int x3)] [] := by
  unfold f_Solver_tellGroups_b59 at h
  refine g_aload_n X dX6_tellGroups_59 rfl rfl ?_
  refine gf_RX6_15 X dX6_tellGroups_60 rfl ?_
  refine g_iload_n X dX6_tellGroups_63 rfl rfl ?_
  refine g_aload_n X dX6_tellGroups_64 rfl rfl ?_
  refine g_iload_n X dX6_tellGroups_65 rfl rfl ?_
  obtain ⟨r3, σ2, h1, h⟩ := bd_e h
  refine g_callVI X [.int x3] (ok_Game_isHeld X.inj h1) my_yX1_isHeld mi_yX1_isHeld ms_yX1_isHeld ml_RX6_73 (go_ hg).1 (go_ hg).2.1 (go_ hg).2.2 (by decide) rfl dX6_tellGroups_66 (Nat.le_of_ble_eq_true rfl) rfl rfl ?_
  refine g_if_eq X dX6_tellGroups_69 (tgt := 81) rfl rfl (fun c4 => ?_) (fun c4 => ?_)
  · replace h := if_t c4 h
    refine g_iload_n X dX6_tellGroups_81 rfl rfl ?_
    exact ok_Solver_tellGroups_b82 X Y hg hk2 σ2 h
  · replace h := if_f c4 h
    refine g_aload_n X dX6_tellGroups_72 rfl rfl ?_
    refine g_aload_n X dX6_tellGroups_73 rfl rfl ?_
    refine g_iload_n X dX6_tellGroups_74 rfl rfl ?_
    obtain ⟨r7, σ6, h5, h⟩ := bd_e h
    refine g_callVI X [.ref (w.1 g), .int x3] (ok_Solver_leastAlike X.inj h5) my_yX6_leastAlike mi_yX6_leastAlike ms_yX6_leastAlike ml_RX6_77 (by decide) rfl rfl (by decide) rfl dX6_tellGroups_75 (Nat.le_of_ble_eq_true rfl) rfl rfl ?_
    refine g_goto X dX6_tellGroups_78 (tgt := 82) rfl ?_
    exact ok_Solver_tellGroups_b82 X Y hg hk2 σ6 h

def f_Solver_tellGroups_b35 (g : Nat) (k2 : Int32 → Int32 → St → Option St) (x2 : Int32) (x3 : Int32) (xs1 : Int32) (xs2 : Int32) (σ : St) : Option St :=
  ck (ib xs1 60) <| lE (stA σ 57 xs1.toNatClampNeg xs2) fun σ2 => if x2 = ((-1000000)) then (f_Solver_tellGroups_b59 g k2 x2 x3 σ2) else (ck (ib x3 60) <| if (rI σ2 (g + 3) x3) = x2 then (ck (ib x3 60) <| lE (stA σ2 57 x3.toNatClampNeg x3) fun σ8 => f_Solver_tellGroups_b59 g k2 x2 x3 σ8) else (f_Solver_tellGroups_b59 g k2 x2 x3 σ2))
set_option maxRecDepth 4000 in
theorem ok_Solver_tellGroups_b35 {E : gE} {w : wT} {σ' : St} (X : gC E w cX6_tellGroups 4 RX6 2) (Y : gQ E w none none σ') {g : Nat} (hg : isG g = true) {k2 : Int32 → Int32 → St → Option St} (hk2 : ∀ (x2 : Int32) (x3 : Int32) (σ : St), k2 x2 x3 σ = some σ' → gW E w 4 σ 2 [some (.ref (w.1 6)), some (.ref (w.1 g)), some (.int x2), some (.int x3)] []) {x2 : Int32} {x3 : Int32} {xs1 : Int32} {xs2 : Int32} (σ : St) (h : f_Solver_tellGroups_b35 g k2 x2 x3 xs1 xs2 σ = some σ') : gW E w 4 σ 35 [some (.ref (w.1 6)), some (.ref (w.1 g)), some (.int x2), some (.int x3)] [.int xs2, .int xs1, .ref (w.1 57)] := by
  unfold f_Solver_tellGroups_b35 at h
  obtain ⟨c1, h⟩ := ck_e h
  refine g_iast X ar_57.1 ar_57.2.1 ar_57.2.2 (ib_e c1) dX6_tellGroups_35 rfl (fun σ2 e3 => ?_)
  replace h := lE_c e3 h
  refine g_iload_n X dX6_tellGroups_36 rfl rfl ?_
  refine g_ldc X dX6_tellGroups_37 kc_RX6_28 rfl ?_
  refine g_icmp_eq X dX6_tellGroups_39 (tgt := 59) rfl rfl (fun c4 => ?_) (fun c4 => ?_)
  · replace h := if_t c4 h
    exact ok_Solver_tellGroups_b59 X Y hg hk2 σ2 h
  · replace h := if_f c4 h
    refine g_aload_n X dX6_tellGroups_42 rfl rfl ?_
    refine gf_RX6_70 hg X dX6_tellGroups_43 rfl ?_
    refine g_iload_n X dX6_tellGroups_46 rfl rfl ?_
    obtain ⟨c5, h⟩ := ck_e h
    refine g_iald X (ga_3 hg).1 (ga_3 hg).2.1 (ga_3 hg).2.2 (ib_e c5) dX6_tellGroups_47 rfl ?_
    refine g_iload_n X dX6_tellGroups_48 rfl rfl ?_
    refine g_icmp_ne X dX6_tellGroups_49 (tgt := 59) rfl rfl (fun c6 => ?_) (fun c6 => ?_)
    · replace h := if_f c6 h
      exact ok_Solver_tellGroups_b59 X Y hg hk2 σ2 h
    · replace h := if_t c6 h
      refine g_aload_n X dX6_tellGroups_52 rfl rfl ?_
      refine gf_RX6_25 X dX6_tellGroups_53 rfl ?_
      refine g_iload_n X dX6_tellGroups_56 rfl rfl ?_
      refine g_iload_n X dX6_tellGroups_57 rfl rfl ?_
      obtain ⟨c7, h⟩ := ck_e h
      refine g_iast X ar_57.1 ar_57.2.1 ar_57.2.2 (ib_e c7) dX6_tellGroups_58 rfl (fun σ8 e9 => ?_)
      replace h := lE_c e9 h
      exact ok_Solver_tellGroups_b59 X Y hg hk2 σ8 h

def f_Solver_tellGroups_b2 (g : Nat) (k2 : Int32 → Int32 → St → Option St) (x2 : Int32) (x3 : Int32) (σ : St) : Option St :=
  if (rF σ (g + 10)) ≤ x3 then (some σ) else (if x3 = 0 then (f_Solver_tellGroups_b35 g k2 x2 x3 x3 ((-1000000)) σ) else (ck (ib x3 60) <| ck (ib (rI σ (g + 5) x3) 60) <| f_Solver_tellGroups_b35 g k2 x2 x3 x3 (rI σ 57 (rI σ (g + 5) x3)) σ))
set_option maxRecDepth 4000 in
theorem ok_Solver_tellGroups_b2 {E : gE} {w : wT} {σ' : St} (X : gC E w cX6_tellGroups 4 RX6 2) (Y : gQ E w none none σ') {g : Nat} (hg : isG g = true) {k2 : Int32 → Int32 → St → Option St} (hk2 : ∀ (x2 : Int32) (x3 : Int32) (σ : St), k2 x2 x3 σ = some σ' → gW E w 4 σ 2 [some (.ref (w.1 6)), some (.ref (w.1 g)), some (.int x2), some (.int x3)] []) {x2 : Int32} {x3 : Int32} (σ : St) (h : f_Solver_tellGroups_b2 g k2 x2 x3 σ = some σ') : gW E w 4 σ 2 [some (.ref (w.1 6)), some (.ref (w.1 g)), some (.int x2), some (.int x3)] [] := by
  unfold f_Solver_tellGroups_b2 at h
  refine g_iload_n X dX6_tellGroups_2 rfl rfl ?_
  refine g_aload_n X dX6_tellGroups_3 rfl rfl ?_
  refine gf_RX6_64 hg X dX6_tellGroups_4 rfl ?_
  refine g_icmp_ge X dX6_tellGroups_7 (tgt := 89) rfl rfl (fun c1 => ?_) (fun c1 => ?_)
  · replace h := if_t c1 h
    obtain rfl := rv_e h
    exact g_vret X Y dX6_tellGroups_89
  · replace h := if_f c1 h
    refine g_aload_n X dX6_tellGroups_10 rfl rfl ?_
    refine gf_RX6_25 X dX6_tellGroups_11 rfl ?_
    refine g_iload_n X dX6_tellGroups_14 rfl rfl ?_
    refine g_iload_n X dX6_tellGroups_15 rfl rfl ?_
    refine g_if_ne X dX6_tellGroups_16 (tgt := 24) rfl rfl (fun c2 => ?_) (fun c2 => ?_)
    · replace h := if_f c2 h
      refine g_aload_n X dX6_tellGroups_24 rfl rfl ?_
      refine gf_RX6_25 X dX6_tellGroups_25 rfl ?_
      refine g_aload_n X dX6_tellGroups_28 rfl rfl ?_
      refine gf_RX6_67 hg X dX6_tellGroups_29 rfl ?_
      refine g_iload_n X dX6_tellGroups_32 rfl rfl ?_
      obtain ⟨c3, h⟩ := ck_e h
      refine g_iald X (ga_5 hg).1 (ga_5 hg).2.1 (ga_5 hg).2.2 (ib_e c3) dX6_tellGroups_33 rfl ?_
      obtain ⟨c4, h⟩ := ck_e h
      refine g_iald X ar_57.1 ar_57.2.1 ar_57.2.2 (ib_e c4) dX6_tellGroups_34 rfl ?_
      exact ok_Solver_tellGroups_b35 X Y hg hk2 σ h
    · replace h := if_t c2 h
      refine g_ldc X dX6_tellGroups_19 kc_RX6_28 rfl ?_
      refine g_goto X dX6_tellGroups_21 (tgt := 35) rfl ?_
      exact ok_Solver_tellGroups_b35 X Y hg hk2 σ h
def f_Solver_tellGroups_l2 (g : Nat) : Int32 → Int32 → St → Option St := lp (fun _ _ _ => none) (f_Solver_tellGroups_b2 g) FU
theorem ok_Solver_tellGroups_l2 {E : gE} {w : wT} {σ' : St} (X : gC E w cX6_tellGroups 4 RX6 2) (Y : gQ E w none none σ') {g : Nat} (hg : isG g = true) {x2 : Int32} {x3 : Int32} (σ : St) (h : f_Solver_tellGroups_l2 g x2 x3 σ = some σ') : gW E w 4 σ 2 [some (.ref (w.1 6)), some (.ref (w.1 g)), some (.int x2), some (.int x3)] [] :=
  lp_ind (P := fun (k : Int32 → Int32 → St → Option St) => ∀ (x2 : Int32) (x3 : Int32) (σ : St), k x2 x3 σ = some σ' → gW E w 4 σ 2 [some (.ref (w.1 6)), some (.ref (w.1 g)), some (.int x2), some (.int x3)] []) (fun _ _ _ hh => nn hh) (fun k hk x2 x3 σ  hh => ok_Solver_tellGroups_b2 X Y hg hk σ hh) FU x2 x3 σ  h

def f_Solver_tellGroups (g : Nat) (x2 : Int32) (σ : St) : Option St :=
  ck (isG g) <| f_Solver_tellGroups_l2 g x2 0 σ
set_option maxRecDepth 4000 in
theorem ok_Solver_tellGroups {w : wT} (hi : wInj w) {l : Launch} {g : Nat} {x2 : Int32} {σ σ' : St} (h : f_Solver_tellGroups g x2 σ = some σ') : gM w l yX6_tellGroups cX6_tellGroups 4 none 2 [.ref (w.1 6), .ref (w.1 g), .int x2] σ none σ' := by
  unfold f_Solver_tellGroups at h
  obtain ⟨hg, h⟩ := ck_e h
  refine gM_of hi (by decide) [some (.ref (w.1 6)), some (.ref (w.1 g)), some (.int x2)] rfl (Nat.le_of_ble_eq_true rfl) (fun E hl X Y => ?_)
  refine g_iconst X kI_0 dX6_tellGroups_0 rfl ?_
  refine g_istore_n X [some (.ref (w.1 6)), some (.ref (w.1 g)), some (.int x2), some (.int 0)] dX6_tellGroups_1 (Nat.le_of_ble_eq_true rfl) rfl rfl rfl ?_
  exact ok_Solver_tellGroups_l2 X Y hg σ h

theorem dX1_ownActsTo_0 : decode cX1_ownActsTo 0 = .ok (.aload_n 0, 1) := by decide +kernel
theorem dX1_ownActsTo_1 : decode cX1_ownActsTo 1 = .ok (.getfield 46, 3) := by decide +kernel
theorem dX1_ownActsTo_4 : decode cX1_ownActsTo 4 = .ok (.iload_n 1, 1) := by decide +kernel
theorem dX1_ownActsTo_5 : decode cX1_ownActsTo 5 = .ok (.bipush 60, 2) := by decide +kernel
theorem dX1_ownActsTo_7 : decode cX1_ownActsTo 7 = .ok (.imul, 1) := by decide +kernel
theorem dX1_ownActsTo_8 : decode cX1_ownActsTo 8 = .ok (.iload_n 2, 1) := by decide +kernel
theorem dX1_ownActsTo_9 : decode cX1_ownActsTo 9 = .ok (.iadd, 1) := by decide +kernel
theorem dX1_ownActsTo_10 : decode cX1_ownActsTo 10 = .ok (.iaload, 1) := by decide +kernel
theorem dX1_ownActsTo_11 : decode cX1_ownActsTo 11 = .ok (.ireturn, 1) := by decide +kernel
def f_Game_ownActsTo (g : Nat) (x1 : Int32) (x2 : Int32) (σ : St) : Option (Int32 × St) :=
  ck (isG g) <| ck (ib ((x1 * 60) + x2) 120) <| some (rI σ (g + 11) ((x1 * 60) + x2), σ)
set_option maxRecDepth 4000 in
theorem ok_Game_ownActsTo {w : wT} (hi : wInj w) {l : Launch} {g : Nat} {x1 : Int32} {x2 : Int32} {σ σ' : St} {r : Int32} (h : f_Game_ownActsTo g x1 x2 σ = some (r, σ')) : gM w l yX1_ownActsTo cX1_ownActsTo 3 (some .int) 1 [.ref (w.1 g), .int x1, .int x2] σ (some (.int r)) σ' := by
  unfold f_Game_ownActsTo at h
  obtain ⟨hg, h⟩ := ck_e h
  refine gM_of hi (by decide) [some (.ref (w.1 g)), some (.int x1), some (.int x2)] rfl (Nat.le_of_ble_eq_true rfl) (fun E hl X Y => ?_)
  refine g_aload_n X dX1_ownActsTo_0 rfl rfl ?_
  refine gf_RX1_46 hg X dX1_ownActsTo_1 rfl ?_
  refine g_iload_n X dX1_ownActsTo_4 rfl rfl ?_
  refine g_bipush X kB_60 dX1_ownActsTo_5 rfl ?_
  refine g_imul X dX1_ownActsTo_7 rfl ?_
  refine g_iload_n X dX1_ownActsTo_8 rfl rfl ?_
  refine g_iadd X dX1_ownActsTo_9 rfl ?_
  obtain ⟨c1, h⟩ := ck_e h
  refine g_iald X (ga_11 hg).1 (ga_11 hg).2.1 (ga_11 hg).2.2 (ib_e c1) dX1_ownActsTo_10 rfl ?_
  obtain ⟨rfl, rfl⟩ := rt_e h
  exact g_iret X Y dX1_ownActsTo_11

theorem dX1_mostOwnActs_0 : decode cX1_mostOwnActs 0 = .ok (.iconst 0, 1) := by decide +kernel
theorem dX1_mostOwnActs_1 : decode cX1_mostOwnActs 1 = .ok (.istore_n 2, 1) := by decide +kernel
theorem dX1_mostOwnActs_2 : decode cX1_mostOwnActs 2 = .ok (.iconst 0, 1) := by decide +kernel
theorem dX1_mostOwnActs_3 : decode cX1_mostOwnActs 3 = .ok (.istore_n 3, 1) := by decide +kernel
theorem dX1_mostOwnActs_4 : decode cX1_mostOwnActs 4 = .ok (.iload_n 3, 1) := by decide +kernel
theorem dX1_mostOwnActs_5 : decode cX1_mostOwnActs 5 = .ok (.aload_n 0, 1) := by decide +kernel
theorem dX1_mostOwnActs_6 : decode cX1_mostOwnActs 6 = .ok (.getfield 9, 3) := by decide +kernel
theorem dX1_mostOwnActs_9 : decode cX1_mostOwnActs 9 = .ok (.if_icmp .ge 20, 3) := by decide +kernel
theorem dX1_mostOwnActs_12 : decode cX1_mostOwnActs 12 = .ok (.iload_n 2, 1) := by decide +kernel
theorem dX1_mostOwnActs_13 : decode cX1_mostOwnActs 13 = .ok (.aload_n 0, 1) := by decide +kernel
theorem dX1_mostOwnActs_14 : decode cX1_mostOwnActs 14 = .ok (.iload_n 1, 1) := by decide +kernel
theorem dX1_mostOwnActs_15 : decode cX1_mostOwnActs 15 = .ok (.iload_n 3, 1) := by decide +kernel
theorem dX1_mostOwnActs_16 : decode cX1_mostOwnActs 16 = .ok (.invokevirtual 86, 3) := by decide +kernel
theorem dX1_mostOwnActs_19 : decode cX1_mostOwnActs 19 = .ok (.invokestatic 90, 3) := by decide +kernel
theorem dX1_mostOwnActs_22 : decode cX1_mostOwnActs 22 = .ok (.istore_n 2, 1) := by decide +kernel
theorem dX1_mostOwnActs_23 : decode cX1_mostOwnActs 23 = .ok (.iinc 3 1, 3) := by decide +kernel
theorem dX1_mostOwnActs_26 : decode cX1_mostOwnActs 26 = .ok (.goto (-22), 3) := by decide +kernel
theorem dX1_mostOwnActs_29 : decode cX1_mostOwnActs 29 = .ok (.iload_n 2, 1) := by decide +kernel
theorem dX1_mostOwnActs_30 : decode cX1_mostOwnActs 30 = .ok (.ireturn, 1) := by decide +kernel
def f_Game_mostOwnActs_b4 (g : Nat) (k4 : Int32 → Int32 → Int32 → St → Option (Int32 × St)) (x1 : Int32) (x2 : Int32) (x3 : Int32) (σ : St) : Option (Int32 × St) :=
  if (rF σ (g + 10)) ≤ x3 then (some (x2, σ)) else (bd (f_Game_ownActsTo g x1 x3 σ) fun r4 σ3 => k4 x1 (if x2 < r4 then r4 else x2) (x3 + 1) σ3)
set_option maxRecDepth 4000 in
theorem ok_Game_mostOwnActs_b4 {E : gE} {w : wT} {σ' : St} {r : Int32} (X : gC E w cX1_mostOwnActs 4 RX1 2) (Y : gQ E w (some .int) (some (.int r)) σ') {g : Nat} (hg : isG g = true) {k4 : Int32 → Int32 → Int32 → St → Option (Int32 × St)} (hk4 : ∀ (x1 : Int32) (x2 : Int32) (x3 : Int32) (σ : St), k4 x1 x2 x3 σ = some (r, σ') → gW E w 4 σ 4 [some (.ref (w.1 g)), some (.int x1), some (.int x2), some (.int x3)] []) {x1 : Int32} {x2 : Int32} {x3 : Int32} (σ : St) (h : f_Game_mostOwnActs_b4 g k4 x1 x2 x3 σ = some (r, σ')) : gW E w 4 σ 4 [some (.ref (w.1 g)), some (.int x1), some (.int x2), some (.int x3)] [] := by
  unfold f_Game_mostOwnActs_b4 at h
  refine g_iload_n X dX1_mostOwnActs_4 rfl rfl ?_
  refine g_aload_n X dX1_mostOwnActs_5 rfl rfl ?_
  refine gf_RX1_9 hg X dX1_mostOwnActs_6 rfl ?_
  refine g_icmp_ge X dX1_mostOwnActs_9 (tgt := 29) rfl rfl (fun c1 => ?_) (fun c1 => ?_)
  · replace h := if_t c1 h
    refine g_iload_n X dX1_mostOwnActs_29 rfl rfl ?_
    obtain ⟨rfl, rfl⟩ := rt_e h
    exact g_iret X Y dX1_mostOwnActs_30
  · replace h := if_f c1 h
    refine g_iload_n X dX1_mostOwnActs_12 rfl rfl ?_
    refine g_aload_n X dX1_mostOwnActs_13 rfl rfl ?_
    refine g_iload_n X dX1_mostOwnActs_14 rfl rfl ?_
    refine g_iload_n X dX1_mostOwnActs_15 rfl rfl ?_
    obtain ⟨r4, σ3, h2, h⟩ := bd_e h
    refine g_callVI X [.int x1, .int x3] (ok_Game_ownActsTo X.inj h2) my_yX1_ownActsTo mi_yX1_ownActsTo ms_yX1_ownActsTo ml_RX1_86 (go_ hg).1 (go_ hg).2.1 (go_ hg).2.2 (by decide) rfl dX1_mostOwnActs_16 (Nat.le_of_ble_eq_true rfl) rfl rfl ?_
    refine g_mmax X ml_RX1_90 (by decide) dX1_mostOwnActs_19 (Nat.le_of_ble_eq_true rfl) rfl ?_
    refine g_istore_n X [some (.ref (w.1 g)), some (.int x1), some (.int (if x2 < r4 then r4 else x2)), some (.int x3)] dX1_mostOwnActs_22 (Nat.le_of_ble_eq_true rfl) rfl rfl rfl ?_
    refine g_iinc X [some (.ref (w.1 g)), some (.int x1), some (.int (if x2 < r4 then r4 else x2)), some (.int (x3 + 1))] dX1_mostOwnActs_23 rfl (ii_1 x3) (Nat.le_of_ble_eq_true rfl) rfl rfl rfl ?_
    refine g_goto X dX1_mostOwnActs_26 (tgt := 4) rfl ?_
    exact hk4 x1 (if x2 < r4 then r4 else x2) (x3 + 1) σ3 h
def f_Game_mostOwnActs_l4 (g : Nat) : Int32 → Int32 → Int32 → St → Option (Int32 × St) := lp (fun _ _ _ _ => none) (f_Game_mostOwnActs_b4 g) FU
theorem ok_Game_mostOwnActs_l4 {E : gE} {w : wT} {σ' : St} {r : Int32} (X : gC E w cX1_mostOwnActs 4 RX1 2) (Y : gQ E w (some .int) (some (.int r)) σ') {g : Nat} (hg : isG g = true) {x1 : Int32} {x2 : Int32} {x3 : Int32} (σ : St) (h : f_Game_mostOwnActs_l4 g x1 x2 x3 σ = some (r, σ')) : gW E w 4 σ 4 [some (.ref (w.1 g)), some (.int x1), some (.int x2), some (.int x3)] [] :=
  lp_ind (P := fun (k : Int32 → Int32 → Int32 → St → Option (Int32 × St)) => ∀ (x1 : Int32) (x2 : Int32) (x3 : Int32) (σ : St), k x1 x2 x3 σ = some (r, σ') → gW E w 4 σ 4 [some (.ref (w.1 g)), some (.int x1), some (.int x2), some (.int x3)] []) (fun _ _ _ _ hh => nn hh) (fun k hk x1 x2 x3 σ  hh => ok_Game_mostOwnActs_b4 X Y hg hk σ hh) FU x1 x2 x3 σ  h

def f_Game_mostOwnActs (g : Nat) (x1 : Int32) (σ : St) : Option (Int32 × St) :=
  ck (isG g) <| f_Game_mostOwnActs_l4 g x1 0 0 σ
set_option maxRecDepth 4000 in
theorem ok_Game_mostOwnActs {w : wT} (hi : wInj w) {l : Launch} {g : Nat} {x1 : Int32} {σ σ' : St} {r : Int32} (h : f_Game_mostOwnActs g x1 σ = some (r, σ')) : gM w l yX1_mostOwnActs cX1_mostOwnActs 4 (some .int) 2 [.ref (w.1 g), .int x1] σ (some (.int r)) σ' := by
  unfold f_Game_mostOwnActs at h
  obtain ⟨hg, h⟩ := ck_e h
  refine gM_of hi (by decide) [some (.ref (w.1 g)), some (.int x1)] rfl (Nat.le_of_ble_eq_true rfl) (fun E hl X Y => ?_)
  refine g_iconst X kI_0 dX1_mostOwnActs_0 rfl ?_
  refine g_istore_n X [some (.ref (w.1 g)), some (.int x1), some (.int 0)] dX1_mostOwnActs_1 (Nat.le_of_ble_eq_true rfl) rfl rfl rfl ?_
  refine g_iconst X kI_0 dX1_mostOwnActs_2 rfl ?_
  refine g_istore_n X [some (.ref (w.1 g)), some (.int x1), some (.int 0), some (.int 0)] dX1_mostOwnActs_3 (Nat.le_of_ble_eq_true rfl) rfl rfl rfl ?_
  exact ok_Game_mostOwnActs_l4 X Y hg σ h

theorem dX6_isOwn_0 : decode cX6_isOwn 0 = .ok (.aload_n 0, 1) := by decide +kernel
theorem dX6_isOwn_1 : decode cX6_isOwn 1 = .ok (.getfield 111, 3) := by decide +kernel
theorem dX6_isOwn_4 : decode cX6_isOwn 4 = .ok (.iload_n 3, 1) := by decide +kernel
theorem dX6_isOwn_5 : decode cX6_isOwn 5 = .ok (.iaload, 1) := by decide +kernel
theorem dX6_isOwn_6 : decode cX6_isOwn 6 = .ok (.iconst 2, 1) := by decide +kernel
theorem dX6_isOwn_7 : decode cX6_isOwn 7 = .ok (.iload_n 1, 1) := by decide +kernel
theorem dX6_isOwn_8 : decode cX6_isOwn 8 = .ok (.iadd, 1) := by decide +kernel
theorem dX6_isOwn_9 : decode cX6_isOwn 9 = .ok (.if_icmp .ne 17, 3) := by decide +kernel
theorem dX6_isOwn_12 : decode cX6_isOwn 12 = .ok (.aload_n 0, 1) := by decide +kernel
theorem dX6_isOwn_13 : decode cX6_isOwn 13 = .ok (.iload_n 1, 1) := by decide +kernel
theorem dX6_isOwn_14 : decode cX6_isOwn 14 = .ok (.iload_n 3, 1) := by decide +kernel
theorem dX6_isOwn_15 : decode cX6_isOwn 15 = .ok (.invokevirtual 104, 3) := by decide +kernel
theorem dX6_isOwn_18 : decode cX6_isOwn 18 = .ok (.iload_n 2, 1) := by decide +kernel
theorem dX6_isOwn_19 : decode cX6_isOwn 19 = .ok (.if_icmp .ne 7, 3) := by decide +kernel
theorem dX6_isOwn_22 : decode cX6_isOwn 22 = .ok (.iconst 1, 1) := by decide +kernel
theorem dX6_isOwn_23 : decode cX6_isOwn 23 = .ok (.goto 4, 3) := by decide +kernel
theorem dX6_isOwn_26 : decode cX6_isOwn 26 = .ok (.iconst 0, 1) := by decide +kernel
theorem dX6_isOwn_27 : decode cX6_isOwn 27 = .ok (.ireturn, 1) := by decide +kernel
def f_Solver_isOwn (g : Nat) (x1 : Int32) (x2 : Int32) (x3 : Int32) (σ : St) : Option (Int32 × St) :=
  ck (isG g) <| ck (ib x3 60) <| if (rI σ (g + 1) x3) = (2 + x1) then (bd (f_Game_ownActsTo g x1 x3 σ) fun r5 σ4 => if r5 = x2 then (some (1, σ4)) else (some (0, σ4))) else (some (0, σ))
set_option maxRecDepth 4000 in
theorem ok_Solver_isOwn {w : wT} (hi : wInj w) {l : Launch} {g : Nat} {x1 : Int32} {x2 : Int32} {x3 : Int32} {σ σ' : St} {r : Int32} (h : f_Solver_isOwn g x1 x2 x3 σ = some (r, σ')) : gM w l yX6_isOwn cX6_isOwn 4 (some .boolean) 2 [.ref (w.1 g), .int x1, .int x2, .int x3] σ (some (.int r)) σ' := by
  unfold f_Solver_isOwn at h
  obtain ⟨hg, h⟩ := ck_e h
  refine gM_of hi (by decide) [some (.ref (w.1 g)), some (.int x1), some (.int x2), some (.int x3)] rfl (Nat.le_of_ble_eq_true rfl) (fun E hl X Y => ?_)
  refine g_aload_n X dX6_isOwn_0 rfl rfl ?_
  refine gf_RX6_111 hg X dX6_isOwn_1 rfl ?_
  refine g_iload_n X dX6_isOwn_4 rfl rfl ?_
  obtain ⟨c1, h⟩ := ck_e h
  refine g_iald X (ga_1 hg).1 (ga_1 hg).2.1 (ga_1 hg).2.2 (ib_e c1) dX6_isOwn_5 rfl ?_
  refine g_iconst X kI_2 dX6_isOwn_6 rfl ?_
  refine g_iload_n X dX6_isOwn_7 rfl rfl ?_
  refine g_iadd X dX6_isOwn_8 rfl ?_
  refine g_icmp_ne X dX6_isOwn_9 (tgt := 26) rfl rfl (fun c2 => ?_) (fun c2 => ?_)
  · replace h := if_f c2 h
    refine g_iconst X kI_0 dX6_isOwn_26 rfl ?_
    obtain ⟨rfl, rfl⟩ := rt_e h
    exact g_zret X Y rfl dX6_isOwn_27
  · replace h := if_t c2 h
    refine g_aload_n X dX6_isOwn_12 rfl rfl ?_
    refine g_iload_n X dX6_isOwn_13 rfl rfl ?_
    refine g_iload_n X dX6_isOwn_14 rfl rfl ?_
    obtain ⟨r5, σ4, h3, h⟩ := bd_e h
    refine g_callVI X [.int x1, .int x3] (ok_Game_ownActsTo X.inj h3) my_yX1_ownActsTo mi_yX1_ownActsTo ms_yX1_ownActsTo ml_RX6_104 (go_ hg).1 (go_ hg).2.1 (go_ hg).2.2 (by decide) rfl dX6_isOwn_15 (Nat.le_of_ble_eq_true rfl) rfl rfl ?_
    refine g_iload_n X dX6_isOwn_18 rfl rfl ?_
    refine g_icmp_ne X dX6_isOwn_19 (tgt := 26) rfl rfl (fun c6 => ?_) (fun c6 => ?_)
    · replace h := if_f c6 h
      refine g_iconst X kI_0 dX6_isOwn_26 rfl ?_
      obtain ⟨rfl, rfl⟩ := rt_e h
      exact g_zret X Y rfl dX6_isOwn_27
    · replace h := if_t c6 h
      refine g_iconst X kI_1 dX6_isOwn_22 rfl ?_
      refine g_goto X dX6_isOwn_23 (tgt := 27) rfl ?_
      obtain ⟨rfl, rfl⟩ := rt_e h
      exact g_zret X Y rfl dX6_isOwn_27

theorem dX1_wayTo_0 : decode cX1_wayTo 0 = .ok (.aload_n 0, 1) := by decide +kernel
theorem dX1_wayTo_1 : decode cX1_wayTo 1 = .ok (.getfield 40, 3) := by decide +kernel
theorem dX1_wayTo_4 : decode cX1_wayTo 4 = .ok (.iload_n 1, 1) := by decide +kernel
theorem dX1_wayTo_5 : decode cX1_wayTo 5 = .ok (.iconst 4, 1) := by decide +kernel
theorem dX1_wayTo_6 : decode cX1_wayTo 6 = .ok (.imul, 1) := by decide +kernel
theorem dX1_wayTo_7 : decode cX1_wayTo 7 = .ok (.iload_n 2, 1) := by decide +kernel
theorem dX1_wayTo_8 : decode cX1_wayTo 8 = .ok (.iadd, 1) := by decide +kernel
theorem dX1_wayTo_9 : decode cX1_wayTo 9 = .ok (.iaload, 1) := by decide +kernel
theorem dX1_wayTo_10 : decode cX1_wayTo 10 = .ok (.ireturn, 1) := by decide +kernel
def f_Game_wayTo (g : Nat) (x1 : Int32) (x2 : Int32) (σ : St) : Option (Int32 × St) :=
  ck (isG g) <| ck (ib ((x1 * 4) + x2) 240) <| some (rI σ (g + 9) ((x1 * 4) + x2), σ)
set_option maxRecDepth 4000 in
theorem ok_Game_wayTo {w : wT} (hi : wInj w) {l : Launch} {g : Nat} {x1 : Int32} {x2 : Int32} {σ σ' : St} {r : Int32} (h : f_Game_wayTo g x1 x2 σ = some (r, σ')) : gM w l yX1_wayTo cX1_wayTo 3 (some .int) 1 [.ref (w.1 g), .int x1, .int x2] σ (some (.int r)) σ' := by
  unfold f_Game_wayTo at h
  obtain ⟨hg, h⟩ := ck_e h
  refine gM_of hi (by decide) [some (.ref (w.1 g)), some (.int x1), some (.int x2)] rfl (Nat.le_of_ble_eq_true rfl) (fun E hl X Y => ?_)
  refine g_aload_n X dX1_wayTo_0 rfl rfl ?_
  refine gf_RX1_40 hg X dX1_wayTo_1 rfl ?_
  refine g_iload_n X dX1_wayTo_4 rfl rfl ?_
  refine g_iconst X kI_4 dX1_wayTo_5 rfl ?_
  refine g_imul X dX1_wayTo_6 rfl ?_
  refine g_iload_n X dX1_wayTo_7 rfl rfl ?_
  refine g_iadd X dX1_wayTo_8 rfl ?_
  obtain ⟨c1, h⟩ := ck_e h
  refine g_iald X (ga_9 hg).1 (ga_9 hg).2.1 (ga_9 hg).2.2 (ib_e c1) dX1_wayTo_9 rfl ?_
  obtain ⟨rfl, rfl⟩ := rt_e h
  exact g_iret X Y dX1_wayTo_10

theorem dX6_addUp_0 : decode cX6_addUp 0 = .ok (.iconst 0, 1) := by decide +kernel
theorem dX6_addUp_1 : decode cX6_addUp 1 = .ok (.istore 4, 2) := by decide +kernel
theorem dX6_addUp_3 : decode cX6_addUp 3 = .ok (.iload 4, 2) := by decide +kernel
theorem dX6_addUp_5 : decode cX6_addUp 5 = .ok (.aload_n 1, 1) := by decide +kernel
theorem dX6_addUp_6 : decode cX6_addUp 6 = .ok (.getfield 64, 3) := by decide +kernel
theorem dX6_addUp_9 : decode cX6_addUp 9 = .ok (.if_icmp .ge 106, 3) := by decide +kernel
theorem dX6_addUp_12 : decode cX6_addUp 12 = .ok (.aload_n 1, 1) := by decide +kernel
theorem dX6_addUp_13 : decode cX6_addUp 13 = .ok (.iload_n 2, 1) := by decide +kernel
theorem dX6_addUp_14 : decode cX6_addUp 14 = .ok (.iload_n 3, 1) := by decide +kernel
theorem dX6_addUp_15 : decode cX6_addUp 15 = .ok (.iload 4, 2) := by decide +kernel
theorem dX6_addUp_17 : decode cX6_addUp 17 = .ok (.invokestatic 81, 3) := by decide +kernel
theorem dX6_addUp_20 : decode cX6_addUp 20 = .ok (.ifCond .eq 89, 3) := by decide +kernel
theorem dX6_addUp_23 : decode cX6_addUp 23 = .ok (.aload_n 0, 1) := by decide +kernel
theorem dX6_addUp_24 : decode cX6_addUp 24 = .ok (.getfield 15, 3) := by decide +kernel
theorem dX6_addUp_27 : decode cX6_addUp 27 = .ok (.iload 4, 2) := by decide +kernel
theorem dX6_addUp_29 : decode cX6_addUp 29 = .ok (.iaload, 1) := by decide +kernel
theorem dX6_addUp_30 : decode cX6_addUp 30 = .ok (.iconst 3, 1) := by decide +kernel
theorem dX6_addUp_31 : decode cX6_addUp 31 = .ok (.imul, 1) := by decide +kernel
theorem dX6_addUp_32 : decode cX6_addUp 32 = .ok (.istore 5, 2) := by decide +kernel
theorem dX6_addUp_34 : decode cX6_addUp 34 = .ok (.iconst 0, 1) := by decide +kernel
theorem dX6_addUp_35 : decode cX6_addUp 35 = .ok (.istore 6, 2) := by decide +kernel
theorem dX6_addUp_37 : decode cX6_addUp 37 = .ok (.iload 6, 2) := by decide +kernel
theorem dX6_addUp_39 : decode cX6_addUp 39 = .ok (.aload_n 1, 1) := by decide +kernel
theorem dX6_addUp_40 : decode cX6_addUp 40 = .ok (.getfield 85, 3) := by decide +kernel
theorem dX6_addUp_43 : decode cX6_addUp 43 = .ok (.iload 4, 2) := by decide +kernel
theorem dX6_addUp_45 : decode cX6_addUp 45 = .ok (.iaload, 1) := by decide +kernel
theorem dX6_addUp_46 : decode cX6_addUp 46 = .ok (.if_icmp .ge 63, 3) := by decide +kernel
theorem dX6_addUp_49 : decode cX6_addUp 49 = .ok (.aload_n 0, 1) := by decide +kernel
theorem dX6_addUp_50 : decode cX6_addUp 50 = .ok (.getfield 15, 3) := by decide +kernel
theorem dX6_addUp_53 : decode cX6_addUp 53 = .ok (.iload 4, 2) := by decide +kernel
theorem dX6_addUp_55 : decode cX6_addUp 55 = .ok (.iaload, 1) := by decide +kernel
theorem dX6_addUp_56 : decode cX6_addUp 56 = .ok (.iload 4, 2) := by decide +kernel
theorem dX6_addUp_58 : decode cX6_addUp 58 = .ok (.if_icmp .ne 7, 3) := by decide +kernel
theorem dX6_addUp_61 : decode cX6_addUp 61 = .ok (.lconst 0, 1) := by decide +kernel
theorem dX6_addUp_62 : decode cX6_addUp 62 = .ok (.goto 13, 3) := by decide +kernel
theorem dX6_addUp_65 : decode cX6_addUp 65 = .ok (.aload_n 0, 1) := by decide +kernel
theorem dX6_addUp_66 : decode cX6_addUp 66 = .ok (.getfield 22, 3) := by decide +kernel
theorem dX6_addUp_69 : decode cX6_addUp 69 = .ok (.iload 5, 2) := by decide +kernel
theorem dX6_addUp_71 : decode cX6_addUp 71 = .ok (.iload 6, 2) := by decide +kernel
theorem dX6_addUp_73 : decode cX6_addUp 73 = .ok (.iadd, 1) := by decide +kernel
theorem dX6_addUp_74 : decode cX6_addUp 74 = .ok (.laload, 1) := by decide +kernel
theorem dX6_addUp_75 : decode cX6_addUp 75 = .ok (.lstore 7, 2) := by decide +kernel
theorem dX6_addUp_77 : decode cX6_addUp 77 = .ok (.aload_n 0, 1) := by decide +kernel
theorem dX6_addUp_78 : decode cX6_addUp 78 = .ok (.getfield 22, 3) := by decide +kernel
theorem dX6_addUp_81 : decode cX6_addUp 81 = .ok (.iload 5, 2) := by decide +kernel
theorem dX6_addUp_83 : decode cX6_addUp 83 = .ok (.iload 6, 2) := by decide +kernel
theorem dX6_addUp_85 : decode cX6_addUp 85 = .ok (.iadd, 1) := by decide +kernel
theorem dX6_addUp_86 : decode cX6_addUp 86 = .ok (.lload 7, 2) := by decide +kernel
theorem dX6_addUp_88 : decode cX6_addUp 88 = .ok (.aload_n 0, 1) := by decide +kernel
theorem dX6_addUp_89 : decode cX6_addUp 89 = .ok (.getfield 9, 3) := by decide +kernel
theorem dX6_addUp_92 : decode cX6_addUp 92 = .ok (.aload_n 1, 1) := by decide +kernel
theorem dX6_addUp_93 : decode cX6_addUp 93 = .ok (.iload 4, 2) := by decide +kernel
theorem dX6_addUp_95 : decode cX6_addUp 95 = .ok (.iload 6, 2) := by decide +kernel
theorem dX6_addUp_97 : decode cX6_addUp 97 = .ok (.invokevirtual 88, 3) := by decide +kernel
theorem dX6_addUp_100 : decode cX6_addUp 100 = .ok (.laload, 1) := by decide +kernel
theorem dX6_addUp_101 : decode cX6_addUp 101 = .ok (.ladd, 1) := by decide +kernel
theorem dX6_addUp_102 : decode cX6_addUp 102 = .ok (.lastore, 1) := by decide +kernel
theorem dX6_addUp_103 : decode cX6_addUp 103 = .ok (.iinc 6 1, 3) := by decide +kernel
theorem dX6_addUp_106 : decode cX6_addUp 106 = .ok (.goto (-69), 3) := by decide +kernel
theorem dX6_addUp_109 : decode cX6_addUp 109 = .ok (.iinc 4 1, 3) := by decide +kernel
theorem dX6_addUp_112 : decode cX6_addUp 112 = .ok (.goto (-109), 3) := by decide +kernel
theorem dX6_addUp_115 : decode cX6_addUp 115 = .ok (.return_, 1) := by decide +kernel
def f_Solver_addUp_b109 (g : Nat) (k3 : Int32 → Int32 → Int32 → St → Option St) (x2 : Int32) (x3 : Int32) (x4 : Int32) (σ : St) : Option St :=
  k3 x2 x3 (x4 + 1) σ
set_option maxRecDepth 4000 in
theorem ok_Solver_addUp_b109 {E : gE} {w : wT} {σ' : St} (X : gC E w cX6_addUp 9 RX6 3) (Y : gQ E w none none σ') {g : Nat} (hg : isG g = true) {k3 : Int32 → Int32 → Int32 → St → Option St} (hk3 : ∀ (x2 : Int32) (x3 : Int32) (x4 : Int32) (σ : St), k3 x2 x3 x4 σ = some σ' → gW E w 9 σ 3 [some (.ref (w.1 6)), some (.ref (w.1 g)), some (.int x2), some (.int x3), some (.int x4)] []) {x2 : Int32} {x3 : Int32} {x4 : Int32} (σ : St) (h : f_Solver_addUp_b109 g k3 x2 x3 x4 σ = some σ') : gW E w 9 σ 109 [some (.ref (w.1 6)), some (.ref (w.1 g)), some (.int x2), some (.int x3), some (.int x4)] [] := by
  unfold f_Solver_addUp_b109 at h
  refine g_iinc X [some (.ref (w.1 6)), some (.ref (w.1 g)), some (.int x2), some (.int x3), some (.int (x4 + 1))] dX6_addUp_109 rfl (ii_1 x4) (Nat.le_of_ble_eq_true rfl) rfl rfl rfl ?_
  refine g_goto X dX6_addUp_112 (tgt := 3) rfl ?_
  exact hk3 x2 x3 (x4 + 1) σ h

def f_Solver_addUp_b75 (g : Nat) (k37 : Int32 → Int32 → Int32 → Int32 → Int32 → St → Option St) (x2 : Int32) (x3 : Int32) (x4 : Int32) (x5 : Int32) (x6 : Int32) (xs0 : Int64) (σ : St) : Option St :=
  bd (f_Game_wayTo g x4 x6 σ) fun r3 σ2 => ck (ib r3 60) <| ck (ib (x5 + x6) 180) <| lE (stL σ2 56 (x5 + x6).toNatClampNeg (xs0 + (rL σ2 53 r3))) fun σ6 => k37 x2 x3 x4 x5 (x6 + 1) σ6
set_option maxRecDepth 4000 in
theorem ok_Solver_addUp_b75 {E : gE} {w : wT} {σ' : St} (X : gC E w cX6_addUp 9 RX6 3) (Y : gQ E w none none σ') {g : Nat} (hg : isG g = true) {k37 : Int32 → Int32 → Int32 → Int32 → Int32 → St → Option St} (hk37 : ∀ (x2 : Int32) (x3 : Int32) (x4 : Int32) (x5 : Int32) (x6 : Int32) (σ : St), k37 x2 x3 x4 x5 x6 σ = some σ' → gW E w 9 σ 37 [some (.ref (w.1 6)), some (.ref (w.1 g)), some (.int x2), some (.int x3), some (.int x4), some (.int x5), some (.int x6)] []) {x2 : Int32} {x3 : Int32} {x4 : Int32} {x5 : Int32} {x6 : Int32} {xs0 : Int64} (σ : St) (h : f_Solver_addUp_b75 g k37 x2 x3 x4 x5 x6 xs0 σ = some σ') : gW E w 9 σ 75 [some (.ref (w.1 6)), some (.ref (w.1 g)), some (.int x2), some (.int x3), some (.int x4), some (.int x5), some (.int x6)] [.long xs0] := by
  unfold f_Solver_addUp_b75 at h
  refine g_lstore X [some (.ref (w.1 6)), some (.ref (w.1 g)), some (.int x2), some (.int x3), some (.int x4), some (.int x5), some (.int x6), some (.long xs0), none] dX6_addUp_75 (Nat.le_of_ble_eq_true rfl) rfl rfl rfl ?_
  refine g_aload_n X dX6_addUp_77 rfl rfl ?_
  refine gf_RX6_22 X dX6_addUp_78 rfl ?_
  refine g_iload X dX6_addUp_81 rfl rfl ?_
  refine g_iload X dX6_addUp_83 rfl rfl ?_
  refine g_iadd X dX6_addUp_85 rfl ?_
  refine g_lload X dX6_addUp_86 rfl rfl ?_
  refine g_aload_n X dX6_addUp_88 rfl rfl ?_
  refine gf_RX6_9 X dX6_addUp_89 rfl ?_
  refine g_aload_n X dX6_addUp_92 rfl rfl ?_
  refine g_iload X dX6_addUp_93 rfl rfl ?_
  refine g_iload X dX6_addUp_95 rfl rfl ?_
  obtain ⟨r3, σ2, h1, h⟩ := bd_e h
  refine g_callVI X [.int x4, .int x6] (ok_Game_wayTo X.inj h1) my_yX1_wayTo mi_yX1_wayTo ms_yX1_wayTo ml_RX6_88 (go_ hg).1 (go_ hg).2.1 (go_ hg).2.2 (by decide) rfl dX6_addUp_97 (Nat.le_of_ble_eq_true rfl) rfl rfl ?_
  obtain ⟨c4, h⟩ := ck_e h
  refine g_lald X ar_53.1 ar_53.2.1 ar_53.2.2 (ib_e c4) dX6_addUp_100 rfl ?_
  refine g_ladd X dX6_addUp_101 rfl ?_
  obtain ⟨c5, h⟩ := ck_e h
  refine g_last X ar_56.1 ar_56.2.1 ar_56.2.2 (ib_e c5) dX6_addUp_102 rfl (fun σ6 e7 => ?_)
  replace h := lE_c e7 h
  refine g_iinc X [some (.ref (w.1 6)), some (.ref (w.1 g)), some (.int x2), some (.int x3), some (.int x4), some (.int x5), some (.int (x6 + 1)), some (.long xs0), none] dX6_addUp_103 rfl (ii_1 x6) (Nat.le_of_ble_eq_true rfl) rfl rfl rfl ?_
  refine g_goto X dX6_addUp_106 (tgt := 37) rfl ?_
  exact g_le (lle_s (lle_s (lle_s (lle_s (lle_s (lle_s (lle_s (lle_0)))))))) (hk37 x2 x3 x4 x5 (x6 + 1) σ6 h)

def f_Solver_addUp_b37 (g : Nat) (k3 : Int32 → Int32 → Int32 → St → Option St) (k37 : Int32 → Int32 → Int32 → Int32 → Int32 → St → Option St) (x2 : Int32) (x3 : Int32) (x4 : Int32) (x5 : Int32) (x6 : Int32) (σ : St) : Option St :=
  ck (ib x4 60) <| if (rI σ (g + 4) x4) ≤ x6 then (f_Solver_addUp_b109 g k3 x2 x3 x4 σ) else (ck (ib x4 60) <| if (rI σ 54 x4) = x4 then (f_Solver_addUp_b75 g k37 x2 x3 x4 x5 x6 0 σ) else (ck (ib (x5 + x6) 180) <| f_Solver_addUp_b75 g k37 x2 x3 x4 x5 x6 (rL σ 56 (x5 + x6)) σ))
set_option maxRecDepth 4000 in
theorem ok_Solver_addUp_b37 {E : gE} {w : wT} {σ' : St} (X : gC E w cX6_addUp 9 RX6 3) (Y : gQ E w none none σ') {g : Nat} (hg : isG g = true) {k3 : Int32 → Int32 → Int32 → St → Option St} (hk3 : ∀ (x2 : Int32) (x3 : Int32) (x4 : Int32) (σ : St), k3 x2 x3 x4 σ = some σ' → gW E w 9 σ 3 [some (.ref (w.1 6)), some (.ref (w.1 g)), some (.int x2), some (.int x3), some (.int x4)] []) {k37 : Int32 → Int32 → Int32 → Int32 → Int32 → St → Option St} (hk37 : ∀ (x2 : Int32) (x3 : Int32) (x4 : Int32) (x5 : Int32) (x6 : Int32) (σ : St), k37 x2 x3 x4 x5 x6 σ = some σ' → gW E w 9 σ 37 [some (.ref (w.1 6)), some (.ref (w.1 g)), some (.int x2), some (.int x3), some (.int x4), some (.int x5), some (.int x6)] []) {x2 : Int32} {x3 : Int32} {x4 : Int32} {x5 : Int32} {x6 : Int32} (σ : St) (h : f_Solver_addUp_b37 g k3 k37 x2 x3 x4 x5 x6 σ = some σ') : gW E w 9 σ 37 [some (.ref (w.1 6)), some (.ref (w.1 g)), some (.int x2), some (.int x3), some (.int x4), some (.int x5), some (.int x6)] [] := by
  unfold f_Solver_addUp_b37 at h
  refine g_iload X dX6_addUp_37 rfl rfl ?_
  refine g_aload_n X dX6_addUp_39 rfl rfl ?_
  refine gf_RX6_85 hg X dX6_addUp_40 rfl ?_
  refine g_iload X dX6_addUp_43 rfl rfl ?_
  obtain ⟨c1, h⟩ := ck_e h
  refine g_iald X (ga_4 hg).1 (ga_4 hg).2.1 (ga_4 hg).2.2 (ib_e c1) dX6_addUp_45 rfl ?_
  refine g_icmp_ge X dX6_addUp_46 (tgt := 109) rfl rfl (fun c2 => ?_) (fun c2 => ?_)
  · replace h := if_t c2 h
    exact g_le (lle_s (lle_s (lle_s (lle_s (lle_s (lle_0)))))) (ok_Solver_addUp_b109 X Y hg hk3 σ h)
  · replace h := if_f c2 h
    refine g_aload_n X dX6_addUp_49 rfl rfl ?_
    refine gf_RX6_15 X dX6_addUp_50 rfl ?_
    refine g_iload X dX6_addUp_53 rfl rfl ?_
    obtain ⟨c3, h⟩ := ck_e h
    refine g_iald X ar_54.1 ar_54.2.1 ar_54.2.2 (ib_e c3) dX6_addUp_55 rfl ?_
    refine g_iload X dX6_addUp_56 rfl rfl ?_
    refine g_icmp_ne X dX6_addUp_58 (tgt := 65) rfl rfl (fun c4 => ?_) (fun c4 => ?_)
    · replace h := if_f c4 h
      refine g_aload_n X dX6_addUp_65 rfl rfl ?_
      refine gf_RX6_22 X dX6_addUp_66 rfl ?_
      refine g_iload X dX6_addUp_69 rfl rfl ?_
      refine g_iload X dX6_addUp_71 rfl rfl ?_
      refine g_iadd X dX6_addUp_73 rfl ?_
      obtain ⟨c5, h⟩ := ck_e h
      refine g_lald X ar_56.1 ar_56.2.1 ar_56.2.2 (ib_e c5) dX6_addUp_74 rfl ?_
      exact ok_Solver_addUp_b75 X Y hg hk37 σ h
    · replace h := if_t c4 h
      refine g_lconst X kL_0 dX6_addUp_61 rfl ?_
      refine g_goto X dX6_addUp_62 (tgt := 75) rfl ?_
      exact ok_Solver_addUp_b75 X Y hg hk37 σ h
def f_Solver_addUp_l37 (g : Nat) (k3 : Int32 → Int32 → Int32 → St → Option St) : Int32 → Int32 → Int32 → Int32 → Int32 → St → Option St := lp (fun _ _ _ _ _ _ => none) (f_Solver_addUp_b37 g k3) FU
theorem ok_Solver_addUp_l37 {E : gE} {w : wT} {σ' : St} (X : gC E w cX6_addUp 9 RX6 3) (Y : gQ E w none none σ') {g : Nat} (hg : isG g = true) {k3 : Int32 → Int32 → Int32 → St → Option St} (hk3 : ∀ (x2 : Int32) (x3 : Int32) (x4 : Int32) (σ : St), k3 x2 x3 x4 σ = some σ' → gW E w 9 σ 3 [some (.ref (w.1 6)), some (.ref (w.1 g)), some (.int x2), some (.int x3), some (.int x4)] []) {x2 : Int32} {x3 : Int32} {x4 : Int32} {x5 : Int32} {x6 : Int32} (σ : St) (h : f_Solver_addUp_l37 g k3 x2 x3 x4 x5 x6 σ = some σ') : gW E w 9 σ 37 [some (.ref (w.1 6)), some (.ref (w.1 g)), some (.int x2), some (.int x3), some (.int x4), some (.int x5), some (.int x6)] [] :=
  lp_ind (P := fun (k : Int32 → Int32 → Int32 → Int32 → Int32 → St → Option St) => ∀ (x2 : Int32) (x3 : Int32) (x4 : Int32) (x5 : Int32) (x6 : Int32) (σ : St), k x2 x3 x4 x5 x6 σ = some σ' → gW E w 9 σ 37 [some (.ref (w.1 6)), some (.ref (w.1 g)), some (.int x2), some (.int x3), some (.int x4), some (.int x5), some (.int x6)] []) (fun _ _ _ _ _ _ hh => nn hh) (fun k hk x2 x3 x4 x5 x6 σ  hh => ok_Solver_addUp_b37 X Y hg hk3 hk σ hh) FU x2 x3 x4 x5 x6 σ  h

def f_Solver_addUp_b3 (g : Nat) (k3 : Int32 → Int32 → Int32 → St → Option St) (x2 : Int32) (x3 : Int32) (x4 : Int32) (σ : St) : Option St :=
  if (rF σ (g + 10)) ≤ x4 then (some σ) else (bd (f_Solver_isOwn g x2 x3 x4 σ) fun r4 σ3 => if r4 = 0 then (f_Solver_addUp_b109 g k3 x2 x3 x4 σ3) else (ck (ib x4 60) <| f_Solver_addUp_l37 g k3 x2 x3 x4 ((rI σ3 54 x4) * 3) 0 σ3))
set_option maxRecDepth 4000 in
theorem ok_Solver_addUp_b3 {E : gE} {w : wT} {σ' : St} (X : gC E w cX6_addUp 9 RX6 3) (Y : gQ E w none none σ') {g : Nat} (hg : isG g = true) {k3 : Int32 → Int32 → Int32 → St → Option St} (hk3 : ∀ (x2 : Int32) (x3 : Int32) (x4 : Int32) (σ : St), k3 x2 x3 x4 σ = some σ' → gW E w 9 σ 3 [some (.ref (w.1 6)), some (.ref (w.1 g)), some (.int x2), some (.int x3), some (.int x4)] []) {x2 : Int32} {x3 : Int32} {x4 : Int32} (σ : St) (h : f_Solver_addUp_b3 g k3 x2 x3 x4 σ = some σ') : gW E w 9 σ 3 [some (.ref (w.1 6)), some (.ref (w.1 g)), some (.int x2), some (.int x3), some (.int x4)] [] := by
  unfold f_Solver_addUp_b3 at h
  refine g_iload X dX6_addUp_3 rfl rfl ?_
  refine g_aload_n X dX6_addUp_5 rfl rfl ?_
  refine gf_RX6_64 hg X dX6_addUp_6 rfl ?_
  refine g_icmp_ge X dX6_addUp_9 (tgt := 115) rfl rfl (fun c1 => ?_) (fun c1 => ?_)
  · replace h := if_t c1 h
    obtain rfl := rv_e h
    exact g_vret X Y dX6_addUp_115
  · replace h := if_f c1 h
    refine g_aload_n X dX6_addUp_12 rfl rfl ?_
    refine g_iload_n X dX6_addUp_13 rfl rfl ?_
    refine g_iload_n X dX6_addUp_14 rfl rfl ?_
    refine g_iload X dX6_addUp_15 rfl rfl ?_
    obtain ⟨r4, σ3, h2, h⟩ := bd_e h
    refine g_callSI X [.ref (w.1 g), .int x2, .int x3, .int x4] (ok_Solver_isOwn X.inj h2) my_yX6_isOwn mt_yX6_isOwn ml_RX6_81 (by decide) rfl dX6_addUp_17 (Nat.le_of_ble_eq_true rfl) rfl rfl ?_
    refine g_if_eq X dX6_addUp_20 (tgt := 109) rfl rfl (fun c5 => ?_) (fun c5 => ?_)
    · replace h := if_t c5 h
      exact ok_Solver_addUp_b109 X Y hg hk3 σ3 h
    · replace h := if_f c5 h
      refine g_aload_n X dX6_addUp_23 rfl rfl ?_
      refine gf_RX6_15 X dX6_addUp_24 rfl ?_
      refine g_iload X dX6_addUp_27 rfl rfl ?_
      obtain ⟨c6, h⟩ := ck_e h
      refine g_iald X ar_54.1 ar_54.2.1 ar_54.2.2 (ib_e c6) dX6_addUp_29 rfl ?_
      refine g_iconst X kI_3 dX6_addUp_30 rfl ?_
      refine g_imul X dX6_addUp_31 rfl ?_
      refine g_istore X [some (.ref (w.1 6)), some (.ref (w.1 g)), some (.int x2), some (.int x3), some (.int x4), some (.int ((rI σ3 54 x4) * 3))] dX6_addUp_32 (Nat.le_of_ble_eq_true rfl) rfl rfl rfl ?_
      refine g_iconst X kI_0 dX6_addUp_34 rfl ?_
      refine g_istore X [some (.ref (w.1 6)), some (.ref (w.1 g)), some (.int x2), some (.int x3), some (.int x4), some (.int ((rI σ3 54 x4) * 3)), some (.int 0)] dX6_addUp_35 (Nat.le_of_ble_eq_true rfl) rfl rfl rfl ?_
      exact ok_Solver_addUp_l37 X Y hg hk3 σ3 h
def f_Solver_addUp_l3 (g : Nat) : Int32 → Int32 → Int32 → St → Option St := lp (fun _ _ _ _ => none) (f_Solver_addUp_b3 g) FU
theorem ok_Solver_addUp_l3 {E : gE} {w : wT} {σ' : St} (X : gC E w cX6_addUp 9 RX6 3) (Y : gQ E w none none σ') {g : Nat} (hg : isG g = true) {x2 : Int32} {x3 : Int32} {x4 : Int32} (σ : St) (h : f_Solver_addUp_l3 g x2 x3 x4 σ = some σ') : gW E w 9 σ 3 [some (.ref (w.1 6)), some (.ref (w.1 g)), some (.int x2), some (.int x3), some (.int x4)] [] :=
  lp_ind (P := fun (k : Int32 → Int32 → Int32 → St → Option St) => ∀ (x2 : Int32) (x3 : Int32) (x4 : Int32) (σ : St), k x2 x3 x4 σ = some σ' → gW E w 9 σ 3 [some (.ref (w.1 6)), some (.ref (w.1 g)), some (.int x2), some (.int x3), some (.int x4)] []) (fun _ _ _ _ hh => nn hh) (fun k hk x2 x3 x4 σ  hh => ok_Solver_addUp_b3 X Y hg hk σ hh) FU x2 x3 x4 σ  h

def f_Solver_addUp (g : Nat) (x2 : Int32) (x3 : Int32) (σ : St) : Option St :=
  ck (isG g) <| f_Solver_addUp_l3 g x2 x3 0 σ
set_option maxRecDepth 4000 in
theorem ok_Solver_addUp {w : wT} (hi : wInj w) {l : Launch} {g : Nat} {x2 : Int32} {x3 : Int32} {σ σ' : St} (h : f_Solver_addUp g x2 x3 σ = some σ') : gM w l yX6_addUp cX6_addUp 9 none 3 [.ref (w.1 6), .ref (w.1 g), .int x2, .int x3] σ none σ' := by
  unfold f_Solver_addUp at h
  obtain ⟨hg, h⟩ := ck_e h
  refine gM_of hi (by decide) [some (.ref (w.1 6)), some (.ref (w.1 g)), some (.int x2), some (.int x3)] rfl (Nat.le_of_ble_eq_true rfl) (fun E hl X Y => ?_)
  refine g_iconst X kI_0 dX6_addUp_0 rfl ?_
  refine g_istore X [some (.ref (w.1 6)), some (.ref (w.1 g)), some (.int x2), some (.int x3), some (.int 0)] dX6_addUp_1 (Nat.le_of_ble_eq_true rfl) rfl rfl rfl ?_
  exact ok_Solver_addUp_l3 X Y hg σ h

theorem dX6_isBarred_0 : decode cX6_isBarred 0 = .ok (.aload_n 1, 1) := by decide +kernel
theorem dX6_isBarred_1 : decode cX6_isBarred 1 = .ok (.getfield 70, 3) := by decide +kernel
theorem dX6_isBarred_4 : decode cX6_isBarred 4 = .ok (.iload_n 2, 1) := by decide +kernel
theorem dX6_isBarred_5 : decode cX6_isBarred 5 = .ok (.iaload, 1) := by decide +kernel
theorem dX6_isBarred_6 : decode cX6_isBarred 6 = .ok (.aload_n 0, 1) := by decide +kernel
theorem dX6_isBarred_7 : decode cX6_isBarred 7 = .ok (.getfield 29, 3) := by decide +kernel
theorem dX6_isBarred_10 : decode cX6_isBarred 10 = .ok (.if_icmp .ne 15, 3) := by decide +kernel
theorem dX6_isBarred_13 : decode cX6_isBarred 13 = .ok (.iload_n 3, 1) := by decide +kernel
theorem dX6_isBarred_14 : decode cX6_isBarred 14 = .ok (.aload_n 0, 1) := by decide +kernel
theorem dX6_isBarred_15 : decode cX6_isBarred 15 = .ok (.getfield 33, 3) := by decide +kernel
theorem dX6_isBarred_18 : decode cX6_isBarred 18 = .ok (.if_icmp .ne 7, 3) := by decide +kernel
theorem dX6_isBarred_21 : decode cX6_isBarred 21 = .ok (.iconst 1, 1) := by decide +kernel
theorem dX6_isBarred_22 : decode cX6_isBarred 22 = .ok (.goto 4, 3) := by decide +kernel
theorem dX6_isBarred_25 : decode cX6_isBarred 25 = .ok (.iconst 0, 1) := by decide +kernel
theorem dX6_isBarred_26 : decode cX6_isBarred 26 = .ok (.ireturn, 1) := by decide +kernel
def f_Solver_isBarred (g : Nat) (x2 : Int32) (x3 : Int32) (σ : St) : Option (Int32 × St) :=
  ck (isG g) <| ck (ib x2 60) <| if (rI σ (g + 3) x2) = (rF σ 9) then (if x3 = (rF σ 10) then (some (1, σ)) else (some (0, σ))) else (some (0, σ))
set_option maxRecDepth 4000 in
theorem ok_Solver_isBarred {w : wT} (hi : wInj w) {l : Launch} {g : Nat} {x2 : Int32} {x3 : Int32} {σ σ' : St} {r : Int32} (h : f_Solver_isBarred g x2 x3 σ = some (r, σ')) : gM w l yX6_isBarred cX6_isBarred 4 (some .boolean) 1 [.ref (w.1 6), .ref (w.1 g), .int x2, .int x3] σ (some (.int r)) σ' := by
  unfold f_Solver_isBarred at h
  obtain ⟨hg, h⟩ := ck_e h
  refine gM_of hi (by decide) [some (.ref (w.1 6)), some (.ref (w.1 g)), some (.int x2), some (.int x3)] rfl (Nat.le_of_ble_eq_true rfl) (fun E hl X Y => ?_)
  refine g_aload_n X dX6_isBarred_0 rfl rfl ?_
  refine gf_RX6_70 hg X dX6_isBarred_1 rfl ?_
  refine g_iload_n X dX6_isBarred_4 rfl rfl ?_
  obtain ⟨c1, h⟩ := ck_e h
  refine g_iald X (ga_3 hg).1 (ga_3 hg).2.1 (ga_3 hg).2.2 (ib_e c1) dX6_isBarred_5 rfl ?_
  refine g_aload_n X dX6_isBarred_6 rfl rfl ?_
  refine gf_RX6_29 X dX6_isBarred_7 rfl ?_
  refine g_icmp_ne X dX6_isBarred_10 (tgt := 25) rfl rfl (fun c2 => ?_) (fun c2 => ?_)
  · replace h := if_f c2 h
    refine g_iconst X kI_0 dX6_isBarred_25 rfl ?_
    obtain ⟨rfl, rfl⟩ := rt_e h
    exact g_zret X Y rfl dX6_isBarred_26
  · replace h := if_t c2 h
    refine g_iload_n X dX6_isBarred_13 rfl rfl ?_
    refine g_aload_n X dX6_isBarred_14 rfl rfl ?_
    refine gf_RX6_33 X dX6_isBarred_15 rfl ?_
    refine g_icmp_ne X dX6_isBarred_18 (tgt := 25) rfl rfl (fun c3 => ?_) (fun c3 => ?_)
    · replace h := if_f c3 h
      refine g_iconst X kI_0 dX6_isBarred_25 rfl ?_
      obtain ⟨rfl, rfl⟩ := rt_e h
      exact g_zret X Y rfl dX6_isBarred_26
    · replace h := if_t c3 h
      refine g_iconst X kI_1 dX6_isBarred_21 rfl ?_
      refine g_goto X dX6_isBarred_22 (tgt := 26) rfl ?_
      obtain ⟨rfl, rfl⟩ := rt_e h
      exact g_zret X Y rfl dX6_isBarred_26

theorem dX8_gainOf_0 : decode cX8_gainOf 0 = .ok (.iload_n 0, 1) := by decide +kernel
theorem dX8_gainOf_1 : decode cX8_gainOf 1 = .ok (.ifCond .ne 9, 3) := by decide +kernel
theorem dX8_gainOf_4 : decode cX8_gainOf 4 = .ok (.lload_n 3, 1) := by decide +kernel
theorem dX8_gainOf_5 : decode cX8_gainOf 5 = .ok (.lload_n 1, 1) := by decide +kernel
theorem dX8_gainOf_6 : decode cX8_gainOf 6 = .ok (.lsub, 1) := by decide +kernel
theorem dX8_gainOf_7 : decode cX8_gainOf 7 = .ok (.goto 6, 3) := by decide +kernel
theorem dX8_gainOf_10 : decode cX8_gainOf 10 = .ok (.lload_n 1, 1) := by decide +kernel
theorem dX8_gainOf_11 : decode cX8_gainOf 11 = .ok (.lload_n 3, 1) := by decide +kernel
theorem dX8_gainOf_12 : decode cX8_gainOf 12 = .ok (.lsub, 1) := by decide +kernel
theorem dX8_gainOf_13 : decode cX8_gainOf 13 = .ok (.lreturn, 1) := by decide +kernel
def f_HG_gainOf (x0 : Int32) (x1 : Int64) (x3 : Int64) (σ : St) : Option (Int64 × St) :=
  if x0 = 0 then (some (x3 - x1, σ)) else (some (x1 - x3, σ))
set_option maxRecDepth 4000 in
theorem ok_HG_gainOf {w : wT} (hi : wInj w) {l : Launch} {x0 : Int32} {x1 : Int64} {x3 : Int64} {σ σ' : St} {r : Int64} (h : f_HG_gainOf x0 x1 x3 σ = some (r, σ')) : gM w l yX8_gainOf cX8_gainOf 5 (some .long) 1 [.int x0, .long x1, .long x3] σ (some (.long r)) σ' := by
  unfold f_HG_gainOf at h
  refine gM_of hi (by decide) [some (.int x0), some (.long x1), none, some (.long x3), none] rfl (Nat.le_of_ble_eq_true rfl) (fun E hl X Y => ?_)
  refine g_iload_n X dX8_gainOf_0 rfl rfl ?_
  refine g_if_ne X dX8_gainOf_1 (tgt := 10) rfl rfl (fun c1 => ?_) (fun c1 => ?_)
  · replace h := if_f c1 h
    refine g_lload_n X dX8_gainOf_10 rfl rfl ?_
    refine g_lload_n X dX8_gainOf_11 rfl rfl ?_
    refine g_lsub X dX8_gainOf_12 rfl ?_
    obtain ⟨rfl, rfl⟩ := rt_e h
    exact g_lret X Y dX8_gainOf_13
  · replace h := if_t c1 h
    refine g_lload_n X dX8_gainOf_4 rfl rfl ?_
    refine g_lload_n X dX8_gainOf_5 rfl rfl ?_
    refine g_lsub X dX8_gainOf_6 rfl ?_
    refine g_goto X dX8_gainOf_7 (tgt := 13) rfl ?_
    obtain ⟨rfl, rfl⟩ := rt_e h
    exact g_lret X Y dX8_gainOf_13

theorem dX6_chooseAct_0 : decode cX6_chooseAct 0 = .ok (.iload_n 3, 1) := by decide +kernel
theorem dX6_chooseAct_1 : decode cX6_chooseAct 1 = .ok (.iconst 3, 1) := by decide +kernel
theorem dX6_chooseAct_2 : decode cX6_chooseAct 2 = .ok (.imul, 1) := by decide +kernel
theorem dX6_chooseAct_3 : decode cX6_chooseAct 3 = .ok (.istore 4, 2) := by decide +kernel
theorem dX6_chooseAct_5 : decode cX6_chooseAct 5 = .ok (.aload_n 0, 1) := by decide +kernel
theorem dX6_chooseAct_6 : decode cX6_chooseAct 6 = .ok (.aload_n 1, 1) := by decide +kernel
theorem dX6_chooseAct_7 : decode cX6_chooseAct 7 = .ok (.iload_n 3, 1) := by decide +kernel
theorem dX6_chooseAct_8 : decode cX6_chooseAct 8 = .ok (.iconst 0, 1) := by decide +kernel
theorem dX6_chooseAct_9 : decode cX6_chooseAct 9 = .ok (.invokevirtual 96, 3) := by decide +kernel
theorem dX6_chooseAct_12 : decode cX6_chooseAct 12 = .ok (.ifCond .eq 7, 3) := by decide +kernel
theorem dX6_chooseAct_15 : decode cX6_chooseAct 15 = .ok (.iconst 1, 1) := by decide +kernel
theorem dX6_chooseAct_16 : decode cX6_chooseAct 16 = .ok (.goto 4, 3) := by decide +kernel
theorem dX6_chooseAct_19 : decode cX6_chooseAct 19 = .ok (.iconst 0, 1) := by decide +kernel
theorem dX6_chooseAct_20 : decode cX6_chooseAct 20 = .ok (.istore 5, 2) := by decide +kernel
theorem dX6_chooseAct_22 : decode cX6_chooseAct 22 = .ok (.iload 5, 2) := by decide +kernel
theorem dX6_chooseAct_24 : decode cX6_chooseAct 24 = .ok (.iconst 1, 1) := by decide +kernel
theorem dX6_chooseAct_25 : decode cX6_chooseAct 25 = .ok (.iadd, 1) := by decide +kernel
theorem dX6_chooseAct_26 : decode cX6_chooseAct 26 = .ok (.istore 6, 2) := by decide +kernel
theorem dX6_chooseAct_28 : decode cX6_chooseAct 28 = .ok (.iload 6, 2) := by decide +kernel
theorem dX6_chooseAct_30 : decode cX6_chooseAct 30 = .ok (.aload_n 1, 1) := by decide +kernel
theorem dX6_chooseAct_31 : decode cX6_chooseAct 31 = .ok (.getfield 85, 3) := by decide +kernel
theorem dX6_chooseAct_34 : decode cX6_chooseAct 34 = .ok (.iload_n 3, 1) := by decide +kernel
theorem dX6_chooseAct_35 : decode cX6_chooseAct 35 = .ok (.iaload, 1) := by decide +kernel
theorem dX6_chooseAct_36 : decode cX6_chooseAct 36 = .ok (.if_icmp .ge 57, 3) := by decide +kernel
theorem dX6_chooseAct_39 : decode cX6_chooseAct 39 = .ok (.iload_n 2, 1) := by decide +kernel
theorem dX6_chooseAct_40 : decode cX6_chooseAct 40 = .ok (.aload_n 0, 1) := by decide +kernel
theorem dX6_chooseAct_41 : decode cX6_chooseAct 41 = .ok (.getfield 22, 3) := by decide +kernel
theorem dX6_chooseAct_44 : decode cX6_chooseAct 44 = .ok (.iload 4, 2) := by decide +kernel
theorem dX6_chooseAct_46 : decode cX6_chooseAct 46 = .ok (.iload 5, 2) := by decide +kernel
theorem dX6_chooseAct_48 : decode cX6_chooseAct 48 = .ok (.iadd, 1) := by decide +kernel
theorem dX6_chooseAct_49 : decode cX6_chooseAct 49 = .ok (.laload, 1) := by decide +kernel
theorem dX6_chooseAct_50 : decode cX6_chooseAct 50 = .ok (.aload_n 0, 1) := by decide +kernel
theorem dX6_chooseAct_51 : decode cX6_chooseAct 51 = .ok (.getfield 22, 3) := by decide +kernel
theorem dX6_chooseAct_54 : decode cX6_chooseAct 54 = .ok (.iload 4, 2) := by decide +kernel
theorem dX6_chooseAct_56 : decode cX6_chooseAct 56 = .ok (.iload 6, 2) := by decide +kernel
theorem dX6_chooseAct_58 : decode cX6_chooseAct 58 = .ok (.iadd, 1) := by decide +kernel
theorem dX6_chooseAct_59 : decode cX6_chooseAct 59 = .ok (.laload, 1) := by decide +kernel
theorem dX6_chooseAct_60 : decode cX6_chooseAct 60 = .ok (.invokestatic 100, 3) := by decide +kernel
theorem dX6_chooseAct_63 : decode cX6_chooseAct 63 = .ok (.lstore 7, 2) := by decide +kernel
theorem dX6_chooseAct_65 : decode cX6_chooseAct 65 = .ok (.lload 7, 2) := by decide +kernel
theorem dX6_chooseAct_67 : decode cX6_chooseAct 67 = .ok (.lconst 0, 1) := by decide +kernel
theorem dX6_chooseAct_68 : decode cX6_chooseAct 68 = .ok (.lcmp, 1) := by decide +kernel
theorem dX6_chooseAct_69 : decode cX6_chooseAct 69 = .ok (.ifCond .le 18, 3) := by decide +kernel
theorem dX6_chooseAct_72 : decode cX6_chooseAct 72 = .ok (.aload_n 0, 1) := by decide +kernel
theorem dX6_chooseAct_73 : decode cX6_chooseAct 73 = .ok (.aload_n 1, 1) := by decide +kernel
theorem dX6_chooseAct_74 : decode cX6_chooseAct 74 = .ok (.iload_n 3, 1) := by decide +kernel
theorem dX6_chooseAct_75 : decode cX6_chooseAct 75 = .ok (.iload 6, 2) := by decide +kernel
theorem dX6_chooseAct_77 : decode cX6_chooseAct 77 = .ok (.invokevirtual 96, 3) := by decide +kernel
theorem dX6_chooseAct_80 : decode cX6_chooseAct 80 = .ok (.ifCond .ne 7, 3) := by decide +kernel
theorem dX6_chooseAct_83 : decode cX6_chooseAct 83 = .ok (.iload 6, 2) := by decide +kernel
theorem dX6_chooseAct_85 : decode cX6_chooseAct 85 = .ok (.istore 5, 2) := by decide +kernel
theorem dX6_chooseAct_87 : decode cX6_chooseAct 87 = .ok (.iinc 6 1, 3) := by decide +kernel
theorem dX6_chooseAct_90 : decode cX6_chooseAct 90 = .ok (.goto (-62), 3) := by decide +kernel
theorem dX6_chooseAct_93 : decode cX6_chooseAct 93 = .ok (.iload 5, 2) := by decide +kernel
theorem dX6_chooseAct_95 : decode cX6_chooseAct 95 = .ok (.ireturn, 1) := by decide +kernel
def f_Solver_chooseAct_b87 (g : Nat) (k28 : Int32 → Int32 → Int32 → Int32 → Int32 → St → Option (Int32 × St)) (x2 : Int32) (x3 : Int32) (x4 : Int32) (x5 : Int32) (x6 : Int32) (σ : St) : Option (Int32 × St) :=
  k28 x2 x3 x4 x5 (x6 + 1) σ
set_option maxRecDepth 4000 in
theorem ok_Solver_chooseAct_b87 {E : gE} {w : wT} {σ' : St} {r : Int32} (X : gC E w cX6_chooseAct 9 RX6 2) (Y : gQ E w (some .int) (some (.int r)) σ') {g : Nat} (hg : isG g = true) {k28 : Int32 → Int32 → Int32 → Int32 → Int32 → St → Option (Int32 × St)} (hk28 : ∀ (x2 : Int32) (x3 : Int32) (x4 : Int32) (x5 : Int32) (x6 : Int32) (σ : St), k28 x2 x3 x4 x5 x6 σ = some (r, σ') → gW E w 9 σ 28 [some (.ref (w.1 6)), some (.ref (w.1 g)), some (.int x2), some (.int x3), some (.int x4), some (.int x5), some (.int x6)] []) {x2 : Int32} {x3 : Int32} {x4 : Int32} {x5 : Int32} {x6 : Int32} (σ : St) (h : f_Solver_chooseAct_b87 g k28 x2 x3 x4 x5 x6 σ = some (r, σ')) : gW E w 9 σ 87 [some (.ref (w.1 6)), some (.ref (w.1 g)), some (.int x2), some (.int x3), some (.int x4), some (.int x5), some (.int x6)] [] := by
  unfold f_Solver_chooseAct_b87 at h
  refine g_iinc X [some (.ref (w.1 6)), some (.ref (w.1 g)), some (.int x2), some (.int x3), some (.int x4), some (.int x5), some (.int (x6 + 1))] dX6_chooseAct_87 rfl (ii_1 x6) (Nat.le_of_ble_eq_true rfl) rfl rfl rfl ?_
  refine g_goto X dX6_chooseAct_90 (tgt := 28) rfl ?_
  exact hk28 x2 x3 x4 x5 (x6 + 1) σ h

def f_Solver_chooseAct_b28 (g : Nat) (k28 : Int32 → Int32 → Int32 → Int32 → Int32 → St → Option (Int32 × St)) (x2 : Int32) (x3 : Int32) (x4 : Int32) (x5 : Int32) (x6 : Int32) (σ : St) : Option (Int32 × St) :=
  ck (ib x3 60) <| if (rI σ (g + 4) x3) ≤ x6 then (some (x5, σ)) else (ck (ib (x4 + x5) 180) <| ck (ib (x4 + x6) 180) <| bd (f_HG_gainOf x2 (rL σ 56 (x4 + x5)) (rL σ 56 (x4 + x6)) σ) fun r7 σ6 => if r7 ≤ 0 then (f_Solver_chooseAct_b87 g k28 x2 x3 x4 x5 x6 σ6) else (bd (f_Solver_isBarred g x3 x6 σ6) fun r11 σ10 => if r11 = 0 then (f_Solver_chooseAct_b87 g k28 x2 x3 x4 x6 x6 σ10) else (f_Solver_chooseAct_b87 g k28 x2 x3 x4 x5 x6 σ10)))
set_option maxRecDepth 4000 in
theorem ok_Solver_chooseAct_b28 {E : gE} {w : wT} {σ' : St} {r : Int32} (X : gC E w cX6_chooseAct 9 RX6 2) (Y : gQ E w (some .int) (some (.int r)) σ') {g : Nat} (hg : isG g = true) {k28 : Int32 → Int32 → Int32 → Int32 → Int32 → St → Option (Int32 × St)} (hk28 : ∀ (x2 : Int32) (x3 : Int32) (x4 : Int32) (x5 : Int32) (x6 : Int32) (σ : St), k28 x2 x3 x4 x5 x6 σ = some (r, σ') → gW E w 9 σ 28 [some (.ref (w.1 6)), some (.ref (w.1 g)), some (.int x2), some (.int x3), some (.int x4), some (.int x5), some (.int x6)] []) {x2 : Int32} {x3 : Int32} {x4 : Int32} {x5 : Int32} {x6 : Int32} (σ : St) (h : f_Solver_chooseAct_b28 g k28 x2 x3 x4 x5 x6 σ = some (r, σ')) : gW E w 9 σ 28 [some (.ref (w.1 6)), some (.ref (w.1 g)), some (.int x2), some (.int x3), some (.int x4), some (.int x5), some (.int x6)] [] := by
  unfold f_Solver_chooseAct_b28 at h
  refine g_iload X dX6_chooseAct_28 rfl rfl ?_
  refine g_aload_n X dX6_chooseAct_30 rfl rfl ?_
  refine gf_RX6_85 hg X dX6_chooseAct_31 rfl ?_
  refine g_iload_n X dX6_chooseAct_34 rfl rfl ?_
  obtain ⟨c1, h⟩ := ck_e h
  refine g_iald X (ga_4 hg).1 (ga_4 hg).2.1 (ga_4 hg).2.2 (ib_e c1) dX6_chooseAct_35 rfl ?_
  refine g_icmp_ge X dX6_chooseAct_36 (tgt := 93) rfl rfl (fun c2 => ?_) (fun c2 => ?_)
  · replace h := if_t c2 h
    refine g_iload X dX6_chooseAct_93 rfl rfl ?_
    obtain ⟨rfl, rfl⟩ := rt_e h
    exact g_iret X Y dX6_chooseAct_95
  · replace h := if_f c2 h
    refine g_iload_n X dX6_chooseAct_39 rfl rfl ?_
    refine g_aload_n X dX6_chooseAct_40 rfl rfl ?_
    refine gf_RX6_22 X dX6_chooseAct_41 rfl ?_
    refine g_iload X dX6_chooseAct_44 rfl rfl ?_
    refine g_iload X dX6_chooseAct_46 rfl rfl ?_
    refine g_iadd X dX6_chooseAct_48 rfl ?_
    obtain ⟨c3, h⟩ := ck_e h
    refine g_lald X ar_56.1 ar_56.2.1 ar_56.2.2 (ib_e c3) dX6_chooseAct_49 rfl ?_
    refine g_aload_n X dX6_chooseAct_50 rfl rfl ?_
    refine gf_RX6_22 X dX6_chooseAct_51 rfl ?_
    refine g_iload X dX6_chooseAct_54 rfl rfl ?_
    refine g_iload X dX6_chooseAct_56 rfl rfl ?_
    refine g_iadd X dX6_chooseAct_58 rfl ?_
    obtain ⟨c4, h⟩ := ck_e h
    refine g_lald X ar_56.1 ar_56.2.1 ar_56.2.2 (ib_e c4) dX6_chooseAct_59 rfl ?_
    obtain ⟨r7, σ6, h5, h⟩ := bd_e h
    refine g_callSNJ X [.int x2, .long (rL σ 56 (x4 + x5)), .long (rL σ 56 (x4 + x6))] (ok_HG_gainOf X.inj h5) my_yX8_gainOf mt_yX8_gainOf X.nest (by decide) rfl dX6_chooseAct_60 (Nat.le_of_ble_eq_true rfl) rfl rfl ?_
    refine g_lstore X [some (.ref (w.1 6)), some (.ref (w.1 g)), some (.int x2), some (.int x3), some (.int x4), some (.int x5), some (.int x6), some (.long r7), none] dX6_chooseAct_63 (Nat.le_of_ble_eq_true rfl) rfl rfl rfl ?_
    refine g_lload X dX6_chooseAct_65 rfl rfl ?_
    refine g_lconst X kL_0 dX6_chooseAct_67 rfl ?_
    refine g_lcmp_le X dX6_chooseAct_68 rfl dX6_chooseAct_69 (tgt := 87) rfl rfl (fun c8 => ?_) (fun c8 => ?_)
    · replace h := if_t c8 h
      exact g_le (lle_s (lle_s (lle_s (lle_s (lle_s (lle_s (lle_s (lle_0)))))))) (ok_Solver_chooseAct_b87 X Y hg hk28 σ6 h)
    · replace h := if_f c8 h
      refine g_aload_n X dX6_chooseAct_72 rfl rfl ?_
      refine g_aload_n X dX6_chooseAct_73 rfl rfl ?_
      refine g_iload_n X dX6_chooseAct_74 rfl rfl ?_
      refine g_iload X dX6_chooseAct_75 rfl rfl ?_
      obtain ⟨r11, σ10, h9, h⟩ := bd_e h
      refine g_callVI X [.ref (w.1 g), .int x3, .int x6] (ok_Solver_isBarred X.inj h9) my_yX6_isBarred mi_yX6_isBarred ms_yX6_isBarred ml_RX6_96 (by decide) rfl rfl (by decide) rfl dX6_chooseAct_77 (Nat.le_of_ble_eq_true rfl) rfl rfl ?_
      refine g_if_ne X dX6_chooseAct_80 (tgt := 87) rfl rfl (fun c12 => ?_) (fun c12 => ?_)
      · replace h := if_f c12 h
        exact g_le (lle_s (lle_s (lle_s (lle_s (lle_s (lle_s (lle_s (lle_0)))))))) (ok_Solver_chooseAct_b87 X Y hg hk28 σ10 h)
      · replace h := if_t c12 h
        refine g_iload X dX6_chooseAct_83 rfl rfl ?_
        refine g_istore X [some (.ref (w.1 6)), some (.ref (w.1 g)), some (.int x2), some (.int x3), some (.int x4), some (.int x6), some (.int x6), some (.long r7), none] dX6_chooseAct_85 (Nat.le_of_ble_eq_true rfl) rfl rfl rfl ?_
        exact g_le (lle_s (lle_s (lle_s (lle_s (lle_s (lle_s (lle_s (lle_0)))))))) (ok_Solver_chooseAct_b87 X Y hg hk28 σ10 h)
def f_Solver_chooseAct_l28 (g : Nat) : Int32 → Int32 → Int32 → Int32 → Int32 → St → Option (Int32 × St) := lp (fun _ _ _ _ _ _ => none) (f_Solver_chooseAct_b28 g) FU
theorem ok_Solver_chooseAct_l28 {E : gE} {w : wT} {σ' : St} {r : Int32} (X : gC E w cX6_chooseAct 9 RX6 2) (Y : gQ E w (some .int) (some (.int r)) σ') {g : Nat} (hg : isG g = true) {x2 : Int32} {x3 : Int32} {x4 : Int32} {x5 : Int32} {x6 : Int32} (σ : St) (h : f_Solver_chooseAct_l28 g x2 x3 x4 x5 x6 σ = some (r, σ')) : gW E w 9 σ 28 [some (.ref (w.1 6)), some (.ref (w.1 g)), some (.int x2), some (.int x3), some (.int x4), some (.int x5), some (.int x6)] [] :=
  lp_ind (P := fun (k : Int32 → Int32 → Int32 → Int32 → Int32 → St → Option (Int32 × St)) => ∀ (x2 : Int32) (x3 : Int32) (x4 : Int32) (x5 : Int32) (x6 : Int32) (σ : St), k x2 x3 x4 x5 x6 σ = some (r, σ') → gW E w 9 σ 28 [some (.ref (w.1 6)), some (.ref (w.1 g)), some (.int x2), some (.int x3), some (.int x4), some (.int x5), some (.int x6)] []) (fun _ _ _ _ _ _ hh => nn hh) (fun k hk x2 x3 x4 x5 x6 σ  hh => ok_Solver_chooseAct_b28 X Y hg hk σ hh) FU x2 x3 x4 x5 x6 σ  h

def f_Solver_chooseAct_b20 (g : Nat) (x2 : Int32) (x3 : Int32) (x4 : Int32) (xs0 : Int32) (σ : St) : Option (Int32 × St) :=
  f_Solver_chooseAct_l28 g x2 x3 x4 xs0 (xs0 + 1) σ
set_option maxRecDepth 4000 in
theorem ok_Solver_chooseAct_b20 {E : gE} {w : wT} {σ' : St} {r : Int32} (X : gC E w cX6_chooseAct 9 RX6 2) (Y : gQ E w (some .int) (some (.int r)) σ') {g : Nat} (hg : isG g = true) {x2 : Int32} {x3 : Int32} {x4 : Int32} {xs0 : Int32} (σ : St) (h : f_Solver_chooseAct_b20 g x2 x3 x4 xs0 σ = some (r, σ')) : gW E w 9 σ 20 [some (.ref (w.1 6)), some (.ref (w.1 g)), some (.int x2), some (.int x3), some (.int x4)] [.int xs0] := by
  unfold f_Solver_chooseAct_b20 at h
  refine g_istore X [some (.ref (w.1 6)), some (.ref (w.1 g)), some (.int x2), some (.int x3), some (.int x4), some (.int xs0)] dX6_chooseAct_20 (Nat.le_of_ble_eq_true rfl) rfl rfl rfl ?_
  refine g_iload X dX6_chooseAct_22 rfl rfl ?_
  refine g_iconst X kI_1 dX6_chooseAct_24 rfl ?_
  refine g_iadd X dX6_chooseAct_25 rfl ?_
  refine g_istore X [some (.ref (w.1 6)), some (.ref (w.1 g)), some (.int x2), some (.int x3), some (.int x4), some (.int xs0), some (.int (xs0 + 1))] dX6_chooseAct_26 (Nat.le_of_ble_eq_true rfl) rfl rfl rfl ?_
  exact ok_Solver_chooseAct_l28 X Y hg σ h

def f_Solver_chooseAct (g : Nat) (x2 : Int32) (x3 : Int32) (σ : St) : Option (Int32 × St) :=
  ck (isG g) <| bd (f_Solver_isBarred g x3 0 σ) fun r3 σ2 => if r3 = 0 then (f_Solver_chooseAct_b20 g x2 x3 (x3 * 3) 0 σ2) else (f_Solver_chooseAct_b20 g x2 x3 (x3 * 3) 1 σ2)
set_option maxRecDepth 4000 in
theorem ok_Solver_chooseAct {w : wT} (hi : wInj w) {l : Launch} {g : Nat} {x2 : Int32} {x3 : Int32} {σ σ' : St} {r : Int32} (h : f_Solver_chooseAct g x2 x3 σ = some (r, σ')) : gM w l yX6_chooseAct cX6_chooseAct 9 (some .int) 2 [.ref (w.1 6), .ref (w.1 g), .int x2, .int x3] σ (some (.int r)) σ' := by
  unfold f_Solver_chooseAct at h
  obtain ⟨hg, h⟩ := ck_e h
  refine gM_of hi (by decide) [some (.ref (w.1 6)), some (.ref (w.1 g)), some (.int x2), some (.int x3)] rfl (Nat.le_of_ble_eq_true rfl) (fun E hl X Y => ?_)
  refine g_iload_n X dX6_chooseAct_0 rfl rfl ?_
  refine g_iconst X kI_3 dX6_chooseAct_1 rfl ?_
  refine g_imul X dX6_chooseAct_2 rfl ?_
  refine g_istore X [some (.ref (w.1 6)), some (.ref (w.1 g)), some (.int x2), some (.int x3), some (.int (x3 * 3))] dX6_chooseAct_3 (Nat.le_of_ble_eq_true rfl) rfl rfl rfl ?_
  refine g_aload_n X dX6_chooseAct_5 rfl rfl ?_
  refine g_aload_n X dX6_chooseAct_6 rfl rfl ?_
  refine g_iload_n X dX6_chooseAct_7 rfl rfl ?_
  refine g_iconst X kI_0 dX6_chooseAct_8 rfl ?_
  obtain ⟨r3, σ2, h1, h⟩ := bd_e h
  refine g_callVI X [.ref (w.1 g), .int x3, .int 0] (ok_Solver_isBarred X.inj h1) my_yX6_isBarred mi_yX6_isBarred ms_yX6_isBarred ml_RX6_96 (by decide) rfl rfl (by decide) rfl dX6_chooseAct_9 (Nat.le_of_ble_eq_true rfl) rfl rfl ?_
  refine g_if_eq X dX6_chooseAct_12 (tgt := 19) rfl rfl (fun c4 => ?_) (fun c4 => ?_)
  · replace h := if_t c4 h
    refine g_iconst X kI_0 dX6_chooseAct_19 rfl ?_
    exact ok_Solver_chooseAct_b20 X Y hg σ2 h
  · replace h := if_f c4 h
    refine g_iconst X kI_1 dX6_chooseAct_15 rfl ?_
    refine g_goto X dX6_chooseAct_16 (tgt := 20) rfl ?_
    exact ok_Solver_chooseAct_b20 X Y hg σ2 h

theorem dX6_chooseActs_0 : decode cX6_chooseActs 0 = .ok (.iconst 0, 1) := by decide +kernel
theorem dX6_chooseActs_1 : decode cX6_chooseActs 1 = .ok (.istore 4, 2) := by decide +kernel
theorem dX6_chooseActs_3 : decode cX6_chooseActs 3 = .ok (.iload 4, 2) := by decide +kernel
theorem dX6_chooseActs_5 : decode cX6_chooseActs 5 = .ok (.aload_n 1, 1) := by decide +kernel
theorem dX6_chooseActs_6 : decode cX6_chooseActs 6 = .ok (.getfield 64, 3) := by decide +kernel
theorem dX6_chooseActs_9 : decode cX6_chooseActs 9 = .ok (.if_icmp .ge 47, 3) := by decide +kernel
theorem dX6_chooseActs_12 : decode cX6_chooseActs 12 = .ok (.aload_n 0, 1) := by decide +kernel
theorem dX6_chooseActs_13 : decode cX6_chooseActs 13 = .ok (.getfield 15, 3) := by decide +kernel
theorem dX6_chooseActs_16 : decode cX6_chooseActs 16 = .ok (.iload 4, 2) := by decide +kernel
theorem dX6_chooseActs_18 : decode cX6_chooseActs 18 = .ok (.iaload, 1) := by decide +kernel
theorem dX6_chooseActs_19 : decode cX6_chooseActs 19 = .ok (.iload 4, 2) := by decide +kernel
theorem dX6_chooseActs_21 : decode cX6_chooseActs 21 = .ok (.if_icmp .ne 29, 3) := by decide +kernel
theorem dX6_chooseActs_24 : decode cX6_chooseActs 24 = .ok (.aload_n 1, 1) := by decide +kernel
theorem dX6_chooseActs_25 : decode cX6_chooseActs 25 = .ok (.iload_n 2, 1) := by decide +kernel
theorem dX6_chooseActs_26 : decode cX6_chooseActs 26 = .ok (.iload_n 3, 1) := by decide +kernel
theorem dX6_chooseActs_27 : decode cX6_chooseActs 27 = .ok (.iload 4, 2) := by decide +kernel
theorem dX6_chooseActs_29 : decode cX6_chooseActs 29 = .ok (.invokestatic 81, 3) := by decide +kernel
theorem dX6_chooseActs_32 : decode cX6_chooseActs 32 = .ok (.ifCond .eq 18, 3) := by decide +kernel
theorem dX6_chooseActs_35 : decode cX6_chooseActs 35 = .ok (.aload_n 0, 1) := by decide +kernel
theorem dX6_chooseActs_36 : decode cX6_chooseActs 36 = .ok (.getfield 19, 3) := by decide +kernel
theorem dX6_chooseActs_39 : decode cX6_chooseActs 39 = .ok (.iload 4, 2) := by decide +kernel
theorem dX6_chooseActs_41 : decode cX6_chooseActs 41 = .ok (.aload_n 0, 1) := by decide +kernel
theorem dX6_chooseActs_42 : decode cX6_chooseActs 42 = .ok (.aload_n 1, 1) := by decide +kernel
theorem dX6_chooseActs_43 : decode cX6_chooseActs 43 = .ok (.iload_n 2, 1) := by decide +kernel
theorem dX6_chooseActs_44 : decode cX6_chooseActs 44 = .ok (.iload 4, 2) := by decide +kernel
theorem dX6_chooseActs_46 : decode cX6_chooseActs 46 = .ok (.invokevirtual 92, 3) := by decide +kernel
theorem dX6_chooseActs_49 : decode cX6_chooseActs 49 = .ok (.iastore, 1) := by decide +kernel
theorem dX6_chooseActs_50 : decode cX6_chooseActs 50 = .ok (.iinc 4 1, 3) := by decide +kernel
theorem dX6_chooseActs_53 : decode cX6_chooseActs 53 = .ok (.goto (-50), 3) := by decide +kernel
theorem dX6_chooseActs_56 : decode cX6_chooseActs 56 = .ok (.return_, 1) := by decide +kernel
def f_Solver_chooseActs_b50 (g : Nat) (k3 : Int32 → Int32 → Int32 → St → Option St) (x2 : Int32) (x3 : Int32) (x4 : Int32) (σ : St) : Option St :=
  k3 x2 x3 (x4 + 1) σ
set_option maxRecDepth 4000 in
theorem ok_Solver_chooseActs_b50 {E : gE} {w : wT} {σ' : St} (X : gC E w cX6_chooseActs 5 RX6 3) (Y : gQ E w none none σ') {g : Nat} (hg : isG g = true) {k3 : Int32 → Int32 → Int32 → St → Option St} (hk3 : ∀ (x2 : Int32) (x3 : Int32) (x4 : Int32) (σ : St), k3 x2 x3 x4 σ = some σ' → gW E w 5 σ 3 [some (.ref (w.1 6)), some (.ref (w.1 g)), some (.int x2), some (.int x3), some (.int x4)] []) {x2 : Int32} {x3 : Int32} {x4 : Int32} (σ : St) (h : f_Solver_chooseActs_b50 g k3 x2 x3 x4 σ = some σ') : gW E w 5 σ 50 [some (.ref (w.1 6)), some (.ref (w.1 g)), some (.int x2), some (.int x3), some (.int x4)] [] := by
  unfold f_Solver_chooseActs_b50 at h
  refine g_iinc X [some (.ref (w.1 6)), some (.ref (w.1 g)), some (.int x2), some (.int x3), some (.int (x4 + 1))] dX6_chooseActs_50 rfl (ii_1 x4) (Nat.le_of_ble_eq_true rfl) rfl rfl rfl ?_
  refine g_goto X dX6_chooseActs_53 (tgt := 3) rfl ?_
  exact hk3 x2 x3 (x4 + 1) σ h

def f_Solver_chooseActs_b3 (g : Nat) (k3 : Int32 → Int32 → Int32 → St → Option St) (x2 : Int32) (x3 : Int32) (x4 : Int32) (σ : St) : Option St :=
  if (rF σ (g + 10)) ≤ x4 then (some σ) else (ck (ib x4 60) <| if (rI σ 54 x4) = x4 then (bd (f_Solver_isOwn g x2 x3 x4 σ) fun r6 σ5 => if r6 = 0 then (f_Solver_chooseActs_b50 g k3 x2 x3 x4 σ5) else (bd (f_Solver_chooseAct g x2 x4 σ5) fun r10 σ9 => ck (ib x4 60) <| lE (stA σ9 55 x4.toNatClampNeg r10) fun σ12 => f_Solver_chooseActs_b50 g k3 x2 x3 x4 σ12)) else (f_Solver_chooseActs_b50 g k3 x2 x3 x4 σ))
set_option maxRecDepth 4000 in
theorem ok_Solver_chooseActs_b3 {E : gE} {w : wT} {σ' : St} (X : gC E w cX6_chooseActs 5 RX6 3) (Y : gQ E w none none σ') {g : Nat} (hg : isG g = true) {k3 : Int32 → Int32 → Int32 → St → Option St} (hk3 : ∀ (x2 : Int32) (x3 : Int32) (x4 : Int32) (σ : St), k3 x2 x3 x4 σ = some σ' → gW E w 5 σ 3 [some (.ref (w.1 6)), some (.ref (w.1 g)), some (.int x2), some (.int x3), some (.int x4)] []) {x2 : Int32} {x3 : Int32} {x4 : Int32} (σ : St) (h : f_Solver_chooseActs_b3 g k3 x2 x3 x4 σ = some σ') : gW E w 5 σ 3 [some (.ref (w.1 6)), some (.ref (w.1 g)), some (.int x2), some (.int x3), some (.int x4)] [] := by
  unfold f_Solver_chooseActs_b3 at h
  refine g_iload X dX6_chooseActs_3 rfl rfl ?_
  refine g_aload_n X dX6_chooseActs_5 rfl rfl ?_
  refine gf_RX6_64 hg X dX6_chooseActs_6 rfl ?_
  refine g_icmp_ge X dX6_chooseActs_9 (tgt := 56) rfl rfl (fun c1 => ?_) (fun c1 => ?_)
  · replace h := if_t c1 h
    obtain rfl := rv_e h
    exact g_vret X Y dX6_chooseActs_56
  · replace h := if_f c1 h
    refine g_aload_n X dX6_chooseActs_12 rfl rfl ?_
    refine gf_RX6_15 X dX6_chooseActs_13 rfl ?_
    refine g_iload X dX6_chooseActs_16 rfl rfl ?_
    obtain ⟨c2, h⟩ := ck_e h
    refine g_iald X ar_54.1 ar_54.2.1 ar_54.2.2 (ib_e c2) dX6_chooseActs_18 rfl ?_
    refine g_iload X dX6_chooseActs_19 rfl rfl ?_
    refine g_icmp_ne X dX6_chooseActs_21 (tgt := 50) rfl rfl (fun c3 => ?_) (fun c3 => ?_)
    · replace h := if_f c3 h
      exact ok_Solver_chooseActs_b50 X Y hg hk3 σ h
    · replace h := if_t c3 h
      refine g_aload_n X dX6_chooseActs_24 rfl rfl ?_
      refine g_iload_n X dX6_chooseActs_25 rfl rfl ?_
      refine g_iload_n X dX6_chooseActs_26 rfl rfl ?_
      refine g_iload X dX6_chooseActs_27 rfl rfl ?_
      obtain ⟨r6, σ5, h4, h⟩ := bd_e h
      refine g_callSI X [.ref (w.1 g), .int x2, .int x3, .int x4] (ok_Solver_isOwn X.inj h4) my_yX6_isOwn mt_yX6_isOwn ml_RX6_81 (by decide) rfl dX6_chooseActs_29 (Nat.le_of_ble_eq_true rfl) rfl rfl ?_
      refine g_if_eq X dX6_chooseActs_32 (tgt := 50) rfl rfl (fun c7 => ?_) (fun c7 => ?_)
      · replace h := if_t c7 h
        exact ok_Solver_chooseActs_b50 X Y hg hk3 σ5 h
      · replace h := if_f c7 h
        refine g_aload_n X dX6_chooseActs_35 rfl rfl ?_
        refine gf_RX6_19 X dX6_chooseActs_36 rfl ?_
        refine g_iload X dX6_chooseActs_39 rfl rfl ?_
        refine g_aload_n X dX6_chooseActs_41 rfl rfl ?_
        refine g_aload_n X dX6_chooseActs_42 rfl rfl ?_
        refine g_iload_n X dX6_chooseActs_43 rfl rfl ?_
        refine g_iload X dX6_chooseActs_44 rfl rfl ?_
        obtain ⟨r10, σ9, h8, h⟩ := bd_e h
        refine g_callVI X [.ref (w.1 g), .int x2, .int x4] (ok_Solver_chooseAct X.inj h8) my_yX6_chooseAct mi_yX6_chooseAct ms_yX6_chooseAct ml_RX6_92 (by decide) rfl rfl (by decide) rfl dX6_chooseActs_46 (Nat.le_of_ble_eq_true rfl) rfl rfl ?_
        obtain ⟨c11, h⟩ := ck_e h
        refine g_iast X ar_55.1 ar_55.2.1 ar_55.2.2 (ib_e c11) dX6_chooseActs_49 rfl (fun σ12 e13 => ?_)
        replace h := lE_c e13 h
        exact ok_Solver_chooseActs_b50 X Y hg hk3 σ12 h
def f_Solver_chooseActs_l3 (g : Nat) : Int32 → Int32 → Int32 → St → Option St := lp (fun _ _ _ _ => none) (f_Solver_chooseActs_b3 g) FU
theorem ok_Solver_chooseActs_l3 {E : gE} {w : wT} {σ' : St} (X : gC E w cX6_chooseActs 5 RX6 3) (Y : gQ E w none none σ') {g : Nat} (hg : isG g = true) {x2 : Int32} {x3 : Int32} {x4 : Int32} (σ : St) (h : f_Solver_chooseActs_l3 g x2 x3 x4 σ = some σ') : gW E w 5 σ 3 [some (.ref (w.1 6)), some (.ref (w.1 g)), some (.int x2), some (.int x3), some (.int x4)] [] :=
  lp_ind (P := fun (k : Int32 → Int32 → Int32 → St → Option St) => ∀ (x2 : Int32) (x3 : Int32) (x4 : Int32) (σ : St), k x2 x3 x4 σ = some σ' → gW E w 5 σ 3 [some (.ref (w.1 6)), some (.ref (w.1 g)), some (.int x2), some (.int x3), some (.int x4)] []) (fun _ _ _ _ hh => nn hh) (fun k hk x2 x3 x4 σ  hh => ok_Solver_chooseActs_b3 X Y hg hk σ hh) FU x2 x3 x4 σ  h

def f_Solver_chooseActs (g : Nat) (x2 : Int32) (x3 : Int32) (σ : St) : Option St :=
  ck (isG g) <| f_Solver_chooseActs_l3 g x2 x3 0 σ
set_option maxRecDepth 4000 in
theorem ok_Solver_chooseActs {w : wT} (hi : wInj w) {l : Launch} {g : Nat} {x2 : Int32} {x3 : Int32} {σ σ' : St} (h : f_Solver_chooseActs g x2 x3 σ = some σ') : gM w l yX6_chooseActs cX6_chooseActs 5 none 3 [.ref (w.1 6), .ref (w.1 g), .int x2, .int x3] σ none σ' := by
  unfold f_Solver_chooseActs at h
  obtain ⟨hg, h⟩ := ck_e h
  refine gM_of hi (by decide) [some (.ref (w.1 6)), some (.ref (w.1 g)), some (.int x2), some (.int x3)] rfl (Nat.le_of_ble_eq_true rfl) (fun E hl X Y => ?_)
  refine g_iconst X kI_0 dX6_chooseActs_0 rfl ?_
  refine g_istore X [some (.ref (w.1 6)), some (.ref (w.1 g)), some (.int x2), some (.int x3), some (.int 0)] dX6_chooseActs_1 (Nat.le_of_ble_eq_true rfl) rfl rfl rfl ?_
  exact ok_Solver_chooseActs_l3 X Y hg σ h

theorem dX6_worthOf_0 : decode cX6_worthOf 0 = .ok (.aload_n 1, 1) := by decide +kernel
theorem dX6_worthOf_1 : decode cX6_worthOf 1 = .ok (.getfield 111, 3) := by decide +kernel
theorem dX6_worthOf_4 : decode cX6_worthOf 4 = .ok (.iload_n 3, 1) := by decide +kernel
theorem dX6_worthOf_5 : decode cX6_worthOf 5 = .ok (.iaload, 1) := by decide +kernel
theorem dX6_worthOf_6 : decode cX6_worthOf 6 = .ok (.ifCond .ne 14, 3) := by decide +kernel
theorem dX6_worthOf_9 : decode cX6_worthOf 9 = .ok (.aload_n 1, 1) := by decide +kernel
theorem dX6_worthOf_10 : decode cX6_worthOf 10 = .ok (.getfield 114, 3) := by decide +kernel
theorem dX6_worthOf_13 : decode cX6_worthOf 13 = .ok (.iload_n 3, 1) := by decide +kernel
theorem dX6_worthOf_14 : decode cX6_worthOf 14 = .ok (.iaload, 1) := by decide +kernel
theorem dX6_worthOf_15 : decode cX6_worthOf 15 = .ok (.i2l, 1) := by decide +kernel
theorem dX6_worthOf_16 : decode cX6_worthOf 16 = .ok (.lload 4, 2) := by decide +kernel
theorem dX6_worthOf_18 : decode cX6_worthOf 18 = .ok (.lmul, 1) := by decide +kernel
theorem dX6_worthOf_19 : decode cX6_worthOf 19 = .ok (.lreturn, 1) := by decide +kernel
theorem dX6_worthOf_20 : decode cX6_worthOf 20 = .ok (.aload_n 1, 1) := by decide +kernel
theorem dX6_worthOf_21 : decode cX6_worthOf 21 = .ok (.getfield 111, 3) := by decide +kernel
theorem dX6_worthOf_24 : decode cX6_worthOf 24 = .ok (.iload_n 3, 1) := by decide +kernel
theorem dX6_worthOf_25 : decode cX6_worthOf 25 = .ok (.iaload, 1) := by decide +kernel
theorem dX6_worthOf_26 : decode cX6_worthOf 26 = .ok (.iconst 2, 1) := by decide +kernel
theorem dX6_worthOf_27 : decode cX6_worthOf 27 = .ok (.iload_n 2, 1) := by decide +kernel
theorem dX6_worthOf_28 : decode cX6_worthOf 28 = .ok (.iadd, 1) := by decide +kernel
theorem dX6_worthOf_29 : decode cX6_worthOf 29 = .ok (.if_icmp .ne 25, 3) := by decide +kernel
theorem dX6_worthOf_32 : decode cX6_worthOf 32 = .ok (.aload_n 0, 1) := by decide +kernel
theorem dX6_worthOf_33 : decode cX6_worthOf 33 = .ok (.getfield 9, 3) := by decide +kernel
theorem dX6_worthOf_36 : decode cX6_worthOf 36 = .ok (.aload_n 1, 1) := by decide +kernel
theorem dX6_worthOf_37 : decode cX6_worthOf 37 = .ok (.iload_n 3, 1) := by decide +kernel
theorem dX6_worthOf_38 : decode cX6_worthOf 38 = .ok (.aload_n 0, 1) := by decide +kernel
theorem dX6_worthOf_39 : decode cX6_worthOf 39 = .ok (.getfield 19, 3) := by decide +kernel
theorem dX6_worthOf_42 : decode cX6_worthOf 42 = .ok (.aload_n 0, 1) := by decide +kernel
theorem dX6_worthOf_43 : decode cX6_worthOf 43 = .ok (.getfield 15, 3) := by decide +kernel
theorem dX6_worthOf_46 : decode cX6_worthOf 46 = .ok (.iload_n 3, 1) := by decide +kernel
theorem dX6_worthOf_47 : decode cX6_worthOf 47 = .ok (.iaload, 1) := by decide +kernel
theorem dX6_worthOf_48 : decode cX6_worthOf 48 = .ok (.iaload, 1) := by decide +kernel
theorem dX6_worthOf_49 : decode cX6_worthOf 49 = .ok (.invokevirtual 88, 3) := by decide +kernel
theorem dX6_worthOf_52 : decode cX6_worthOf 52 = .ok (.laload, 1) := by decide +kernel
theorem dX6_worthOf_53 : decode cX6_worthOf 53 = .ok (.lreturn, 1) := by decide +kernel
theorem dX6_worthOf_54 : decode cX6_worthOf 54 = .ok (.lconst 0, 1) := by decide +kernel
theorem dX6_worthOf_55 : decode cX6_worthOf 55 = .ok (.lstore 6, 2) := by decide +kernel
theorem dX6_worthOf_57 : decode cX6_worthOf 57 = .ok (.iconst 0, 1) := by decide +kernel
theorem dX6_worthOf_58 : decode cX6_worthOf 58 = .ok (.istore 8, 2) := by decide +kernel
theorem dX6_worthOf_60 : decode cX6_worthOf 60 = .ok (.iload 8, 2) := by decide +kernel
theorem dX6_worthOf_62 : decode cX6_worthOf 62 = .ok (.aload_n 1, 1) := by decide +kernel
theorem dX6_worthOf_63 : decode cX6_worthOf 63 = .ok (.getfield 85, 3) := by decide +kernel
theorem dX6_worthOf_66 : decode cX6_worthOf 66 = .ok (.iload_n 3, 1) := by decide +kernel
theorem dX6_worthOf_67 : decode cX6_worthOf 67 = .ok (.iaload, 1) := by decide +kernel
theorem dX6_worthOf_68 : decode cX6_worthOf 68 = .ok (.if_icmp .ge 26, 3) := by decide +kernel
theorem dX6_worthOf_71 : decode cX6_worthOf 71 = .ok (.lload 6, 2) := by decide +kernel
theorem dX6_worthOf_73 : decode cX6_worthOf 73 = .ok (.aload_n 0, 1) := by decide +kernel
theorem dX6_worthOf_74 : decode cX6_worthOf 74 = .ok (.getfield 9, 3) := by decide +kernel
theorem dX6_worthOf_77 : decode cX6_worthOf 77 = .ok (.aload_n 1, 1) := by decide +kernel
theorem dX6_worthOf_78 : decode cX6_worthOf 78 = .ok (.iload_n 3, 1) := by decide +kernel
theorem dX6_worthOf_79 : decode cX6_worthOf 79 = .ok (.iload 8, 2) := by decide +kernel
theorem dX6_worthOf_81 : decode cX6_worthOf 81 = .ok (.invokevirtual 88, 3) := by decide +kernel
theorem dX6_worthOf_84 : decode cX6_worthOf 84 = .ok (.laload, 1) := by decide +kernel
theorem dX6_worthOf_85 : decode cX6_worthOf 85 = .ok (.ladd, 1) := by decide +kernel
theorem dX6_worthOf_86 : decode cX6_worthOf 86 = .ok (.lstore 6, 2) := by decide +kernel
theorem dX6_worthOf_88 : decode cX6_worthOf 88 = .ok (.iinc 8 1, 3) := by decide +kernel
theorem dX6_worthOf_91 : decode cX6_worthOf 91 = .ok (.goto (-31), 3) := by decide +kernel
theorem dX6_worthOf_94 : decode cX6_worthOf 94 = .ok (.lload 6, 2) := by decide +kernel
theorem dX6_worthOf_96 : decode cX6_worthOf 96 = .ok (.lreturn, 1) := by decide +kernel
def f_Solver_worthOf_b60 (g : Nat) (k60 : Int32 → Int64 → Int32 → St → Option (Int64 × St)) (x3 : Int32) (x6 : Int64) (x8 : Int32) (σ : St) : Option (Int64 × St) :=
  ck (ib x3 60) <| if (rI σ (g + 4) x3) ≤ x8 then (some (x6, σ)) else (bd (f_Game_wayTo g x3 x8 σ) fun r5 σ4 => ck (ib r5 60) <| k60 x3 (x6 + (rL σ4 53 r5)) (x8 + 1) σ4)
set_option maxRecDepth 4000 in
theorem ok_Solver_worthOf_b60 {E : gE} {w : wT} {σ' : St} {r : Int64} (X : gC E w cX6_worthOf 9 RX6 2) (Y : gQ E w (some .long) (some (.long r)) σ') {g : Nat} (hg : isG g = true) {k60 : Int32 → Int64 → Int32 → St → Option (Int64 × St)} (hk60 : ∀ (x3 : Int32) (x6 : Int64) (x8 : Int32) (σ : St), k60 x3 x6 x8 σ = some (r, σ') → gW E w 9 σ 60 [some (.ref (w.1 6)), some (.ref (w.1 g)), none, some (.int x3), none, none, some (.long x6), none, some (.int x8)] []) {x3 : Int32} {x6 : Int64} {x8 : Int32} (σ : St) (h : f_Solver_worthOf_b60 g k60 x3 x6 x8 σ = some (r, σ')) : gW E w 9 σ 60 [some (.ref (w.1 6)), some (.ref (w.1 g)), none, some (.int x3), none, none, some (.long x6), none, some (.int x8)] [] := by
  unfold f_Solver_worthOf_b60 at h
  refine g_iload X dX6_worthOf_60 rfl rfl ?_
  refine g_aload_n X dX6_worthOf_62 rfl rfl ?_
  refine gf_RX6_85 hg X dX6_worthOf_63 rfl ?_
  refine g_iload_n X dX6_worthOf_66 rfl rfl ?_
  obtain ⟨c1, h⟩ := ck_e h
  refine g_iald X (ga_4 hg).1 (ga_4 hg).2.1 (ga_4 hg).2.2 (ib_e c1) dX6_worthOf_67 rfl ?_
  refine g_icmp_ge X dX6_worthOf_68 (tgt := 94) rfl rfl (fun c2 => ?_) (fun c2 => ?_)
  · replace h := if_t c2 h
    refine g_lload X dX6_worthOf_94 rfl rfl ?_
    obtain ⟨rfl, rfl⟩ := rt_e h
    exact g_lret X Y dX6_worthOf_96
  · replace h := if_f c2 h
    refine g_lload X dX6_worthOf_71 rfl rfl ?_
    refine g_aload_n X dX6_worthOf_73 rfl rfl ?_
    refine gf_RX6_9 X dX6_worthOf_74 rfl ?_
    refine g_aload_n X dX6_worthOf_77 rfl rfl ?_
    refine g_iload_n X dX6_worthOf_78 rfl rfl ?_
    refine g_iload X dX6_worthOf_79 rfl rfl ?_
    obtain ⟨r5, σ4, h3, h⟩ := bd_e h
    refine g_callVI X [.int x3, .int x8] (ok_Game_wayTo X.inj h3) my_yX1_wayTo mi_yX1_wayTo ms_yX1_wayTo ml_RX6_88 (go_ hg).1 (go_ hg).2.1 (go_ hg).2.2 (by decide) rfl dX6_worthOf_81 (Nat.le_of_ble_eq_true rfl) rfl rfl ?_
    obtain ⟨c6, h⟩ := ck_e h
    refine g_lald X ar_53.1 ar_53.2.1 ar_53.2.2 (ib_e c6) dX6_worthOf_84 rfl ?_
    refine g_ladd X dX6_worthOf_85 rfl ?_
    refine g_lstore X [some (.ref (w.1 6)), some (.ref (w.1 g)), none, some (.int x3), none, none, some (.long (x6 + (rL σ4 53 r5))), none, some (.int x8)] dX6_worthOf_86 (Nat.le_of_ble_eq_true rfl) rfl rfl rfl ?_
    refine g_iinc X [some (.ref (w.1 6)), some (.ref (w.1 g)), none, some (.int x3), none, none, some (.long (x6 + (rL σ4 53 r5))), none, some (.int (x8 + 1))] dX6_worthOf_88 rfl (ii_1 x8) (Nat.le_of_ble_eq_true rfl) rfl rfl rfl ?_
    refine g_goto X dX6_worthOf_91 (tgt := 60) rfl ?_
    exact hk60 x3 (x6 + (rL σ4 53 r5)) (x8 + 1) σ4 h
def f_Solver_worthOf_l60 (g : Nat) : Int32 → Int64 → Int32 → St → Option (Int64 × St) := lp (fun _ _ _ _ => none) (f_Solver_worthOf_b60 g) FU
theorem ok_Solver_worthOf_l60 {E : gE} {w : wT} {σ' : St} {r : Int64} (X : gC E w cX6_worthOf 9 RX6 2) (Y : gQ E w (some .long) (some (.long r)) σ') {g : Nat} (hg : isG g = true) {x3 : Int32} {x6 : Int64} {x8 : Int32} (σ : St) (h : f_Solver_worthOf_l60 g x3 x6 x8 σ = some (r, σ')) : gW E w 9 σ 60 [some (.ref (w.1 6)), some (.ref (w.1 g)), none, some (.int x3), none, none, some (.long x6), none, some (.int x8)] [] :=
  lp_ind (P := fun (k : Int32 → Int64 → Int32 → St → Option (Int64 × St)) => ∀ (x3 : Int32) (x6 : Int64) (x8 : Int32) (σ : St), k x3 x6 x8 σ = some (r, σ') → gW E w 9 σ 60 [some (.ref (w.1 6)), some (.ref (w.1 g)), none, some (.int x3), none, none, some (.long x6), none, some (.int x8)] []) (fun _ _ _ _ hh => nn hh) (fun k hk x3 x6 x8 σ  hh => ok_Solver_worthOf_b60 X Y hg hk σ hh) FU x3 x6 x8 σ  h

def f_Solver_worthOf (g : Nat) (x2 : Int32) (x3 : Int32) (x4 : Int64) (σ : St) : Option (Int64 × St) :=
  ck (isG g) <| ck (ib x3 60) <| if (rI σ (g + 1) x3) = 0 then (ck (ib x3 60) <| some (((rI σ (g + 2) x3).toInt64) * x4, σ)) else (ck (ib x3 60) <| if (rI σ (g + 1) x3) = (2 + x2) then (ck (ib x3 60) <| ck (ib (rI σ 54 x3) 60) <| bd (f_Game_wayTo g x3 (rI σ 55 (rI σ 54 x3)) σ) fun r9 σ8 => ck (ib r9 60) <| some (rL σ8 53 r9, σ8)) else (f_Solver_worthOf_l60 g x3 0 0 σ))
set_option maxRecDepth 4000 in
theorem ok_Solver_worthOf {w : wT} (hi : wInj w) {l : Launch} {g : Nat} {x2 : Int32} {x3 : Int32} {x4 : Int64} {σ σ' : St} {r : Int64} (h : f_Solver_worthOf g x2 x3 x4 σ = some (r, σ')) : gM w l yX6_worthOf cX6_worthOf 9 (some .long) 2 [.ref (w.1 6), .ref (w.1 g), .int x2, .int x3, .long x4] σ (some (.long r)) σ' := by
  unfold f_Solver_worthOf at h
  obtain ⟨hg, h⟩ := ck_e h
  refine gM_of hi (by decide) [some (.ref (w.1 6)), some (.ref (w.1 g)), some (.int x2), some (.int x3), some (.long x4), none] rfl (Nat.le_of_ble_eq_true rfl) (fun E hl X Y => ?_)
  refine g_aload_n X dX6_worthOf_0 rfl rfl ?_
  refine gf_RX6_111 hg X dX6_worthOf_1 rfl ?_
  refine g_iload_n X dX6_worthOf_4 rfl rfl ?_
  obtain ⟨c1, h⟩ := ck_e h
  refine g_iald X (ga_1 hg).1 (ga_1 hg).2.1 (ga_1 hg).2.2 (ib_e c1) dX6_worthOf_5 rfl ?_
  refine g_if_ne X dX6_worthOf_6 (tgt := 20) rfl rfl (fun c2 => ?_) (fun c2 => ?_)
  · replace h := if_f c2 h
    refine g_aload_n X dX6_worthOf_20 rfl rfl ?_
    refine gf_RX6_111 hg X dX6_worthOf_21 rfl ?_
    refine g_iload_n X dX6_worthOf_24 rfl rfl ?_
    obtain ⟨c3, h⟩ := ck_e h
    refine g_iald X (ga_1 hg).1 (ga_1 hg).2.1 (ga_1 hg).2.2 (ib_e c3) dX6_worthOf_25 rfl ?_
    refine g_iconst X kI_2 dX6_worthOf_26 rfl ?_
    refine g_iload_n X dX6_worthOf_27 rfl rfl ?_
    refine g_iadd X dX6_worthOf_28 rfl ?_
    refine g_icmp_ne X dX6_worthOf_29 (tgt := 54) rfl rfl (fun c4 => ?_) (fun c4 => ?_)
    · replace h := if_f c4 h
      refine g_lconst X kL_0 dX6_worthOf_54 rfl ?_
      refine g_lstore X [some (.ref (w.1 6)), some (.ref (w.1 g)), some (.int x2), some (.int x3), some (.long x4), none, some (.long 0), none] dX6_worthOf_55 (Nat.le_of_ble_eq_true rfl) rfl rfl rfl ?_
      refine g_iconst X kI_0 dX6_worthOf_57 rfl ?_
      refine g_istore X [some (.ref (w.1 6)), some (.ref (w.1 g)), some (.int x2), some (.int x3), some (.long x4), none, some (.long 0), none, some (.int 0)] dX6_worthOf_58 (Nat.le_of_ble_eq_true rfl) rfl rfl rfl ?_
      exact g_le (lle_s (lle_s (lle_k (lle_s (lle_k (lle_k (lle_s (lle_k (lle_s (lle_0)))))))))) (ok_Solver_worthOf_l60 X Y hg σ h)
    · replace h := if_t c4 h
      refine g_aload_n X dX6_worthOf_32 rfl rfl ?_
      refine gf_RX6_9 X dX6_worthOf_33 rfl ?_
      refine g_aload_n X dX6_worthOf_36 rfl rfl ?_
      refine g_iload_n X dX6_worthOf_37 rfl rfl ?_
      refine g_aload_n X dX6_worthOf_38 rfl rfl ?_
      refine gf_RX6_19 X dX6_worthOf_39 rfl ?_
      refine g_aload_n X dX6_worthOf_42 rfl rfl ?_
      refine gf_RX6_15 X dX6_worthOf_43 rfl ?_
      refine g_iload_n X dX6_worthOf_46 rfl rfl ?_
      obtain ⟨c5, h⟩ := ck_e h
      refine g_iald X ar_54.1 ar_54.2.1 ar_54.2.2 (ib_e c5) dX6_worthOf_47 rfl ?_
      obtain ⟨c6, h⟩ := ck_e h
      refine g_iald X ar_55.1 ar_55.2.1 ar_55.2.2 (ib_e c6) dX6_worthOf_48 rfl ?_
      obtain ⟨r9, σ8, h7, h⟩ := bd_e h
      refine g_callVI X [.int x3, .int (rI σ 55 (rI σ 54 x3))] (ok_Game_wayTo X.inj h7) my_yX1_wayTo mi_yX1_wayTo ms_yX1_wayTo ml_RX6_88 (go_ hg).1 (go_ hg).2.1 (go_ hg).2.2 (by decide) rfl dX6_worthOf_49 (Nat.le_of_ble_eq_true rfl) rfl rfl ?_
      obtain ⟨c10, h⟩ := ck_e h
      refine g_lald X ar_53.1 ar_53.2.1 ar_53.2.2 (ib_e c10) dX6_worthOf_52 rfl ?_
      obtain ⟨rfl, rfl⟩ := rt_e h
      exact g_lret X Y dX6_worthOf_53
  · replace h := if_t c2 h
    refine g_aload_n X dX6_worthOf_9 rfl rfl ?_
    refine gf_RX6_114 hg X dX6_worthOf_10 rfl ?_
    refine g_iload_n X dX6_worthOf_13 rfl rfl ?_
    obtain ⟨c11, h⟩ := ck_e h
    refine g_iald X (ga_2 hg).1 (ga_2 hg).2.1 (ga_2 hg).2.2 (ib_e c11) dX6_worthOf_14 rfl ?_
    refine g_i2l X dX6_worthOf_15 rfl ?_
    refine g_lload X dX6_worthOf_16 rfl rfl ?_
    refine g_lmul X dX6_worthOf_18 rfl ?_
    obtain ⟨rfl, rfl⟩ := rt_e h
    exact g_lret X Y dX6_worthOf_19

theorem dX6_weigh_0 : decode cX6_weigh 0 = .ok (.aload_n 1, 1) := by decide +kernel
theorem dX6_weigh_1 : decode cX6_weigh 1 = .ok (.getfield 64, 3) := by decide +kernel
theorem dX6_weigh_4 : decode cX6_weigh 4 = .ok (.iconst 1, 1) := by decide +kernel
theorem dX6_weigh_5 : decode cX6_weigh 5 = .ok (.isub, 1) := by decide +kernel
theorem dX6_weigh_6 : decode cX6_weigh 6 = .ok (.istore 5, 2) := by decide +kernel
theorem dX6_weigh_8 : decode cX6_weigh 8 = .ok (.iload 5, 2) := by decide +kernel
theorem dX6_weigh_10 : decode cX6_weigh 10 = .ok (.ifCond .lt 40, 3) := by decide +kernel
theorem dX6_weigh_13 : decode cX6_weigh 13 = .ok (.aload_n 1, 1) := by decide +kernel
theorem dX6_weigh_14 : decode cX6_weigh 14 = .ok (.iload_n 2, 1) := by decide +kernel
theorem dX6_weigh_15 : decode cX6_weigh 15 = .ok (.iload 5, 2) := by decide +kernel
theorem dX6_weigh_17 : decode cX6_weigh 17 = .ok (.invokevirtual 104, 3) := by decide +kernel
theorem dX6_weigh_20 : decode cX6_weigh 20 = .ok (.iload_n 3, 1) := by decide +kernel
theorem dX6_weigh_21 : decode cX6_weigh 21 = .ok (.if_icmp .ne 23, 3) := by decide +kernel
theorem dX6_weigh_24 : decode cX6_weigh 24 = .ok (.aload_n 0, 1) := by decide +kernel
theorem dX6_weigh_25 : decode cX6_weigh 25 = .ok (.getfield 9, 3) := by decide +kernel
theorem dX6_weigh_28 : decode cX6_weigh 28 = .ok (.iload 5, 2) := by decide +kernel
theorem dX6_weigh_30 : decode cX6_weigh 30 = .ok (.aload_n 0, 1) := by decide +kernel
theorem dX6_weigh_31 : decode cX6_weigh 31 = .ok (.aload_n 1, 1) := by decide +kernel
theorem dX6_weigh_32 : decode cX6_weigh 32 = .ok (.iload_n 2, 1) := by decide +kernel
theorem dX6_weigh_33 : decode cX6_weigh 33 = .ok (.iload 5, 2) := by decide +kernel
theorem dX6_weigh_35 : decode cX6_weigh 35 = .ok (.aload 4, 2) := by decide +kernel
theorem dX6_weigh_37 : decode cX6_weigh 37 = .ok (.iload 5, 2) := by decide +kernel
theorem dX6_weigh_39 : decode cX6_weigh 39 = .ok (.laload, 1) := by decide +kernel
theorem dX6_weigh_40 : decode cX6_weigh 40 = .ok (.invokevirtual 107, 3) := by decide +kernel
theorem dX6_weigh_43 : decode cX6_weigh 43 = .ok (.lastore, 1) := by decide +kernel
theorem dX6_weigh_44 : decode cX6_weigh 44 = .ok (.iinc 5 (-1), 3) := by decide +kernel
theorem dX6_weigh_47 : decode cX6_weigh 47 = .ok (.goto (-39), 3) := by decide +kernel
theorem dX6_weigh_50 : decode cX6_weigh 50 = .ok (.return_, 1) := by decide +kernel
def f_Solver_weigh_b44 (g : Nat) (a : Nat) (k8 : Int32 → Int32 → Int32 → St → Option St) (x2 : Int32) (x3 : Int32) (x5 : Int32) (σ : St) : Option St :=
  k8 x2 x3 (x5 + (-1)) σ
set_option maxRecDepth 4000 in
theorem ok_Solver_weigh_b44 {E : gE} {w : wT} {σ' : St} (X : gC E w cX6_weigh 6 RX6 3) (Y : gQ E w none none σ') {g : Nat} (hg : isG g = true) {a : Nat} (ha : isL a = true) {k8 : Int32 → Int32 → Int32 → St → Option St} (hk8 : ∀ (x2 : Int32) (x3 : Int32) (x5 : Int32) (σ : St), k8 x2 x3 x5 σ = some σ' → gW E w 6 σ 8 [some (.ref (w.1 6)), some (.ref (w.1 g)), some (.int x2), some (.int x3), some (.ref (w.1 a)), some (.int x5)] []) {x2 : Int32} {x3 : Int32} {x5 : Int32} (σ : St) (h : f_Solver_weigh_b44 g a k8 x2 x3 x5 σ = some σ') : gW E w 6 σ 44 [some (.ref (w.1 6)), some (.ref (w.1 g)), some (.int x2), some (.int x3), some (.ref (w.1 a)), some (.int x5)] [] := by
  unfold f_Solver_weigh_b44 at h
  refine g_iinc X [some (.ref (w.1 6)), some (.ref (w.1 g)), some (.int x2), some (.int x3), some (.ref (w.1 a)), some (.int (x5 + (-1)))] dX6_weigh_44 rfl (ii_m1 x5) (Nat.le_of_ble_eq_true rfl) rfl rfl rfl ?_
  refine g_goto X dX6_weigh_47 (tgt := 8) rfl ?_
  exact hk8 x2 x3 (x5 + (-1)) σ h

def f_Solver_weigh_b8 (g : Nat) (a : Nat) (k8 : Int32 → Int32 → Int32 → St → Option St) (x2 : Int32) (x3 : Int32) (x5 : Int32) (σ : St) : Option St :=
  if x5 < 0 then (some σ) else (bd (f_Game_ownActsTo g x2 x5 σ) fun r4 σ3 => if r4 = x3 then (ck (ib x5 60) <| bd (f_Solver_worthOf g x2 x5 (rL σ3 a x5) σ3) fun r9 σ8 => ck (ib x5 60) <| lE (stL σ8 53 x5.toNatClampNeg r9) fun σ11 => f_Solver_weigh_b44 g a k8 x2 x3 x5 σ11) else (f_Solver_weigh_b44 g a k8 x2 x3 x5 σ3))
set_option maxRecDepth 4000 in
theorem ok_Solver_weigh_b8 {E : gE} {w : wT} {σ' : St} (X : gC E w cX6_weigh 6 RX6 3) (Y : gQ E w none none σ') {g : Nat} (hg : isG g = true) {a : Nat} (ha : isL a = true) {k8 : Int32 → Int32 → Int32 → St → Option St} (hk8 : ∀ (x2 : Int32) (x3 : Int32) (x5 : Int32) (σ : St), k8 x2 x3 x5 σ = some σ' → gW E w 6 σ 8 [some (.ref (w.1 6)), some (.ref (w.1 g)), some (.int x2), some (.int x3), some (.ref (w.1 a)), some (.int x5)] []) {x2 : Int32} {x3 : Int32} {x5 : Int32} (σ : St) (h : f_Solver_weigh_b8 g a k8 x2 x3 x5 σ = some σ') : gW E w 6 σ 8 [some (.ref (w.1 6)), some (.ref (w.1 g)), some (.int x2), some (.int x3), some (.ref (w.1 a)), some (.int x5)] [] := by
  unfold f_Solver_weigh_b8 at h
  refine g_iload X dX6_weigh_8 rfl rfl ?_
  refine g_if_lt X dX6_weigh_10 (tgt := 50) rfl rfl (fun c1 => ?_) (fun c1 => ?_)
  · replace h := if_t c1 h
    obtain rfl := rv_e h
    exact g_vret X Y dX6_weigh_50
  · replace h := if_f c1 h
    refine g_aload_n X dX6_weigh_13 rfl rfl ?_
    refine g_iload_n X dX6_weigh_14 rfl rfl ?_
    refine g_iload X dX6_weigh_15 rfl rfl ?_
    obtain ⟨r4, σ3, h2, h⟩ := bd_e h
    refine g_callVI X [.int x2, .int x5] (ok_Game_ownActsTo X.inj h2) my_yX1_ownActsTo mi_yX1_ownActsTo ms_yX1_ownActsTo ml_RX6_104 (go_ hg).1 (go_ hg).2.1 (go_ hg).2.2 (by decide) rfl dX6_weigh_17 (Nat.le_of_ble_eq_true rfl) rfl rfl ?_
    refine g_iload_n X dX6_weigh_20 rfl rfl ?_
    refine g_icmp_ne X dX6_weigh_21 (tgt := 44) rfl rfl (fun c5 => ?_) (fun c5 => ?_)
    · replace h := if_f c5 h
      exact ok_Solver_weigh_b44 X Y hg ha hk8 σ3 h
    · replace h := if_t c5 h
      refine g_aload_n X dX6_weigh_24 rfl rfl ?_
      refine gf_RX6_9 X dX6_weigh_25 rfl ?_
      refine g_iload X dX6_weigh_28 rfl rfl ?_
      refine g_aload_n X dX6_weigh_30 rfl rfl ?_
      refine g_aload_n X dX6_weigh_31 rfl rfl ?_
      refine g_iload_n X dX6_weigh_32 rfl rfl ?_
      refine g_iload X dX6_weigh_33 rfl rfl ?_
      refine g_aload X dX6_weigh_35 rfl rfl ?_
      refine g_iload X dX6_weigh_37 rfl rfl ?_
      obtain ⟨c6, h⟩ := ck_e h
      refine g_lald X (isL_e ha).1 (isL_e ha).2.1 (isL_e ha).2.2 (ib_e c6) dX6_weigh_39 rfl ?_
      obtain ⟨r9, σ8, h7, h⟩ := bd_e h
      refine g_callVJ X [.ref (w.1 g), .int x2, .int x5, .long (rL σ3 a x5)] (ok_Solver_worthOf X.inj h7) my_yX6_worthOf mi_yX6_worthOf ms_yX6_worthOf ml_RX6_107 (by decide) rfl rfl (by decide) rfl dX6_weigh_40 (Nat.le_of_ble_eq_true rfl) rfl rfl ?_
      obtain ⟨c10, h⟩ := ck_e h
      refine g_last X ar_53.1 ar_53.2.1 ar_53.2.2 (ib_e c10) dX6_weigh_43 rfl (fun σ11 e12 => ?_)
      replace h := lE_c e12 h
      exact ok_Solver_weigh_b44 X Y hg ha hk8 σ11 h
def f_Solver_weigh_l8 (g : Nat) (a : Nat) : Int32 → Int32 → Int32 → St → Option St := lp (fun _ _ _ _ => none) (f_Solver_weigh_b8 g a) FU
theorem ok_Solver_weigh_l8 {E : gE} {w : wT} {σ' : St} (X : gC E w cX6_weigh 6 RX6 3) (Y : gQ E w none none σ') {g : Nat} (hg : isG g = true) {a : Nat} (ha : isL a = true) {x2 : Int32} {x3 : Int32} {x5 : Int32} (σ : St) (h : f_Solver_weigh_l8 g a x2 x3 x5 σ = some σ') : gW E w 6 σ 8 [some (.ref (w.1 6)), some (.ref (w.1 g)), some (.int x2), some (.int x3), some (.ref (w.1 a)), some (.int x5)] [] :=
  lp_ind (P := fun (k : Int32 → Int32 → Int32 → St → Option St) => ∀ (x2 : Int32) (x3 : Int32) (x5 : Int32) (σ : St), k x2 x3 x5 σ = some σ' → gW E w 6 σ 8 [some (.ref (w.1 6)), some (.ref (w.1 g)), some (.int x2), some (.int x3), some (.ref (w.1 a)), some (.int x5)] []) (fun _ _ _ _ hh => nn hh) (fun k hk x2 x3 x5 σ  hh => ok_Solver_weigh_b8 X Y hg ha hk σ hh) FU x2 x3 x5 σ  h

def f_Solver_weigh (g : Nat) (x2 : Int32) (x3 : Int32) (a : Nat) (σ : St) : Option St :=
  ck (isG g) <| ck (isL a) <| f_Solver_weigh_l8 g a x2 x3 ((rF σ (g + 10)) - 1) σ
set_option maxRecDepth 4000 in
theorem ok_Solver_weigh {w : wT} (hi : wInj w) {l : Launch} {g : Nat} {x2 : Int32} {x3 : Int32} {a : Nat} {σ σ' : St} (h : f_Solver_weigh g x2 x3 a σ = some σ') : gM w l yX6_weigh cX6_weigh 6 none 3 [.ref (w.1 6), .ref (w.1 g), .int x2, .int x3, .ref (w.1 a)] σ none σ' := by
  unfold f_Solver_weigh at h
  obtain ⟨hg, h⟩ := ck_e h
  obtain ⟨ha, h⟩ := ck_e h
  refine gM_of hi (by decide) [some (.ref (w.1 6)), some (.ref (w.1 g)), some (.int x2), some (.int x3), some (.ref (w.1 a))] rfl (Nat.le_of_ble_eq_true rfl) (fun E hl X Y => ?_)
  refine g_aload_n X dX6_weigh_0 rfl rfl ?_
  refine gf_RX6_64 hg X dX6_weigh_1 rfl ?_
  refine g_iconst X kI_1 dX6_weigh_4 rfl ?_
  refine g_isub X dX6_weigh_5 rfl ?_
  refine g_istore X [some (.ref (w.1 6)), some (.ref (w.1 g)), some (.int x2), some (.int x3), some (.ref (w.1 a)), some (.int ((rF σ (g + 10)) - 1))] dX6_weigh_6 (Nat.le_of_ble_eq_true rfl) rfl rfl rfl ?_
  exact ok_Solver_weigh_l8 X Y hg ha σ h

theorem dX6_solve_0 : decode cX6_solve 0 = .ok (.aload_n 0, 1) := by decide +kernel
theorem dX6_solve_1 : decode cX6_solve 1 = .ok (.aload_n 1, 1) := by decide +kernel
theorem dX6_solve_2 : decode cX6_solve 2 = .ok (.iload 4, 2) := by decide +kernel
theorem dX6_solve_4 : decode cX6_solve 4 = .ok (.invokevirtual 36, 3) := by decide +kernel
theorem dX6_solve_7 : decode cX6_solve 7 = .ok (.aload_n 1, 1) := by decide +kernel
theorem dX6_solve_8 : decode cX6_solve 8 = .ok (.iload_n 2, 1) := by decide +kernel
theorem dX6_solve_9 : decode cX6_solve 9 = .ok (.invokevirtual 40, 3) := by decide +kernel
theorem dX6_solve_12 : decode cX6_solve 12 = .ok (.istore 5, 2) := by decide +kernel
theorem dX6_solve_14 : decode cX6_solve 14 = .ok (.iload 5, 2) := by decide +kernel
theorem dX6_solve_16 : decode cX6_solve 16 = .ok (.ifCond .lt 34, 3) := by decide +kernel
theorem dX6_solve_19 : decode cX6_solve 19 = .ok (.aload_n 0, 1) := by decide +kernel
theorem dX6_solve_20 : decode cX6_solve 20 = .ok (.aload_n 1, 1) := by decide +kernel
theorem dX6_solve_21 : decode cX6_solve 21 = .ok (.iload_n 2, 1) := by decide +kernel
theorem dX6_solve_22 : decode cX6_solve 22 = .ok (.iload 5, 2) := by decide +kernel
theorem dX6_solve_24 : decode cX6_solve 24 = .ok (.invokevirtual 46, 3) := by decide +kernel
theorem dX6_solve_27 : decode cX6_solve 27 = .ok (.aload_n 0, 1) := by decide +kernel
theorem dX6_solve_28 : decode cX6_solve 28 = .ok (.aload_n 1, 1) := by decide +kernel
theorem dX6_solve_29 : decode cX6_solve 29 = .ok (.iload_n 2, 1) := by decide +kernel
theorem dX6_solve_30 : decode cX6_solve 30 = .ok (.iload 5, 2) := by decide +kernel
theorem dX6_solve_32 : decode cX6_solve 32 = .ok (.invokevirtual 50, 3) := by decide +kernel
theorem dX6_solve_35 : decode cX6_solve 35 = .ok (.aload_n 0, 1) := by decide +kernel
theorem dX6_solve_36 : decode cX6_solve 36 = .ok (.aload_n 1, 1) := by decide +kernel
theorem dX6_solve_37 : decode cX6_solve 37 = .ok (.iload_n 2, 1) := by decide +kernel
theorem dX6_solve_38 : decode cX6_solve 38 = .ok (.iload 5, 2) := by decide +kernel
theorem dX6_solve_40 : decode cX6_solve 40 = .ok (.aload_n 3, 1) := by decide +kernel
theorem dX6_solve_41 : decode cX6_solve 41 = .ok (.invokevirtual 53, 3) := by decide +kernel
theorem dX6_solve_44 : decode cX6_solve 44 = .ok (.iinc 5 (-1), 3) := by decide +kernel
theorem dX6_solve_47 : decode cX6_solve 47 = .ok (.goto (-33), 3) := by decide +kernel
theorem dX6_solve_50 : decode cX6_solve 50 = .ok (.aload_n 0, 1) := by decide +kernel
theorem dX6_solve_51 : decode cX6_solve 51 = .ok (.getfield 9, 3) := by decide +kernel
theorem dX6_solve_54 : decode cX6_solve 54 = .ok (.iconst 0, 1) := by decide +kernel
theorem dX6_solve_55 : decode cX6_solve 55 = .ok (.laload, 1) := by decide +kernel
theorem dX6_solve_56 : decode cX6_solve 56 = .ok (.lreturn, 1) := by decide +kernel
def f_Solver_solve_b14 (g : Nat) (a : Nat) (k14 : Int32 → Int32 → St → Option (Int64 × St)) (x2 : Int32) (x5 : Int32) (σ : St) : Option (Int64 × St) :=
  if x5 < 0 then (ck (ib 0 60) <| some (rL σ 53 0, σ)) else (bv (f_Solver_addUp g x2 x5 σ) fun σ4 => bv (f_Solver_chooseActs g x2 x5 σ4) fun σ6 => bv (f_Solver_weigh g x2 x5 a σ6) fun σ8 => k14 x2 (x5 + (-1)) σ8)
set_option maxRecDepth 4000 in
theorem ok_Solver_solve_b14 {E : gE} {w : wT} {σ' : St} {r : Int64} (X : gC E w cX6_solve 6 RX6 4) (Y : gQ E w (some .long) (some (.long r)) σ') {g : Nat} (hg : isG g = true) {a : Nat} (ha : isL a = true) {k14 : Int32 → Int32 → St → Option (Int64 × St)} (hk14 : ∀ (x2 : Int32) (x5 : Int32) (σ : St), k14 x2 x5 σ = some (r, σ') → gW E w 6 σ 14 [some (.ref (w.1 6)), some (.ref (w.1 g)), some (.int x2), some (.ref (w.1 a)), none, some (.int x5)] []) {x2 : Int32} {x5 : Int32} (σ : St) (h : f_Solver_solve_b14 g a k14 x2 x5 σ = some (r, σ')) : gW E w 6 σ 14 [some (.ref (w.1 6)), some (.ref (w.1 g)), some (.int x2), some (.ref (w.1 a)), none, some (.int x5)] [] := by
  unfold f_Solver_solve_b14 at h
  refine g_iload X dX6_solve_14 rfl rfl ?_
  refine g_if_lt X dX6_solve_16 (tgt := 50) rfl rfl (fun c1 => ?_) (fun c1 => ?_)
  · replace h := if_t c1 h
    refine g_aload_n X dX6_solve_50 rfl rfl ?_
    refine gf_RX6_9 X dX6_solve_51 rfl ?_
    refine g_iconst X kI_0 dX6_solve_54 rfl ?_
    obtain ⟨c2, h⟩ := ck_e h
    refine g_lald X ar_53.1 ar_53.2.1 ar_53.2.2 (ib_e c2) dX6_solve_55 rfl ?_
    obtain ⟨rfl, rfl⟩ := rt_e h
    exact g_lret X Y dX6_solve_56
  · replace h := if_f c1 h
    refine g_aload_n X dX6_solve_19 rfl rfl ?_
    refine g_aload_n X dX6_solve_20 rfl rfl ?_
    refine g_iload_n X dX6_solve_21 rfl rfl ?_
    refine g_iload X dX6_solve_22 rfl rfl ?_
    obtain ⟨σ4, h3, h⟩ := bv_e h
    refine g_callVV X [.ref (w.1 g), .int x2, .int x5] (ok_Solver_addUp X.inj h3) my_yX6_addUp mi_yX6_addUp ms_yX6_addUp ml_RX6_46 (by decide) rfl rfl (by decide) rfl dX6_solve_24 (Nat.le_of_ble_eq_true rfl) rfl rfl ?_
    refine g_aload_n X dX6_solve_27 rfl rfl ?_
    refine g_aload_n X dX6_solve_28 rfl rfl ?_
    refine g_iload_n X dX6_solve_29 rfl rfl ?_
    refine g_iload X dX6_solve_30 rfl rfl ?_
    obtain ⟨σ6, h5, h⟩ := bv_e h
    refine g_callVV X [.ref (w.1 g), .int x2, .int x5] (ok_Solver_chooseActs X.inj h5) my_yX6_chooseActs mi_yX6_chooseActs ms_yX6_chooseActs ml_RX6_50 (by decide) rfl rfl (by decide) rfl dX6_solve_32 (Nat.le_of_ble_eq_true rfl) rfl rfl ?_
    refine g_aload_n X dX6_solve_35 rfl rfl ?_
    refine g_aload_n X dX6_solve_36 rfl rfl ?_
    refine g_iload_n X dX6_solve_37 rfl rfl ?_
    refine g_iload X dX6_solve_38 rfl rfl ?_
    refine g_aload_n X dX6_solve_40 rfl rfl ?_
    obtain ⟨σ8, h7, h⟩ := bv_e h
    refine g_callVV X [.ref (w.1 g), .int x2, .int x5, .ref (w.1 a)] (ok_Solver_weigh X.inj h7) my_yX6_weigh mi_yX6_weigh ms_yX6_weigh ml_RX6_53 (by decide) rfl rfl (by decide) rfl dX6_solve_41 (Nat.le_of_ble_eq_true rfl) rfl rfl ?_
    refine g_iinc X [some (.ref (w.1 6)), some (.ref (w.1 g)), some (.int x2), some (.ref (w.1 a)), none, some (.int (x5 + (-1)))] dX6_solve_44 rfl (ii_m1 x5) (Nat.le_of_ble_eq_true rfl) rfl rfl rfl ?_
    refine g_goto X dX6_solve_47 (tgt := 14) rfl ?_
    exact hk14 x2 (x5 + (-1)) σ8 h
def f_Solver_solve_l14 (g : Nat) (a : Nat) : Int32 → Int32 → St → Option (Int64 × St) := lp (fun _ _ _ => none) (f_Solver_solve_b14 g a) FU
theorem ok_Solver_solve_l14 {E : gE} {w : wT} {σ' : St} {r : Int64} (X : gC E w cX6_solve 6 RX6 4) (Y : gQ E w (some .long) (some (.long r)) σ') {g : Nat} (hg : isG g = true) {a : Nat} (ha : isL a = true) {x2 : Int32} {x5 : Int32} (σ : St) (h : f_Solver_solve_l14 g a x2 x5 σ = some (r, σ')) : gW E w 6 σ 14 [some (.ref (w.1 6)), some (.ref (w.1 g)), some (.int x2), some (.ref (w.1 a)), none, some (.int x5)] [] :=
  lp_ind (P := fun (k : Int32 → Int32 → St → Option (Int64 × St)) => ∀ (x2 : Int32) (x5 : Int32) (σ : St), k x2 x5 σ = some (r, σ') → gW E w 6 σ 14 [some (.ref (w.1 6)), some (.ref (w.1 g)), some (.int x2), some (.ref (w.1 a)), none, some (.int x5)] []) (fun _ _ _ hh => nn hh) (fun k hk x2 x5 σ  hh => ok_Solver_solve_b14 X Y hg ha hk σ hh) FU x2 x5 σ  h

def f_Solver_solve (g : Nat) (x2 : Int32) (a : Nat) (x4 : Int32) (σ : St) : Option (Int64 × St) :=
  ck (isG g) <| ck (isL a) <| bv (f_Solver_tellGroups g x4 σ) fun σ2 => bd (f_Game_mostOwnActs g x2 σ2) fun r5 σ4 => f_Solver_solve_l14 g a x2 r5 σ4
set_option maxRecDepth 4000 in
theorem ok_Solver_solve {w : wT} (hi : wInj w) {l : Launch} {g : Nat} {x2 : Int32} {a : Nat} {x4 : Int32} {σ σ' : St} {r : Int64} (h : f_Solver_solve g x2 a x4 σ = some (r, σ')) : gM w l yX6_solve cX6_solve 6 (some .long) 4 [.ref (w.1 6), .ref (w.1 g), .int x2, .ref (w.1 a), .int x4] σ (some (.long r)) σ' := by
  unfold f_Solver_solve at h
  obtain ⟨hg, h⟩ := ck_e h
  obtain ⟨ha, h⟩ := ck_e h
  refine gM_of hi (by decide) [some (.ref (w.1 6)), some (.ref (w.1 g)), some (.int x2), some (.ref (w.1 a)), some (.int x4)] rfl (Nat.le_of_ble_eq_true rfl) (fun E hl X Y => ?_)
  refine g_aload_n X dX6_solve_0 rfl rfl ?_
  refine g_aload_n X dX6_solve_1 rfl rfl ?_
  refine g_iload X dX6_solve_2 rfl rfl ?_
  obtain ⟨σ2, h1, h⟩ := bv_e h
  refine g_callVV X [.ref (w.1 g), .int x4] (ok_Solver_tellGroups X.inj h1) my_yX6_tellGroups mi_yX6_tellGroups ms_yX6_tellGroups ml_RX6_36 (by decide) rfl rfl (by decide) rfl dX6_solve_4 (Nat.le_of_ble_eq_true rfl) rfl rfl ?_
  refine g_aload_n X dX6_solve_7 rfl rfl ?_
  refine g_iload_n X dX6_solve_8 rfl rfl ?_
  obtain ⟨r5, σ4, h3, h⟩ := bd_e h
  refine g_callVI X [.int x2] (ok_Game_mostOwnActs X.inj h3) my_yX1_mostOwnActs mi_yX1_mostOwnActs ms_yX1_mostOwnActs ml_RX6_40 (go_ hg).1 (go_ hg).2.1 (go_ hg).2.2 (by decide) rfl dX6_solve_9 (Nat.le_of_ble_eq_true rfl) rfl rfl ?_
  refine g_istore X [some (.ref (w.1 6)), some (.ref (w.1 g)), some (.int x2), some (.ref (w.1 a)), some (.int x4), some (.int r5)] dX6_solve_12 (Nat.le_of_ble_eq_true rfl) rfl rfl rfl ?_
  exact g_le (lle_s (lle_s (lle_s (lle_s (lle_k (lle_s (lle_0))))))) (ok_Solver_solve_l14 X Y hg ha σ4 h)

theorem dX8_valueOfAnswer_0 : decode cX8_valueOfAnswer 0 = .ok (.aload_n 0, 1) := by decide +kernel
theorem dX8_valueOfAnswer_1 : decode cX8_valueOfAnswer 1 = .ok (.getfield 33, 3) := by decide +kernel
theorem dX8_valueOfAnswer_4 : decode cX8_valueOfAnswer 4 = .ok (.aload_n 0, 1) := by decide +kernel
theorem dX8_valueOfAnswer_5 : decode cX8_valueOfAnswer 5 = .ok (.getfield 65, 3) := by decide +kernel
theorem dX8_valueOfAnswer_8 : decode cX8_valueOfAnswer 8 = .ok (.iload_n 1, 1) := by decide +kernel
theorem dX8_valueOfAnswer_9 : decode cX8_valueOfAnswer 9 = .ok (.aload_n 0, 1) := by decide +kernel
theorem dX8_valueOfAnswer_10 : decode cX8_valueOfAnswer 10 = .ok (.getfield 58, 3) := by decide +kernel
theorem dX8_valueOfAnswer_13 : decode cX8_valueOfAnswer 13 = .ok (.invokevirtual 216, 3) := by decide +kernel
theorem dX8_valueOfAnswer_16 : decode cX8_valueOfAnswer 16 = .ok (.aload_n 0, 1) := by decide +kernel
theorem dX8_valueOfAnswer_17 : decode cX8_valueOfAnswer 17 = .ok (.getfield 40, 3) := by decide +kernel
theorem dX8_valueOfAnswer_20 : decode cX8_valueOfAnswer 20 = .ok (.aload_n 0, 1) := by decide +kernel
theorem dX8_valueOfAnswer_21 : decode cX8_valueOfAnswer 21 = .ok (.getfield 65, 3) := by decide +kernel
theorem dX8_valueOfAnswer_24 : decode cX8_valueOfAnswer 24 = .ok (.iload_n 1, 1) := by decide +kernel
theorem dX8_valueOfAnswer_25 : decode cX8_valueOfAnswer 25 = .ok (.aload_n 0, 1) := by decide +kernel
theorem dX8_valueOfAnswer_26 : decode cX8_valueOfAnswer 26 = .ok (.getfield 58, 3) := by decide +kernel
theorem dX8_valueOfAnswer_29 : decode cX8_valueOfAnswer 29 = .ok (.ldc 215, 2) := by decide +kernel
theorem dX8_valueOfAnswer_31 : decode cX8_valueOfAnswer 31 = .ok (.invokevirtual 234, 3) := by decide +kernel
theorem dX8_valueOfAnswer_34 : decode cX8_valueOfAnswer 34 = .ok (.lreturn, 1) := by decide +kernel
def f_HG_valueOfAnswer (x1 : Int32) (σ : St) : Option (Int64 × St) :=
  bv (f_Plan_workOut 4 (rR σ 0) x1 46 σ) fun σ2 => bd (f_Solver_solve (rR σ2 0) x1 46 ((-1000000)) σ2) fun r5 σ4 => some (r5, σ4)
set_option maxRecDepth 4000 in
theorem ok_HG_valueOfAnswer {w : wT} (hi : wInj w) {l : Launch} {x1 : Int32} {σ σ' : St} {r : Int64} (h : f_HG_valueOfAnswer x1 σ = some (r, σ')) : gM w l yX8_valueOfAnswer cX8_valueOfAnswer 2 (some .long) 5 [.ref (w.1 0), .int x1] σ (some (.long r)) σ' := by
  unfold f_HG_valueOfAnswer at h
  refine gM_of hi (by decide) [some (.ref (w.1 0)), some (.int x1)] rfl (Nat.le_of_ble_eq_true rfl) (fun E hl X Y => ?_)
  refine g_aload_n X dX8_valueOfAnswer_0 rfl rfl ?_
  refine gf_RX8_33 X dX8_valueOfAnswer_1 rfl ?_
  refine g_aload_n X dX8_valueOfAnswer_4 rfl rfl ?_
  refine gf_RX8_65 X dX8_valueOfAnswer_5 rfl ?_
  refine g_iload_n X dX8_valueOfAnswer_8 rfl rfl ?_
  refine g_aload_n X dX8_valueOfAnswer_9 rfl rfl ?_
  refine gf_RX8_58 X dX8_valueOfAnswer_10 rfl ?_
  obtain ⟨σ2, h1, h⟩ := bv_e h
  refine g_callVV X [.ref (w.1 (rR σ 0)), .int x1, .ref (w.1 46)] (ok_Plan_workOut X.inj h1) my_yX3_workOut mi_yX3_workOut ms_yX3_workOut ml_RX8_216 (po_ (by decide : isP 4 = true)).1 (po_ (by decide : isP 4 = true)).2.1 (po_ (by decide : isP 4 = true)).2.2 (by decide) rfl dX8_valueOfAnswer_13 (Nat.le_of_ble_eq_true rfl) rfl rfl ?_
  refine g_aload_n X dX8_valueOfAnswer_16 rfl rfl ?_
  refine gf_RX8_40 X dX8_valueOfAnswer_17 rfl ?_
  refine g_aload_n X dX8_valueOfAnswer_20 rfl rfl ?_
  refine gf_RX8_65 X dX8_valueOfAnswer_21 rfl ?_
  refine g_iload_n X dX8_valueOfAnswer_24 rfl rfl ?_
  refine g_aload_n X dX8_valueOfAnswer_25 rfl rfl ?_
  refine gf_RX8_58 X dX8_valueOfAnswer_26 rfl ?_
  refine g_ldc X dX8_valueOfAnswer_29 kc_RX8_215 rfl ?_
  obtain ⟨r5, σ4, h3, h⟩ := bd_e h
  refine g_callVJ X [.ref (w.1 (rR σ2 0)), .int x1, .ref (w.1 46), .int ((-1000000))] (ok_Solver_solve X.inj h3) my_yX6_solve mi_yX6_solve ms_yX6_solve ml_RX8_234 (by decide) rfl rfl (by decide) rfl dX8_valueOfAnswer_31 (Nat.le_of_ble_eq_true rfl) rfl rfl ?_
  obtain ⟨rfl, rfl⟩ := rt_e h
  exact g_lret X Y dX8_valueOfAnswer_34

theorem dX8_best_0 : decode cX8_best 0 = .ok (.iload_n 1, 1) := by decide +kernel
theorem dX8_best_1 : decode cX8_best 1 = .ok (.invokestatic 178, 3) := by decide +kernel
theorem dX8_best_4 : decode cX8_best 4 = .ok (.ifCond .eq 12, 3) := by decide +kernel
theorem dX8_best_7 : decode cX8_best 7 = .ok (.iload_n 2, 1) := by decide +kernel
theorem dX8_best_8 : decode cX8_best 8 = .ok (.ifCond .lt 8, 3) := by decide +kernel
theorem dX8_best_11 : decode cX8_best 11 = .ok (.iload_n 2, 1) := by decide +kernel
theorem dX8_best_12 : decode cX8_best 12 = .ok (.iconst 2, 1) := by decide +kernel
theorem dX8_best_13 : decode cX8_best 13 = .ok (.if_icmp .le 7, 3) := by decide +kernel
theorem dX8_best_16 : decode cX8_best 16 = .ok (.ldc2_w 83, 3) := by decide +kernel
theorem dX8_best_19 : decode cX8_best 19 = .ok (.lreturn, 1) := by decide +kernel
theorem dX8_best_20 : decode cX8_best 20 = .ok (.iload_n 2, 1) := by decide +kernel
theorem dX8_best_21 : decode cX8_best 21 = .ok (.iconst 2, 1) := by decide +kernel
theorem dX8_best_22 : decode cX8_best 22 = .ok (.if_icmp .ne 9, 3) := by decide +kernel
theorem dX8_best_25 : decode cX8_best 25 = .ok (.iconst 1, 1) := by decide +kernel
theorem dX8_best_26 : decode cX8_best 26 = .ok (.iload_n 1, 1) := by decide +kernel
theorem dX8_best_27 : decode cX8_best 27 = .ok (.isub, 1) := by decide +kernel
theorem dX8_best_28 : decode cX8_best 28 = .ok (.goto 4, 3) := by decide +kernel
theorem dX8_best_31 : decode cX8_best 31 = .ok (.iload_n 1, 1) := by decide +kernel
theorem dX8_best_32 : decode cX8_best 32 = .ok (.istore_n 3, 1) := by decide +kernel
theorem dX8_best_33 : decode cX8_best 33 = .ok (.aload_n 0, 1) := by decide +kernel
theorem dX8_best_34 : decode cX8_best 34 = .ok (.invokevirtual 205, 3) := by decide +kernel
theorem dX8_best_37 : decode cX8_best 37 = .ok (.ifCond .eq 15, 3) := by decide +kernel
theorem dX8_best_40 : decode cX8_best 40 = .ok (.aload_n 0, 1) := by decide +kernel
theorem dX8_best_41 : decode cX8_best 41 = .ok (.getfield 65, 3) := by decide +kernel
theorem dX8_best_44 : decode cX8_best 44 = .ok (.getfield 181, 3) := by decide +kernel
theorem dX8_best_47 : decode cX8_best 47 = .ok (.iload_n 3, 1) := by decide +kernel
theorem dX8_best_48 : decode cX8_best 48 = .ok (.baload, 1) := by decide +kernel
theorem dX8_best_49 : decode cX8_best 49 = .ok (.ifCond .eq 7, 3) := by decide +kernel
theorem dX8_best_52 : decode cX8_best 52 = .ok (.ldc2_w 213, 3) := by decide +kernel
theorem dX8_best_55 : decode cX8_best 55 = .ok (.lreturn, 1) := by decide +kernel
theorem dX8_best_56 : decode cX8_best 56 = .ok (.aload_n 0, 1) := by decide +kernel
theorem dX8_best_57 : decode cX8_best 57 = .ok (.iload_n 3, 1) := by decide +kernel
theorem dX8_best_58 : decode cX8_best 58 = .ok (.invokevirtual 220, 3) := by decide +kernel
theorem dX8_best_61 : decode cX8_best 61 = .ok (.lstore 4, 2) := by decide +kernel
theorem dX8_best_63 : decode cX8_best 63 = .ok (.iload_n 2, 1) := by decide +kernel
theorem dX8_best_64 : decode cX8_best 64 = .ok (.ifCond .ne 8, 3) := by decide +kernel
theorem dX8_best_67 : decode cX8_best 67 = .ok (.lload 4, 2) := by decide +kernel
theorem dX8_best_69 : decode cX8_best 69 = .ok (.goto 13, 3) := by decide +kernel
theorem dX8_best_72 : decode cX8_best 72 = .ok (.iload_n 3, 1) := by decide +kernel
theorem dX8_best_73 : decode cX8_best 73 = .ok (.aload_n 0, 1) := by decide +kernel
theorem dX8_best_74 : decode cX8_best 74 = .ok (.invokevirtual 209, 3) := by decide +kernel
theorem dX8_best_77 : decode cX8_best 77 = .ok (.lload 4, 2) := by decide +kernel
theorem dX8_best_79 : decode cX8_best 79 = .ok (.invokestatic 223, 3) := by decide +kernel
theorem dX8_best_82 : decode cX8_best 82 = .ok (.lreturn, 1) := by decide +kernel
def f_HG_best_b32 (x2 : Int32) (xs0 : Int32) (σ : St) : Option (Int64 × St) :=
  bd (f_HG_hasGame σ) fun r3 σ2 => if r3 = 0 then (some ((-9000000000000000002), σ2)) else (ck (isG (rR σ2 0)) <| ck (ib xs0 2) <| if (rI σ2 ((rR σ2 0) + 17) xs0) = 0 then (bd (f_HG_valueOfAnswer xs0 σ2) fun r10 σ9 => if x2 = 0 then (some (r10, σ9)) else (bd (f_HG_valueOfPlan σ9) fun r14 σ13 => bd (f_HG_gainOf xs0 r14 r10 σ13) fun r17 σ16 => some (r17, σ16))) else (some ((-9000000000000000002), σ2)))
set_option maxRecDepth 4000 in
theorem ok_HG_best_b32 {E : gE} {w : wT} {σ' : St} {r : Int64} (X : gC E w cX8_best 6 RX8 6) (Y : gQ E w (some .long) (some (.long r)) σ') {x2 : Int32} {xs0 : Int32} (σ : St) (h : f_HG_best_b32 x2 xs0 σ = some (r, σ')) : gW E w 6 σ 32 [some (.ref (w.1 0)), none, some (.int x2)] [.int xs0] := by
  unfold f_HG_best_b32 at h
  refine g_istore_n X [some (.ref (w.1 0)), none, some (.int x2), some (.int xs0)] dX8_best_32 (Nat.le_of_ble_eq_true rfl) rfl rfl rfl ?_
  refine g_aload_n X dX8_best_33 rfl rfl ?_
  obtain ⟨r3, σ2, h1, h⟩ := bd_e h
  refine g_callVI X [] (ok_HG_hasGame X.inj h1) my_yX8_hasGame mi_yX8_hasGame ms_yX8_hasGame ml_RX8_205 (by decide) rfl rfl (by decide) rfl dX8_best_34 (Nat.le_of_ble_eq_true rfl) rfl rfl ?_
  refine g_if_eq X dX8_best_37 (tgt := 52) rfl rfl (fun c4 => ?_) (fun c4 => ?_)
  · replace h := if_t c4 h
    refine g_ldc2 X dX8_best_52 kc_RX8_213 rfl ?_
    obtain ⟨rfl, rfl⟩ := rt_e h
    exact g_lret X Y dX8_best_55
  · replace h := if_f c4 h
    refine g_aload_n X dX8_best_40 rfl rfl ?_
    refine gf_RX8_65 X dX8_best_41 rfl ?_
    obtain ⟨c5, h⟩ := ck_e h
    refine gf_RX8_181 c5 X dX8_best_44 rfl ?_
    refine g_iload_n X dX8_best_47 rfl rfl ?_
    obtain ⟨c6, h⟩ := ck_e h
    refine g_zald X (ga_17 c5).1 (ga_17 c5).2.1 (ga_17 c5).2.2 (ib_e c6) dX8_best_48 rfl ?_
    refine g_if_eq X dX8_best_49 (tgt := 56) rfl rfl (fun c7 => ?_) (fun c7 => ?_)
    · replace h := if_t c7 h
      refine g_aload_n X dX8_best_56 rfl rfl ?_
      refine g_iload_n X dX8_best_57 rfl rfl ?_
      obtain ⟨r10, σ9, h8, h⟩ := bd_e h
      refine g_callVJ X [.int xs0] (ok_HG_valueOfAnswer X.inj h8) my_yX8_valueOfAnswer mi_yX8_valueOfAnswer ms_yX8_valueOfAnswer ml_RX8_220 (by decide) rfl rfl (by decide) rfl dX8_best_58 (Nat.le_of_ble_eq_true rfl) rfl rfl ?_
      refine g_lstore X [some (.ref (w.1 0)), none, some (.int x2), some (.int xs0), some (.long r10), none] dX8_best_61 (Nat.le_of_ble_eq_true rfl) rfl rfl rfl ?_
      refine g_iload_n X dX8_best_63 rfl rfl ?_
      refine g_if_ne X dX8_best_64 (tgt := 72) rfl rfl (fun c11 => ?_) (fun c11 => ?_)
      · replace h := if_f c11 h
        refine g_iload_n X dX8_best_72 rfl rfl ?_
        refine g_aload_n X dX8_best_73 rfl rfl ?_
        obtain ⟨r14, σ13, h12, h⟩ := bd_e h
        refine g_callVJ X [] (ok_HG_valueOfPlan X.inj h12) my_yX8_valueOfPlan mi_yX8_valueOfPlan ms_yX8_valueOfPlan ml_RX8_209 (by decide) rfl rfl (by decide) rfl dX8_best_74 (Nat.le_of_ble_eq_true rfl) rfl rfl ?_
        refine g_lload X dX8_best_77 rfl rfl ?_
        obtain ⟨r17, σ16, h15, h⟩ := bd_e h
        refine g_callSJ X [.int xs0, .long r14, .long r10] (ok_HG_gainOf X.inj h15) my_yX8_gainOf mt_yX8_gainOf ml_RX8_223 (by decide) rfl dX8_best_79 (Nat.le_of_ble_eq_true rfl) rfl rfl ?_
        obtain ⟨rfl, rfl⟩ := rt_e h
        exact g_lret X Y dX8_best_82
      · replace h := if_t c11 h
        refine g_lload X dX8_best_67 rfl rfl ?_
        refine g_goto X dX8_best_69 (tgt := 82) rfl ?_
        obtain ⟨rfl, rfl⟩ := rt_e h
        exact g_lret X Y dX8_best_82
    · replace h := if_f c7 h
      refine g_ldc2 X dX8_best_52 kc_RX8_213 rfl ?_
      obtain ⟨rfl, rfl⟩ := rt_e h
      exact g_lret X Y dX8_best_55

def f_HG_best (x1 : Int32) (x2 : Int32) (σ : St) : Option (Int64 × St) :=
  bd (f_HG_isPlayer x1 σ) fun r3 σ2 => if r3 = 0 then (some ((-9000000000000000001), σ2)) else (if x2 < 0 then (some ((-9000000000000000001), σ2)) else (if x2 ≤ 2 then (if x2 = 2 then (f_HG_best_b32 x2 (1 - x1) σ2) else (f_HG_best_b32 x2 x1 σ2)) else (some ((-9000000000000000001), σ2))))
set_option maxRecDepth 4000 in
theorem ok_HG_best {w : wT} (hi : wInj w) {l : Launch} {x1 : Int32} {x2 : Int32} {σ σ' : St} {r : Int64} (h : f_HG_best x1 x2 σ = some (r, σ')) : gM w l yX8_best cX8_best 6 (some .long) 6 [.ref (w.1 0), .int x1, .int x2] σ (some (.long r)) σ' := by
  unfold f_HG_best at h
  refine gM_of hi (by decide) [some (.ref (w.1 0)), some (.int x1), some (.int x2)] rfl (Nat.le_of_ble_eq_true rfl) (fun E hl X Y => ?_)
  refine g_iload_n X dX8_best_0 rfl rfl ?_
  obtain ⟨r3, σ2, h1, h⟩ := bd_e h
  refine g_callSI X [.int x1] (ok_HG_isPlayer X.inj h1) my_yX8_isPlayer mt_yX8_isPlayer ml_RX8_178 (by decide) rfl dX8_best_1 (Nat.le_of_ble_eq_true rfl) rfl rfl ?_
  refine g_if_eq X dX8_best_4 (tgt := 16) rfl rfl (fun c4 => ?_) (fun c4 => ?_)
  · replace h := if_t c4 h
    refine g_ldc2 X dX8_best_16 kc_RX8_83 rfl ?_
    obtain ⟨rfl, rfl⟩ := rt_e h
    exact g_lret X Y dX8_best_19
  · replace h := if_f c4 h
    refine g_iload_n X dX8_best_7 rfl rfl ?_
    refine g_if_lt X dX8_best_8 (tgt := 16) rfl rfl (fun c5 => ?_) (fun c5 => ?_)
    · replace h := if_t c5 h
      refine g_ldc2 X dX8_best_16 kc_RX8_83 rfl ?_
      obtain ⟨rfl, rfl⟩ := rt_e h
      exact g_lret X Y dX8_best_19
    · replace h := if_f c5 h
      refine g_iload_n X dX8_best_11 rfl rfl ?_
      refine g_iconst X kI_2 dX8_best_12 rfl ?_
      refine g_icmp_le X dX8_best_13 (tgt := 20) rfl rfl (fun c6 => ?_) (fun c6 => ?_)
      · replace h := if_t c6 h
        refine g_iload_n X dX8_best_20 rfl rfl ?_
        refine g_iconst X kI_2 dX8_best_21 rfl ?_
        refine g_icmp_ne X dX8_best_22 (tgt := 31) rfl rfl (fun c7 => ?_) (fun c7 => ?_)
        · replace h := if_f c7 h
          refine g_iload_n X dX8_best_31 rfl rfl ?_
          exact g_le (lle_s (lle_k (lle_s (lle_0)))) (ok_HG_best_b32 X Y σ2 h)
        · replace h := if_t c7 h
          refine g_iconst X kI_1 dX8_best_25 rfl ?_
          refine g_iload_n X dX8_best_26 rfl rfl ?_
          refine g_isub X dX8_best_27 rfl ?_
          refine g_goto X dX8_best_28 (tgt := 32) rfl ?_
          exact g_le (lle_s (lle_k (lle_s (lle_0)))) (ok_HG_best_b32 X Y σ2 h)
      · replace h := if_f c6 h
        refine g_ldc2 X dX8_best_16 kc_RX8_83 rfl ?_
        obtain ⟨rfl, rfl⟩ := rt_e h
        exact g_lret X Y dX8_best_19

theorem dX6_actOf_0 : decode cX6_actOf 0 = .ok (.aload_n 0, 1) := by decide +kernel
theorem dX6_actOf_1 : decode cX6_actOf 1 = .ok (.getfield 19, 3) := by decide +kernel
theorem dX6_actOf_4 : decode cX6_actOf 4 = .ok (.aload_n 1, 1) := by decide +kernel
theorem dX6_actOf_5 : decode cX6_actOf 5 = .ok (.getfield 61, 3) := by decide +kernel
theorem dX6_actOf_8 : decode cX6_actOf 8 = .ok (.iload_n 2, 1) := by decide +kernel
theorem dX6_actOf_9 : decode cX6_actOf 9 = .ok (.iaload, 1) := by decide +kernel
theorem dX6_actOf_10 : decode cX6_actOf 10 = .ok (.iaload, 1) := by decide +kernel
theorem dX6_actOf_11 : decode cX6_actOf 11 = .ok (.ireturn, 1) := by decide +kernel
def f_Solver_actOf (g : Nat) (x2 : Int32) (σ : St) : Option (Int32 × St) :=
  ck (isG g) <| ck (ib x2 10) <| ck (ib (rI σ (g + 16) x2) 60) <| some (rI σ 55 (rI σ (g + 16) x2), σ)
set_option maxRecDepth 4000 in
theorem ok_Solver_actOf {w : wT} (hi : wInj w) {l : Launch} {g : Nat} {x2 : Int32} {σ σ' : St} {r : Int32} (h : f_Solver_actOf g x2 σ = some (r, σ')) : gM w l yX6_actOf cX6_actOf 3 (some .int) 1 [.ref (w.1 6), .ref (w.1 g), .int x2] σ (some (.int r)) σ' := by
  unfold f_Solver_actOf at h
  obtain ⟨hg, h⟩ := ck_e h
  refine gM_of hi (by decide) [some (.ref (w.1 6)), some (.ref (w.1 g)), some (.int x2)] rfl (Nat.le_of_ble_eq_true rfl) (fun E hl X Y => ?_)
  refine g_aload_n X dX6_actOf_0 rfl rfl ?_
  refine gf_RX6_19 X dX6_actOf_1 rfl ?_
  refine g_aload_n X dX6_actOf_4 rfl rfl ?_
  refine gf_RX6_61 hg X dX6_actOf_5 rfl ?_
  refine g_iload_n X dX6_actOf_8 rfl rfl ?_
  obtain ⟨c1, h⟩ := ck_e h
  refine g_iald X (ga_16 hg).1 (ga_16 hg).2.1 (ga_16 hg).2.2 (ib_e c1) dX6_actOf_9 rfl ?_
  obtain ⟨c2, h⟩ := ck_e h
  refine g_iald X ar_55.1 ar_55.2.1 ar_55.2.2 (ib_e c2) dX6_actOf_10 rfl ?_
  obtain ⟨rfl, rfl⟩ := rt_e h
  exact g_iret X Y dX6_actOf_11

theorem dX8_answer_0 : decode cX8_answer 0 = .ok (.aload_n 0, 1) := by decide +kernel
theorem dX8_answer_1 : decode cX8_answer 1 = .ok (.iload_n 1, 1) := by decide +kernel
theorem dX8_answer_2 : decode cX8_answer 2 = .ok (.invokevirtual 185, 3) := by decide +kernel
theorem dX8_answer_5 : decode cX8_answer 5 = .ok (.ifCond .ne 7, 3) := by decide +kernel
theorem dX8_answer_8 : decode cX8_answer 8 = .ok (.ldc2_w 83, 3) := by decide +kernel
theorem dX8_answer_11 : decode cX8_answer 11 = .ok (.lreturn, 1) := by decide +kernel
theorem dX8_answer_12 : decode cX8_answer 12 = .ok (.aload_n 0, 1) := by decide +kernel
theorem dX8_answer_13 : decode cX8_answer 13 = .ok (.getfield 65, 3) := by decide +kernel
theorem dX8_answer_16 : decode cX8_answer 16 = .ok (.getfield 169, 3) := by decide +kernel
theorem dX8_answer_19 : decode cX8_answer 19 = .ok (.iload_n 1, 1) := by decide +kernel
theorem dX8_answer_20 : decode cX8_answer 20 = .ok (.iaload, 1) := by decide +kernel
theorem dX8_answer_21 : decode cX8_answer 21 = .ok (.istore_n 2, 1) := by decide +kernel
theorem dX8_answer_22 : decode cX8_answer 22 = .ok (.aload_n 0, 1) := by decide +kernel
theorem dX8_answer_23 : decode cX8_answer 23 = .ok (.getfield 65, 3) := by decide +kernel
theorem dX8_answer_26 : decode cX8_answer 26 = .ok (.getfield 181, 3) := by decide +kernel
theorem dX8_answer_29 : decode cX8_answer 29 = .ok (.iload_n 2, 1) := by decide +kernel
theorem dX8_answer_30 : decode cX8_answer 30 = .ok (.baload, 1) := by decide +kernel
theorem dX8_answer_31 : decode cX8_answer 31 = .ok (.ifCond .eq 7, 3) := by decide +kernel
theorem dX8_answer_34 : decode cX8_answer 34 = .ok (.ldc2_w 213, 3) := by decide +kernel
theorem dX8_answer_37 : decode cX8_answer 37 = .ok (.lreturn, 1) := by decide +kernel
theorem dX8_answer_38 : decode cX8_answer 38 = .ok (.aload_n 0, 1) := by decide +kernel
theorem dX8_answer_39 : decode cX8_answer 39 = .ok (.iload_n 2, 1) := by decide +kernel
theorem dX8_answer_40 : decode cX8_answer 40 = .ok (.invokevirtual 220, 3) := by decide +kernel
theorem dX8_answer_43 : decode cX8_answer 43 = .ok (.pop2, 1) := by decide +kernel
theorem dX8_answer_44 : decode cX8_answer 44 = .ok (.aload_n 0, 1) := by decide +kernel
theorem dX8_answer_45 : decode cX8_answer 45 = .ok (.getfield 40, 3) := by decide +kernel
theorem dX8_answer_48 : decode cX8_answer 48 = .ok (.aload_n 0, 1) := by decide +kernel
theorem dX8_answer_49 : decode cX8_answer 49 = .ok (.getfield 65, 3) := by decide +kernel
theorem dX8_answer_52 : decode cX8_answer 52 = .ok (.iload_n 1, 1) := by decide +kernel
theorem dX8_answer_53 : decode cX8_answer 53 = .ok (.invokevirtual 227, 3) := by decide +kernel
theorem dX8_answer_56 : decode cX8_answer 56 = .ok (.i2l, 1) := by decide +kernel
theorem dX8_answer_57 : decode cX8_answer 57 = .ok (.lreturn, 1) := by decide +kernel
def f_HG_answer (x1 : Int32) (σ : St) : Option (Int64 × St) :=
  bd (f_HG_isSet x1 σ) fun r3 σ2 => if r3 = 0 then (some ((-9000000000000000001), σ2)) else (ck (isG (rR σ2 0)) <| ck (ib x1 10) <| ck (ib (rI σ2 ((rR σ2 0) + 13) x1) 2) <| if (rI σ2 ((rR σ2 0) + 17) (rI σ2 ((rR σ2 0) + 13) x1)) = 0 then (bd (f_HG_valueOfAnswer (rI σ2 ((rR σ2 0) + 13) x1) σ2) fun r11 σ10 => bd (f_Solver_actOf (rR σ10 0) x1 σ10) fun r14 σ13 => some (r14.toInt64, σ13)) else (some ((-9000000000000000002), σ2)))
set_option maxRecDepth 4000 in
theorem ok_HG_answer {w : wT} (hi : wInj w) {l : Launch} {x1 : Int32} {σ σ' : St} {r : Int64} (h : f_HG_answer x1 σ = some (r, σ')) : gM w l yX8_answer cX8_answer 3 (some .long) 6 [.ref (w.1 0), .int x1] σ (some (.long r)) σ' := by
  unfold f_HG_answer at h
  refine gM_of hi (by decide) [some (.ref (w.1 0)), some (.int x1)] rfl (Nat.le_of_ble_eq_true rfl) (fun E hl X Y => ?_)
  refine g_aload_n X dX8_answer_0 rfl rfl ?_
  refine g_iload_n X dX8_answer_1 rfl rfl ?_
  obtain ⟨r3, σ2, h1, h⟩ := bd_e h
  refine g_callVI X [.int x1] (ok_HG_isSet X.inj h1) my_yX8_isSet mi_yX8_isSet ms_yX8_isSet ml_RX8_185 (by decide) rfl rfl (by decide) rfl dX8_answer_2 (Nat.le_of_ble_eq_true rfl) rfl rfl ?_
  refine g_if_ne X dX8_answer_5 (tgt := 12) rfl rfl (fun c4 => ?_) (fun c4 => ?_)
  · replace h := if_f c4 h
    refine g_aload_n X dX8_answer_12 rfl rfl ?_
    refine gf_RX8_65 X dX8_answer_13 rfl ?_
    obtain ⟨c5, h⟩ := ck_e h
    refine gf_RX8_169 c5 X dX8_answer_16 rfl ?_
    refine g_iload_n X dX8_answer_19 rfl rfl ?_
    obtain ⟨c6, h⟩ := ck_e h
    refine g_iald X (ga_13 c5).1 (ga_13 c5).2.1 (ga_13 c5).2.2 (ib_e c6) dX8_answer_20 rfl ?_
    refine g_istore_n X [some (.ref (w.1 0)), some (.int x1), some (.int (rI σ2 ((rR σ2 0) + 13) x1))] dX8_answer_21 (Nat.le_of_ble_eq_true rfl) rfl rfl rfl ?_
    refine g_aload_n X dX8_answer_22 rfl rfl ?_
    refine gf_RX8_65 X dX8_answer_23 rfl ?_
    refine gf_RX8_181 c5 X dX8_answer_26 rfl ?_
    refine g_iload_n X dX8_answer_29 rfl rfl ?_
    obtain ⟨c7, h⟩ := ck_e h
    refine g_zald X (ga_17 c5).1 (ga_17 c5).2.1 (ga_17 c5).2.2 (ib_e c7) dX8_answer_30 rfl ?_
    refine g_if_eq X dX8_answer_31 (tgt := 38) rfl rfl (fun c8 => ?_) (fun c8 => ?_)
    · replace h := if_t c8 h
      refine g_aload_n X dX8_answer_38 rfl rfl ?_
      refine g_iload_n X dX8_answer_39 rfl rfl ?_
      obtain ⟨r11, σ10, h9, h⟩ := bd_e h
      refine g_callVJ X [.int (rI σ2 ((rR σ2 0) + 13) x1)] (ok_HG_valueOfAnswer X.inj h9) my_yX8_valueOfAnswer mi_yX8_valueOfAnswer ms_yX8_valueOfAnswer ml_RX8_220 (by decide) rfl rfl (by decide) rfl dX8_answer_40 (Nat.le_of_ble_eq_true rfl) rfl rfl ?_
      refine g_pop2 X dX8_answer_43 rfl rfl ?_
      refine g_aload_n X dX8_answer_44 rfl rfl ?_
      refine gf_RX8_40 X dX8_answer_45 rfl ?_
      refine g_aload_n X dX8_answer_48 rfl rfl ?_
      refine gf_RX8_65 X dX8_answer_49 rfl ?_
      refine g_iload_n X dX8_answer_52 rfl rfl ?_
      obtain ⟨r14, σ13, h12, h⟩ := bd_e h
      refine g_callVI X [.ref (w.1 (rR σ10 0)), .int x1] (ok_Solver_actOf X.inj h12) my_yX6_actOf mi_yX6_actOf ms_yX6_actOf ml_RX8_227 (by decide) rfl rfl (by decide) rfl dX8_answer_53 (Nat.le_of_ble_eq_true rfl) rfl rfl ?_
      refine g_i2l X dX8_answer_56 rfl ?_
      obtain ⟨rfl, rfl⟩ := rt_e h
      exact g_lret X Y dX8_answer_57
    · replace h := if_f c8 h
      refine g_ldc2 X dX8_answer_34 kc_RX8_213 rfl ?_
      obtain ⟨rfl, rfl⟩ := rt_e h
      exact g_lret X Y dX8_answer_37
  · replace h := if_t c4 h
    refine g_ldc2 X dX8_answer_8 kc_RX8_83 rfl ?_
    obtain ⟨rfl, rfl⟩ := rt_e h
    exact g_lret X Y dX8_answer_11

theorem dX8_belief_0 : decode cX8_belief 0 = .ok (.aload_n 0, 1) := by decide +kernel
theorem dX8_belief_1 : decode cX8_belief 1 = .ok (.iload_n 1, 1) := by decide +kernel
theorem dX8_belief_2 : decode cX8_belief 2 = .ok (.invokevirtual 148, 3) := by decide +kernel
theorem dX8_belief_5 : decode cX8_belief 5 = .ok (.ifCond .eq 23, 3) := by decide +kernel
theorem dX8_belief_8 : decode cX8_belief 8 = .ok (.aload_n 0, 1) := by decide +kernel
theorem dX8_belief_9 : decode cX8_belief 9 = .ok (.getfield 65, 3) := by decide +kernel
theorem dX8_belief_12 : decode cX8_belief 12 = .ok (.iload_n 1, 1) := by decide +kernel
theorem dX8_belief_13 : decode cX8_belief 13 = .ok (.invokevirtual 231, 3) := by decide +kernel
theorem dX8_belief_16 : decode cX8_belief 16 = .ok (.ifCond .eq 12, 3) := by decide +kernel
theorem dX8_belief_19 : decode cX8_belief 19 = .ok (.iload_n 2, 1) := by decide +kernel
theorem dX8_belief_20 : decode cX8_belief 20 = .ok (.ifCond .lt 8, 3) := by decide +kernel
theorem dX8_belief_23 : decode cX8_belief 23 = .ok (.iload_n 2, 1) := by decide +kernel
theorem dX8_belief_24 : decode cX8_belief 24 = .ok (.iconst 1, 1) := by decide +kernel
theorem dX8_belief_25 : decode cX8_belief 25 = .ok (.if_icmp .le 7, 3) := by decide +kernel
theorem dX8_belief_28 : decode cX8_belief 28 = .ok (.ldc2_w 83, 3) := by decide +kernel
theorem dX8_belief_31 : decode cX8_belief 31 = .ok (.lreturn, 1) := by decide +kernel
theorem dX8_belief_32 : decode cX8_belief 32 = .ok (.aload_n 0, 1) := by decide +kernel
theorem dX8_belief_33 : decode cX8_belief 33 = .ok (.getfield 33, 3) := by decide +kernel
theorem dX8_belief_36 : decode cX8_belief 36 = .ok (.aload_n 0, 1) := by decide +kernel
theorem dX8_belief_37 : decode cX8_belief 37 = .ok (.getfield 65, 3) := by decide +kernel
theorem dX8_belief_40 : decode cX8_belief 40 = .ok (.ldc 215, 2) := by decide +kernel
theorem dX8_belief_42 : decode cX8_belief 42 = .ok (.aload_n 0, 1) := by decide +kernel
theorem dX8_belief_43 : decode cX8_belief 43 = .ok (.getfield 58, 3) := by decide +kernel
theorem dX8_belief_46 : decode cX8_belief 46 = .ok (.invokevirtual 216, 3) := by decide +kernel
theorem dX8_belief_49 : decode cX8_belief 49 = .ok (.iload_n 2, 1) := by decide +kernel
theorem dX8_belief_50 : decode cX8_belief 50 = .ok (.ifCond .ne 10, 3) := by decide +kernel
theorem dX8_belief_53 : decode cX8_belief 53 = .ok (.aload_n 0, 1) := by decide +kernel
theorem dX8_belief_54 : decode cX8_belief 54 = .ok (.getfield 58, 3) := by decide +kernel
theorem dX8_belief_57 : decode cX8_belief 57 = .ok (.iload_n 1, 1) := by decide +kernel
theorem dX8_belief_58 : decode cX8_belief 58 = .ok (.laload, 1) := by decide +kernel
theorem dX8_belief_59 : decode cX8_belief 59 = .ok (.lreturn, 1) := by decide +kernel
theorem dX8_belief_60 : decode cX8_belief 60 = .ok (.lconst 0, 1) := by decide +kernel
theorem dX8_belief_61 : decode cX8_belief 61 = .ok (.lstore_n 3, 1) := by decide +kernel
theorem dX8_belief_62 : decode cX8_belief 62 = .ok (.iconst 0, 1) := by decide +kernel
theorem dX8_belief_63 : decode cX8_belief 63 = .ok (.istore 5, 2) := by decide +kernel
theorem dX8_belief_65 : decode cX8_belief 65 = .ok (.iload 5, 2) := by decide +kernel
theorem dX8_belief_67 : decode cX8_belief 67 = .ok (.aload_n 0, 1) := by decide +kernel
theorem dX8_belief_68 : decode cX8_belief 68 = .ok (.getfield 65, 3) := by decide +kernel
theorem dX8_belief_71 : decode cX8_belief 71 = .ok (.getfield 145, 3) := by decide +kernel
theorem dX8_belief_74 : decode cX8_belief 74 = .ok (.if_icmp .ge 41, 3) := by decide +kernel
theorem dX8_belief_77 : decode cX8_belief 77 = .ok (.aload_n 0, 1) := by decide +kernel
theorem dX8_belief_78 : decode cX8_belief 78 = .ok (.getfield 65, 3) := by decide +kernel
theorem dX8_belief_81 : decode cX8_belief 81 = .ok (.getfield 157, 3) := by decide +kernel
theorem dX8_belief_84 : decode cX8_belief 84 = .ok (.iload 5, 2) := by decide +kernel
theorem dX8_belief_86 : decode cX8_belief 86 = .ok (.iaload, 1) := by decide +kernel
theorem dX8_belief_87 : decode cX8_belief 87 = .ok (.aload_n 0, 1) := by decide +kernel
theorem dX8_belief_88 : decode cX8_belief 88 = .ok (.getfield 65, 3) := by decide +kernel
theorem dX8_belief_91 : decode cX8_belief 91 = .ok (.getfield 157, 3) := by decide +kernel
theorem dX8_belief_94 : decode cX8_belief 94 = .ok (.iload_n 1, 1) := by decide +kernel
theorem dX8_belief_95 : decode cX8_belief 95 = .ok (.iaload, 1) := by decide +kernel
theorem dX8_belief_96 : decode cX8_belief 96 = .ok (.if_icmp .ne 13, 3) := by decide +kernel
theorem dX8_belief_99 : decode cX8_belief 99 = .ok (.lload_n 3, 1) := by decide +kernel
theorem dX8_belief_100 : decode cX8_belief 100 = .ok (.aload_n 0, 1) := by decide +kernel
theorem dX8_belief_101 : decode cX8_belief 101 = .ok (.getfield 58, 3) := by decide +kernel
theorem dX8_belief_104 : decode cX8_belief 104 = .ok (.iload 5, 2) := by decide +kernel
theorem dX8_belief_106 : decode cX8_belief 106 = .ok (.laload, 1) := by decide +kernel
theorem dX8_belief_107 : decode cX8_belief 107 = .ok (.ladd, 1) := by decide +kernel
theorem dX8_belief_108 : decode cX8_belief 108 = .ok (.lstore_n 3, 1) := by decide +kernel
theorem dX8_belief_109 : decode cX8_belief 109 = .ok (.iinc 5 1, 3) := by decide +kernel
theorem dX8_belief_112 : decode cX8_belief 112 = .ok (.goto (-47), 3) := by decide +kernel
theorem dX8_belief_115 : decode cX8_belief 115 = .ok (.lload_n 3, 1) := by decide +kernel
theorem dX8_belief_116 : decode cX8_belief 116 = .ok (.lreturn, 1) := by decide +kernel
def f_HG_belief_b109 (k65 : Int32 → Int64 → Int32 → St → Option (Int64 × St)) (x1 : Int32) (x3 : Int64) (x5 : Int32) (σ : St) : Option (Int64 × St) :=
  k65 x1 x3 (x5 + 1) σ
set_option maxRecDepth 4000 in
theorem ok_HG_belief_b109 {E : gE} {w : wT} {σ' : St} {r : Int64} (X : gC E w cX8_belief 6 RX8 3) (Y : gQ E w (some .long) (some (.long r)) σ') {k65 : Int32 → Int64 → Int32 → St → Option (Int64 × St)} (hk65 : ∀ (x1 : Int32) (x3 : Int64) (x5 : Int32) (σ : St), k65 x1 x3 x5 σ = some (r, σ') → gW E w 6 σ 65 [some (.ref (w.1 0)), some (.int x1), none, some (.long x3), none, some (.int x5)] []) {x1 : Int32} {x3 : Int64} {x5 : Int32} (σ : St) (h : f_HG_belief_b109 k65 x1 x3 x5 σ = some (r, σ')) : gW E w 6 σ 109 [some (.ref (w.1 0)), some (.int x1), none, some (.long x3), none, some (.int x5)] [] := by
  unfold f_HG_belief_b109 at h
  refine g_iinc X [some (.ref (w.1 0)), some (.int x1), none, some (.long x3), none, some (.int (x5 + 1))] dX8_belief_109 rfl (ii_1 x5) (Nat.le_of_ble_eq_true rfl) rfl rfl rfl ?_
  refine g_goto X dX8_belief_112 (tgt := 65) rfl ?_
  exact hk65 x1 x3 (x5 + 1) σ h

def f_HG_belief_b65 (k65 : Int32 → Int64 → Int32 → St → Option (Int64 × St)) (x1 : Int32) (x3 : Int64) (x5 : Int32) (σ : St) : Option (Int64 × St) :=
  ck (isG (rR σ 0)) <| if (rF σ ((rR σ 0) + 10)) ≤ x5 then (some (x3, σ)) else (ck (ib x5 60) <| ck (ib x1 60) <| if (rI σ ((rR σ 0) + 3) x5) = (rI σ ((rR σ 0) + 3) x1) then (ck (ib x5 60) <| f_HG_belief_b109 k65 x1 (x3 + (rL σ 46 x5)) x5 σ) else (f_HG_belief_b109 k65 x1 x3 x5 σ))
set_option maxRecDepth 4000 in
theorem ok_HG_belief_b65 {E : gE} {w : wT} {σ' : St} {r : Int64} (X : gC E w cX8_belief 6 RX8 3) (Y : gQ E w (some .long) (some (.long r)) σ') {k65 : Int32 → Int64 → Int32 → St → Option (Int64 × St)} (hk65 : ∀ (x1 : Int32) (x3 : Int64) (x5 : Int32) (σ : St), k65 x1 x3 x5 σ = some (r, σ') → gW E w 6 σ 65 [some (.ref (w.1 0)), some (.int x1), none, some (.long x3), none, some (.int x5)] []) {x1 : Int32} {x3 : Int64} {x5 : Int32} (σ : St) (h : f_HG_belief_b65 k65 x1 x3 x5 σ = some (r, σ')) : gW E w 6 σ 65 [some (.ref (w.1 0)), some (.int x1), none, some (.long x3), none, some (.int x5)] [] := by
  unfold f_HG_belief_b65 at h
  refine g_iload X dX8_belief_65 rfl rfl ?_
  refine g_aload_n X dX8_belief_67 rfl rfl ?_
  refine gf_RX8_65 X dX8_belief_68 rfl ?_
  obtain ⟨c1, h⟩ := ck_e h
  refine gf_RX8_145 c1 X dX8_belief_71 rfl ?_
  refine g_icmp_ge X dX8_belief_74 (tgt := 115) rfl rfl (fun c2 => ?_) (fun c2 => ?_)
  · replace h := if_t c2 h
    refine g_lload_n X dX8_belief_115 rfl rfl ?_
    obtain ⟨rfl, rfl⟩ := rt_e h
    exact g_lret X Y dX8_belief_116
  · replace h := if_f c2 h
    refine g_aload_n X dX8_belief_77 rfl rfl ?_
    refine gf_RX8_65 X dX8_belief_78 rfl ?_
    refine gf_RX8_157 c1 X dX8_belief_81 rfl ?_
    refine g_iload X dX8_belief_84 rfl rfl ?_
    obtain ⟨c3, h⟩ := ck_e h
    refine g_iald X (ga_3 c1).1 (ga_3 c1).2.1 (ga_3 c1).2.2 (ib_e c3) dX8_belief_86 rfl ?_
    refine g_aload_n X dX8_belief_87 rfl rfl ?_
    refine gf_RX8_65 X dX8_belief_88 rfl ?_
    refine gf_RX8_157 c1 X dX8_belief_91 rfl ?_
    refine g_iload_n X dX8_belief_94 rfl rfl ?_
    obtain ⟨c4, h⟩ := ck_e h
    refine g_iald X (ga_3 c1).1 (ga_3 c1).2.1 (ga_3 c1).2.2 (ib_e c4) dX8_belief_95 rfl ?_
    refine g_icmp_ne X dX8_belief_96 (tgt := 109) rfl rfl (fun c5 => ?_) (fun c5 => ?_)
    · replace h := if_f c5 h
      exact ok_HG_belief_b109 X Y hk65 σ h
    · replace h := if_t c5 h
      refine g_lload_n X dX8_belief_99 rfl rfl ?_
      refine g_aload_n X dX8_belief_100 rfl rfl ?_
      refine gf_RX8_58 X dX8_belief_101 rfl ?_
      refine g_iload X dX8_belief_104 rfl rfl ?_
      obtain ⟨c6, h⟩ := ck_e h
      refine g_lald X ar_46.1 ar_46.2.1 ar_46.2.2 (ib_e c6) dX8_belief_106 rfl ?_
      refine g_ladd X dX8_belief_107 rfl ?_
      refine g_lstore_n X [some (.ref (w.1 0)), some (.int x1), none, some (.long (x3 + (rL σ 46 x5))), none, some (.int x5)] dX8_belief_108 (Nat.le_of_ble_eq_true rfl) rfl rfl rfl ?_
      exact ok_HG_belief_b109 X Y hk65 σ h
def f_HG_belief_l65 : Int32 → Int64 → Int32 → St → Option (Int64 × St) := lp (fun _ _ _ _ => none) (f_HG_belief_b65) FU
theorem ok_HG_belief_l65 {E : gE} {w : wT} {σ' : St} {r : Int64} (X : gC E w cX8_belief 6 RX8 3) (Y : gQ E w (some .long) (some (.long r)) σ') {x1 : Int32} {x3 : Int64} {x5 : Int32} (σ : St) (h : f_HG_belief_l65 x1 x3 x5 σ = some (r, σ')) : gW E w 6 σ 65 [some (.ref (w.1 0)), some (.int x1), none, some (.long x3), none, some (.int x5)] [] :=
  lp_ind (P := fun (k : Int32 → Int64 → Int32 → St → Option (Int64 × St)) => ∀ (x1 : Int32) (x3 : Int64) (x5 : Int32) (σ : St), k x1 x3 x5 σ = some (r, σ') → gW E w 6 σ 65 [some (.ref (w.1 0)), some (.int x1), none, some (.long x3), none, some (.int x5)] []) (fun _ _ _ _ hh => nn hh) (fun k hk x1 x3 x5 σ  hh => ok_HG_belief_b65 X Y hk σ hh) FU x1 x3 x5 σ  h

def f_HG_belief (x1 : Int32) (x2 : Int32) (σ : St) : Option (Int64 × St) :=
  bd (f_HG_isPlace x1 σ) fun r3 σ2 => if r3 = 0 then (some ((-9000000000000000001), σ2)) else (ck (isG (rR σ2 0)) <| bd (f_Game_isHeld (rR σ2 0) x1 σ2) fun r7 σ6 => if r7 = 0 then (some ((-9000000000000000001), σ6)) else (if x2 < 0 then (some ((-9000000000000000001), σ6)) else (if x2 ≤ 1 then (bv (f_Plan_workOut 4 (rR σ6 0) ((-1000000)) 46 σ6) fun σ13 => if x2 = 0 then (ck (ib x1 60) <| some (rL σ13 46 x1, σ13)) else (f_HG_belief_l65 x1 0 0 σ13)) else (some ((-9000000000000000001), σ6)))))
set_option maxRecDepth 4000 in
theorem ok_HG_belief {w : wT} (hi : wInj w) {l : Launch} {x1 : Int32} {x2 : Int32} {σ σ' : St} {r : Int64} (h : f_HG_belief x1 x2 σ = some (r, σ')) : gM w l yX8_belief cX8_belief 6 (some .long) 3 [.ref (w.1 0), .int x1, .int x2] σ (some (.long r)) σ' := by
  unfold f_HG_belief at h
  refine gM_of hi (by decide) [some (.ref (w.1 0)), some (.int x1), some (.int x2)] rfl (Nat.le_of_ble_eq_true rfl) (fun E hl X Y => ?_)
  refine g_aload_n X dX8_belief_0 rfl rfl ?_
  refine g_iload_n X dX8_belief_1 rfl rfl ?_
  obtain ⟨r3, σ2, h1, h⟩ := bd_e h
  refine g_callVI X [.int x1] (ok_HG_isPlace X.inj h1) my_yX8_isPlace mi_yX8_isPlace ms_yX8_isPlace ml_RX8_148 (by decide) rfl rfl (by decide) rfl dX8_belief_2 (Nat.le_of_ble_eq_true rfl) rfl rfl ?_
  refine g_if_eq X dX8_belief_5 (tgt := 28) rfl rfl (fun c4 => ?_) (fun c4 => ?_)
  · replace h := if_t c4 h
    refine g_ldc2 X dX8_belief_28 kc_RX8_83 rfl ?_
    obtain ⟨rfl, rfl⟩ := rt_e h
    exact g_lret X Y dX8_belief_31
  · replace h := if_f c4 h
    refine g_aload_n X dX8_belief_8 rfl rfl ?_
    refine gf_RX8_65 X dX8_belief_9 rfl ?_
    refine g_iload_n X dX8_belief_12 rfl rfl ?_
    obtain ⟨c8, h⟩ := ck_e h
    obtain ⟨r7, σ6, h5, h⟩ := bd_e h
    refine g_callVI X [.int x1] (ok_Game_isHeld X.inj h5) my_yX1_isHeld mi_yX1_isHeld ms_yX1_isHeld ml_RX8_231 (go_ c8).1 (go_ c8).2.1 (go_ c8).2.2 (by decide) rfl dX8_belief_13 (Nat.le_of_ble_eq_true rfl) rfl rfl ?_
    refine g_if_eq X dX8_belief_16 (tgt := 28) rfl rfl (fun c9 => ?_) (fun c9 => ?_)
    · replace h := if_t c9 h
      refine g_ldc2 X dX8_belief_28 kc_RX8_83 rfl ?_
      obtain ⟨rfl, rfl⟩ := rt_e h
      exact g_lret X Y dX8_belief_31
    · replace h := if_f c9 h
      refine g_iload_n X dX8_belief_19 rfl rfl ?_
      refine g_if_lt X dX8_belief_20 (tgt := 28) rfl rfl (fun c10 => ?_) (fun c10 => ?_)
      · replace h := if_t c10 h
        refine g_ldc2 X dX8_belief_28 kc_RX8_83 rfl ?_
        obtain ⟨rfl, rfl⟩ := rt_e h
        exact g_lret X Y dX8_belief_31
      · replace h := if_f c10 h
        refine g_iload_n X dX8_belief_23 rfl rfl ?_
        refine g_iconst X kI_1 dX8_belief_24 rfl ?_
        refine g_icmp_le X dX8_belief_25 (tgt := 32) rfl rfl (fun c11 => ?_) (fun c11 => ?_)
        · replace h := if_t c11 h
          refine g_aload_n X dX8_belief_32 rfl rfl ?_
          refine gf_RX8_33 X dX8_belief_33 rfl ?_
          refine g_aload_n X dX8_belief_36 rfl rfl ?_
          refine gf_RX8_65 X dX8_belief_37 rfl ?_
          refine g_ldc X dX8_belief_40 kc_RX8_215 rfl ?_
          refine g_aload_n X dX8_belief_42 rfl rfl ?_
          refine gf_RX8_58 X dX8_belief_43 rfl ?_
          obtain ⟨σ13, h12, h⟩ := bv_e h
          refine g_callVV X [.ref (w.1 (rR σ6 0)), .int ((-1000000)), .ref (w.1 46)] (ok_Plan_workOut X.inj h12) my_yX3_workOut mi_yX3_workOut ms_yX3_workOut ml_RX8_216 (po_ (by decide : isP 4 = true)).1 (po_ (by decide : isP 4 = true)).2.1 (po_ (by decide : isP 4 = true)).2.2 (by decide) rfl dX8_belief_46 (Nat.le_of_ble_eq_true rfl) rfl rfl ?_
          refine g_iload_n X dX8_belief_49 rfl rfl ?_
          refine g_if_ne X dX8_belief_50 (tgt := 60) rfl rfl (fun c14 => ?_) (fun c14 => ?_)
          · replace h := if_f c14 h
            refine g_lconst X kL_0 dX8_belief_60 rfl ?_
            refine g_lstore_n X [some (.ref (w.1 0)), some (.int x1), some (.int x2), some (.long 0), none] dX8_belief_61 (Nat.le_of_ble_eq_true rfl) rfl rfl rfl ?_
            refine g_iconst X kI_0 dX8_belief_62 rfl ?_
            refine g_istore X [some (.ref (w.1 0)), some (.int x1), some (.int x2), some (.long 0), none, some (.int 0)] dX8_belief_63 (Nat.le_of_ble_eq_true rfl) rfl rfl rfl ?_
            exact g_le (lle_s (lle_s (lle_k (lle_s (lle_k (lle_s (lle_0))))))) (ok_HG_belief_l65 X Y σ13 h)
          · replace h := if_t c14 h
            refine g_aload_n X dX8_belief_53 rfl rfl ?_
            refine gf_RX8_58 X dX8_belief_54 rfl ?_
            refine g_iload_n X dX8_belief_57 rfl rfl ?_
            obtain ⟨c15, h⟩ := ck_e h
            refine g_lald X ar_46.1 ar_46.2.1 ar_46.2.2 (ib_e c15) dX8_belief_58 rfl ?_
            obtain ⟨rfl, rfl⟩ := rt_e h
            exact g_lret X Y dX8_belief_59
        · replace h := if_f c11 h
          refine g_ldc2 X dX8_belief_28 kc_RX8_83 rfl ?_
          obtain ⟨rfl, rfl⟩ := rt_e h
          exact g_lret X Y dX8_belief_31

theorem dX8_seeing_0 : decode cX8_seeing 0 = .ok (.aload_n 0, 1) := by decide +kernel
theorem dX8_seeing_1 : decode cX8_seeing 1 = .ok (.iload_n 1, 1) := by decide +kernel
theorem dX8_seeing_2 : decode cX8_seeing 2 = .ok (.invokevirtual 185, 3) := by decide +kernel
theorem dX8_seeing_5 : decode cX8_seeing 5 = .ok (.ifCond .ne 7, 3) := by decide +kernel
theorem dX8_seeing_8 : decode cX8_seeing 8 = .ok (.ldc2_w 83, 3) := by decide +kernel
theorem dX8_seeing_11 : decode cX8_seeing 11 = .ok (.lreturn, 1) := by decide +kernel
theorem dX8_seeing_12 : decode cX8_seeing 12 = .ok (.aload_n 0, 1) := by decide +kernel
theorem dX8_seeing_13 : decode cX8_seeing 13 = .ok (.getfield 65, 3) := by decide +kernel
theorem dX8_seeing_16 : decode cX8_seeing 16 = .ok (.getfield 169, 3) := by decide +kernel
theorem dX8_seeing_19 : decode cX8_seeing 19 = .ok (.iload_n 1, 1) := by decide +kernel
theorem dX8_seeing_20 : decode cX8_seeing 20 = .ok (.iaload, 1) := by decide +kernel
theorem dX8_seeing_21 : decode cX8_seeing 21 = .ok (.istore_n 2, 1) := by decide +kernel
theorem dX8_seeing_22 : decode cX8_seeing 22 = .ok (.aload_n 0, 1) := by decide +kernel
theorem dX8_seeing_23 : decode cX8_seeing 23 = .ok (.getfield 65, 3) := by decide +kernel
theorem dX8_seeing_26 : decode cX8_seeing 26 = .ok (.getfield 181, 3) := by decide +kernel
theorem dX8_seeing_29 : decode cX8_seeing 29 = .ok (.iload_n 2, 1) := by decide +kernel
theorem dX8_seeing_30 : decode cX8_seeing 30 = .ok (.baload, 1) := by decide +kernel
theorem dX8_seeing_31 : decode cX8_seeing 31 = .ok (.ifCond .eq 7, 3) := by decide +kernel
theorem dX8_seeing_34 : decode cX8_seeing 34 = .ok (.ldc2_w 213, 3) := by decide +kernel
theorem dX8_seeing_37 : decode cX8_seeing 37 = .ok (.lreturn, 1) := by decide +kernel
theorem dX8_seeing_38 : decode cX8_seeing 38 = .ok (.aload_n 0, 1) := by decide +kernel
theorem dX8_seeing_39 : decode cX8_seeing 39 = .ok (.iload_n 2, 1) := by decide +kernel
theorem dX8_seeing_40 : decode cX8_seeing 40 = .ok (.invokevirtual 220, 3) := by decide +kernel
theorem dX8_seeing_43 : decode cX8_seeing 43 = .ok (.lstore_n 3, 1) := by decide +kernel
theorem dX8_seeing_44 : decode cX8_seeing 44 = .ok (.iload_n 2, 1) := by decide +kernel
theorem dX8_seeing_45 : decode cX8_seeing 45 = .ok (.lload_n 3, 1) := by decide +kernel
theorem dX8_seeing_46 : decode cX8_seeing 46 = .ok (.aload_n 0, 1) := by decide +kernel
theorem dX8_seeing_47 : decode cX8_seeing 47 = .ok (.getfield 40, 3) := by decide +kernel
theorem dX8_seeing_50 : decode cX8_seeing 50 = .ok (.aload_n 0, 1) := by decide +kernel
theorem dX8_seeing_51 : decode cX8_seeing 51 = .ok (.getfield 65, 3) := by decide +kernel
theorem dX8_seeing_54 : decode cX8_seeing 54 = .ok (.iload_n 2, 1) := by decide +kernel
theorem dX8_seeing_55 : decode cX8_seeing 55 = .ok (.aload_n 0, 1) := by decide +kernel
theorem dX8_seeing_56 : decode cX8_seeing 56 = .ok (.getfield 58, 3) := by decide +kernel
theorem dX8_seeing_59 : decode cX8_seeing 59 = .ok (.iload_n 1, 1) := by decide +kernel
theorem dX8_seeing_60 : decode cX8_seeing 60 = .ok (.invokevirtual 234, 3) := by decide +kernel
theorem dX8_seeing_63 : decode cX8_seeing 63 = .ok (.invokestatic 223, 3) := by decide +kernel
theorem dX8_seeing_66 : decode cX8_seeing 66 = .ok (.lreturn, 1) := by decide +kernel
def f_HG_seeing (x1 : Int32) (σ : St) : Option (Int64 × St) :=
  bd (f_HG_isSet x1 σ) fun r3 σ2 => if r3 = 0 then (some ((-9000000000000000001), σ2)) else (ck (isG (rR σ2 0)) <| ck (ib x1 10) <| ck (ib (rI σ2 ((rR σ2 0) + 13) x1) 2) <| if (rI σ2 ((rR σ2 0) + 17) (rI σ2 ((rR σ2 0) + 13) x1)) = 0 then (bd (f_HG_valueOfAnswer (rI σ2 ((rR σ2 0) + 13) x1) σ2) fun r11 σ10 => bd (f_Solver_solve (rR σ10 0) (rI σ2 ((rR σ2 0) + 13) x1) 46 x1 σ10) fun r14 σ13 => bd (f_HG_gainOf (rI σ2 ((rR σ2 0) + 13) x1) r11 r14 σ13) fun r17 σ16 => some (r17, σ16)) else (some ((-9000000000000000002), σ2)))
set_option maxRecDepth 4000 in
theorem ok_HG_seeing {w : wT} (hi : wInj w) {l : Launch} {x1 : Int32} {σ σ' : St} {r : Int64} (h : f_HG_seeing x1 σ = some (r, σ')) : gM w l yX8_seeing cX8_seeing 5 (some .long) 6 [.ref (w.1 0), .int x1] σ (some (.long r)) σ' := by
  unfold f_HG_seeing at h
  refine gM_of hi (by decide) [some (.ref (w.1 0)), some (.int x1)] rfl (Nat.le_of_ble_eq_true rfl) (fun E hl X Y => ?_)
  refine g_aload_n X dX8_seeing_0 rfl rfl ?_
  refine g_iload_n X dX8_seeing_1 rfl rfl ?_
  obtain ⟨r3, σ2, h1, h⟩ := bd_e h
  refine g_callVI X [.int x1] (ok_HG_isSet X.inj h1) my_yX8_isSet mi_yX8_isSet ms_yX8_isSet ml_RX8_185 (by decide) rfl rfl (by decide) rfl dX8_seeing_2 (Nat.le_of_ble_eq_true rfl) rfl rfl ?_
  refine g_if_ne X dX8_seeing_5 (tgt := 12) rfl rfl (fun c4 => ?_) (fun c4 => ?_)
  · replace h := if_f c4 h
    refine g_aload_n X dX8_seeing_12 rfl rfl ?_
    refine gf_RX8_65 X dX8_seeing_13 rfl ?_
    obtain ⟨c5, h⟩ := ck_e h
    refine gf_RX8_169 c5 X dX8_seeing_16 rfl ?_
    refine g_iload_n X dX8_seeing_19 rfl rfl ?_
    obtain ⟨c6, h⟩ := ck_e h
    refine g_iald X (ga_13 c5).1 (ga_13 c5).2.1 (ga_13 c5).2.2 (ib_e c6) dX8_seeing_20 rfl ?_
    refine g_istore_n X [some (.ref (w.1 0)), some (.int x1), some (.int (rI σ2 ((rR σ2 0) + 13) x1))] dX8_seeing_21 (Nat.le_of_ble_eq_true rfl) rfl rfl rfl ?_
    refine g_aload_n X dX8_seeing_22 rfl rfl ?_
    refine gf_RX8_65 X dX8_seeing_23 rfl ?_
    refine gf_RX8_181 c5 X dX8_seeing_26 rfl ?_
    refine g_iload_n X dX8_seeing_29 rfl rfl ?_
    obtain ⟨c7, h⟩ := ck_e h
    refine g_zald X (ga_17 c5).1 (ga_17 c5).2.1 (ga_17 c5).2.2 (ib_e c7) dX8_seeing_30 rfl ?_
    refine g_if_eq X dX8_seeing_31 (tgt := 38) rfl rfl (fun c8 => ?_) (fun c8 => ?_)
    · replace h := if_t c8 h
      refine g_aload_n X dX8_seeing_38 rfl rfl ?_
      refine g_iload_n X dX8_seeing_39 rfl rfl ?_
      obtain ⟨r11, σ10, h9, h⟩ := bd_e h
      refine g_callVJ X [.int (rI σ2 ((rR σ2 0) + 13) x1)] (ok_HG_valueOfAnswer X.inj h9) my_yX8_valueOfAnswer mi_yX8_valueOfAnswer ms_yX8_valueOfAnswer ml_RX8_220 (by decide) rfl rfl (by decide) rfl dX8_seeing_40 (Nat.le_of_ble_eq_true rfl) rfl rfl ?_
      refine g_lstore_n X [some (.ref (w.1 0)), some (.int x1), some (.int (rI σ2 ((rR σ2 0) + 13) x1)), some (.long r11), none] dX8_seeing_43 (Nat.le_of_ble_eq_true rfl) rfl rfl rfl ?_
      refine g_iload_n X dX8_seeing_44 rfl rfl ?_
      refine g_lload_n X dX8_seeing_45 rfl rfl ?_
      refine g_aload_n X dX8_seeing_46 rfl rfl ?_
      refine gf_RX8_40 X dX8_seeing_47 rfl ?_
      refine g_aload_n X dX8_seeing_50 rfl rfl ?_
      refine gf_RX8_65 X dX8_seeing_51 rfl ?_
      refine g_iload_n X dX8_seeing_54 rfl rfl ?_
      refine g_aload_n X dX8_seeing_55 rfl rfl ?_
      refine gf_RX8_58 X dX8_seeing_56 rfl ?_
      refine g_iload_n X dX8_seeing_59 rfl rfl ?_
      obtain ⟨r14, σ13, h12, h⟩ := bd_e h
      refine g_callVJ X [.ref (w.1 (rR σ10 0)), .int (rI σ2 ((rR σ2 0) + 13) x1), .ref (w.1 46), .int x1] (ok_Solver_solve X.inj h12) my_yX6_solve mi_yX6_solve ms_yX6_solve ml_RX8_234 (by decide) rfl rfl (by decide) rfl dX8_seeing_60 (Nat.le_of_ble_eq_true rfl) rfl rfl ?_
      obtain ⟨r17, σ16, h15, h⟩ := bd_e h
      refine g_callSJ X [.int (rI σ2 ((rR σ2 0) + 13) x1), .long r11, .long r14] (ok_HG_gainOf X.inj h15) my_yX8_gainOf mt_yX8_gainOf ml_RX8_223 (by decide) rfl dX8_seeing_63 (Nat.le_of_ble_eq_true rfl) rfl rfl ?_
      obtain ⟨rfl, rfl⟩ := rt_e h
      exact g_lret X Y dX8_seeing_66
    · replace h := if_f c8 h
      refine g_ldc2 X dX8_seeing_34 kc_RX8_213 rfl ?_
      obtain ⟨rfl, rfl⟩ := rt_e h
      exact g_lret X Y dX8_seeing_37
  · replace h := if_t c4 h
    refine g_ldc2 X dX8_seeing_8 kc_RX8_83 rfl ?_
    obtain ⟨rfl, rfl⟩ := rt_e h
    exact g_lret X Y dX8_seeing_11

theorem dX6_solveBarred_0 : decode cX6_solveBarred 0 = .ok (.aload_n 0, 1) := by decide +kernel
theorem dX6_solveBarred_1 : decode cX6_solveBarred 1 = .ok (.iload 4, 2) := by decide +kernel
theorem dX6_solveBarred_3 : decode cX6_solveBarred 3 = .ok (.putfield 29, 3) := by decide +kernel
theorem dX6_solveBarred_6 : decode cX6_solveBarred 6 = .ok (.aload_n 0, 1) := by decide +kernel
theorem dX6_solveBarred_7 : decode cX6_solveBarred 7 = .ok (.iload 5, 2) := by decide +kernel
theorem dX6_solveBarred_9 : decode cX6_solveBarred 9 = .ok (.putfield 33, 3) := by decide +kernel
theorem dX6_solveBarred_12 : decode cX6_solveBarred 12 = .ok (.aload_n 0, 1) := by decide +kernel
theorem dX6_solveBarred_13 : decode cX6_solveBarred 13 = .ok (.aload_n 1, 1) := by decide +kernel
theorem dX6_solveBarred_14 : decode cX6_solveBarred 14 = .ok (.iload_n 2, 1) := by decide +kernel
theorem dX6_solveBarred_15 : decode cX6_solveBarred 15 = .ok (.aload_n 3, 1) := by decide +kernel
theorem dX6_solveBarred_16 : decode cX6_solveBarred 16 = .ok (.ldc 28, 2) := by decide +kernel
theorem dX6_solveBarred_18 : decode cX6_solveBarred 18 = .ok (.invokevirtual 57, 3) := by decide +kernel
theorem dX6_solveBarred_21 : decode cX6_solveBarred 21 = .ok (.lstore 6, 2) := by decide +kernel
theorem dX6_solveBarred_23 : decode cX6_solveBarred 23 = .ok (.aload_n 0, 1) := by decide +kernel
theorem dX6_solveBarred_24 : decode cX6_solveBarred 24 = .ok (.ldc 28, 2) := by decide +kernel
theorem dX6_solveBarred_26 : decode cX6_solveBarred 26 = .ok (.putfield 29, 3) := by decide +kernel
theorem dX6_solveBarred_29 : decode cX6_solveBarred 29 = .ok (.aload_n 0, 1) := by decide +kernel
theorem dX6_solveBarred_30 : decode cX6_solveBarred 30 = .ok (.ldc 28, 2) := by decide +kernel
theorem dX6_solveBarred_32 : decode cX6_solveBarred 32 = .ok (.putfield 33, 3) := by decide +kernel
theorem dX6_solveBarred_35 : decode cX6_solveBarred 35 = .ok (.lload 6, 2) := by decide +kernel
theorem dX6_solveBarred_37 : decode cX6_solveBarred 37 = .ok (.lreturn, 1) := by decide +kernel
def f_Solver_solveBarred (g : Nat) (x2 : Int32) (a : Nat) (x4 : Int32) (x5 : Int32) (σ : St) : Option (Int64 × St) :=
  ck (isG g) <| ck (isL a) <| lE (stF σ 9 x4) fun σ1 => lE (stF σ1 10 x5) fun σ3 => bd (f_Solver_solve g x2 a ((-1000000)) σ3) fun r7 σ6 => lE (stF σ6 9 ((-1000000))) fun σ8 => lE (stF σ8 10 ((-1000000))) fun σ10 => some (r7, σ10)
set_option maxRecDepth 4000 in
theorem ok_Solver_solveBarred {w : wT} (hi : wInj w) {l : Launch} {g : Nat} {x2 : Int32} {a : Nat} {x4 : Int32} {x5 : Int32} {σ σ' : St} {r : Int64} (h : f_Solver_solveBarred g x2 a x4 x5 σ = some (r, σ')) : gM w l yX6_solveBarred cX6_solveBarred 8 (some .long) 5 [.ref (w.1 6), .ref (w.1 g), .int x2, .ref (w.1 a), .int x4, .int x5] σ (some (.long r)) σ' := by
  unfold f_Solver_solveBarred at h
  obtain ⟨hg, h⟩ := ck_e h
  obtain ⟨ha, h⟩ := ck_e h
  refine gM_of hi (by decide) [some (.ref (w.1 6)), some (.ref (w.1 g)), some (.int x2), some (.ref (w.1 a)), some (.int x4), some (.int x5)] rfl (Nat.le_of_ble_eq_true rfl) (fun E hl X Y => ?_)
  refine g_aload_n X dX6_solveBarred_0 rfl rfl ?_
  refine g_iload X dX6_solveBarred_1 rfl rfl ?_
  refine gp_RX6_29 X dX6_solveBarred_3 rfl (fun σ1 e2 => ?_)
  replace h := lE_c e2 h
  refine g_aload_n X dX6_solveBarred_6 rfl rfl ?_
  refine g_iload X dX6_solveBarred_7 rfl rfl ?_
  refine gp_RX6_33 X dX6_solveBarred_9 rfl (fun σ3 e4 => ?_)
  replace h := lE_c e4 h
  refine g_aload_n X dX6_solveBarred_12 rfl rfl ?_
  refine g_aload_n X dX6_solveBarred_13 rfl rfl ?_
  refine g_iload_n X dX6_solveBarred_14 rfl rfl ?_
  refine g_aload_n X dX6_solveBarred_15 rfl rfl ?_
  refine g_ldc X dX6_solveBarred_16 kc_RX6_28 rfl ?_
  obtain ⟨r7, σ6, h5, h⟩ := bd_e h
  refine g_callVJ X [.ref (w.1 g), .int x2, .ref (w.1 a), .int ((-1000000))] (ok_Solver_solve X.inj h5) my_yX6_solve mi_yX6_solve ms_yX6_solve ml_RX6_57 (by decide) rfl rfl (by decide) rfl dX6_solveBarred_18 (Nat.le_of_ble_eq_true rfl) rfl rfl ?_
  refine g_lstore X [some (.ref (w.1 6)), some (.ref (w.1 g)), some (.int x2), some (.ref (w.1 a)), some (.int x4), some (.int x5), some (.long r7), none] dX6_solveBarred_21 (Nat.le_of_ble_eq_true rfl) rfl rfl rfl ?_
  refine g_aload_n X dX6_solveBarred_23 rfl rfl ?_
  refine g_ldc X dX6_solveBarred_24 kc_RX6_28 rfl ?_
  refine gp_RX6_29 X dX6_solveBarred_26 rfl (fun σ8 e9 => ?_)
  replace h := lE_c e9 h
  refine g_aload_n X dX6_solveBarred_29 rfl rfl ?_
  refine g_ldc X dX6_solveBarred_30 kc_RX6_28 rfl ?_
  refine gp_RX6_33 X dX6_solveBarred_32 rfl (fun σ10 e11 => ?_)
  replace h := lE_c e11 h
  refine g_lload X dX6_solveBarred_35 rfl rfl ?_
  obtain ⟨rfl, rfl⟩ := rt_e h
  exact g_lret X Y dX6_solveBarred_37

theorem dX8_fewer_0 : decode cX8_fewer 0 = .ok (.aload_n 0, 1) := by decide +kernel
theorem dX8_fewer_1 : decode cX8_fewer 1 = .ok (.iload_n 1, 1) := by decide +kernel
theorem dX8_fewer_2 : decode cX8_fewer 2 = .ok (.iload_n 2, 1) := by decide +kernel
theorem dX8_fewer_3 : decode cX8_fewer 3 = .ok (.invokevirtual 198, 3) := by decide +kernel
theorem dX8_fewer_6 : decode cX8_fewer 6 = .ok (.ifCond .ne 7, 3) := by decide +kernel
theorem dX8_fewer_9 : decode cX8_fewer 9 = .ok (.ldc2_w 83, 3) := by decide +kernel
theorem dX8_fewer_12 : decode cX8_fewer 12 = .ok (.lreturn, 1) := by decide +kernel
theorem dX8_fewer_13 : decode cX8_fewer 13 = .ok (.aload_n 0, 1) := by decide +kernel
theorem dX8_fewer_14 : decode cX8_fewer 14 = .ok (.getfield 65, 3) := by decide +kernel
theorem dX8_fewer_17 : decode cX8_fewer 17 = .ok (.getfield 169, 3) := by decide +kernel
theorem dX8_fewer_20 : decode cX8_fewer 20 = .ok (.iload_n 1, 1) := by decide +kernel
theorem dX8_fewer_21 : decode cX8_fewer 21 = .ok (.iaload, 1) := by decide +kernel
theorem dX8_fewer_22 : decode cX8_fewer 22 = .ok (.istore_n 3, 1) := by decide +kernel
theorem dX8_fewer_23 : decode cX8_fewer 23 = .ok (.aload_n 0, 1) := by decide +kernel
theorem dX8_fewer_24 : decode cX8_fewer 24 = .ok (.getfield 65, 3) := by decide +kernel
theorem dX8_fewer_27 : decode cX8_fewer 27 = .ok (.getfield 181, 3) := by decide +kernel
theorem dX8_fewer_30 : decode cX8_fewer 30 = .ok (.iload_n 3, 1) := by decide +kernel
theorem dX8_fewer_31 : decode cX8_fewer 31 = .ok (.baload, 1) := by decide +kernel
theorem dX8_fewer_32 : decode cX8_fewer 32 = .ok (.ifCond .eq 7, 3) := by decide +kernel
theorem dX8_fewer_35 : decode cX8_fewer 35 = .ok (.ldc2_w 213, 3) := by decide +kernel
theorem dX8_fewer_38 : decode cX8_fewer 38 = .ok (.lreturn, 1) := by decide +kernel
theorem dX8_fewer_39 : decode cX8_fewer 39 = .ok (.aload_n 0, 1) := by decide +kernel
theorem dX8_fewer_40 : decode cX8_fewer 40 = .ok (.getfield 33, 3) := by decide +kernel
theorem dX8_fewer_43 : decode cX8_fewer 43 = .ok (.aload_n 0, 1) := by decide +kernel
theorem dX8_fewer_44 : decode cX8_fewer 44 = .ok (.getfield 65, 3) := by decide +kernel
theorem dX8_fewer_47 : decode cX8_fewer 47 = .ok (.iload_n 3, 1) := by decide +kernel
theorem dX8_fewer_48 : decode cX8_fewer 48 = .ok (.aload_n 0, 1) := by decide +kernel
theorem dX8_fewer_49 : decode cX8_fewer 49 = .ok (.getfield 58, 3) := by decide +kernel
theorem dX8_fewer_52 : decode cX8_fewer 52 = .ok (.invokevirtual 216, 3) := by decide +kernel
theorem dX8_fewer_55 : decode cX8_fewer 55 = .ok (.aload_n 0, 1) := by decide +kernel
theorem dX8_fewer_56 : decode cX8_fewer 56 = .ok (.getfield 40, 3) := by decide +kernel
theorem dX8_fewer_59 : decode cX8_fewer 59 = .ok (.aload_n 0, 1) := by decide +kernel
theorem dX8_fewer_60 : decode cX8_fewer 60 = .ok (.getfield 65, 3) := by decide +kernel
theorem dX8_fewer_63 : decode cX8_fewer 63 = .ok (.iload_n 3, 1) := by decide +kernel
theorem dX8_fewer_64 : decode cX8_fewer 64 = .ok (.aload_n 0, 1) := by decide +kernel
theorem dX8_fewer_65 : decode cX8_fewer 65 = .ok (.getfield 58, 3) := by decide +kernel
theorem dX8_fewer_68 : decode cX8_fewer 68 = .ok (.iload_n 1, 1) := by decide +kernel
theorem dX8_fewer_69 : decode cX8_fewer 69 = .ok (.iload_n 2, 1) := by decide +kernel
theorem dX8_fewer_70 : decode cX8_fewer 70 = .ok (.invokevirtual 238, 3) := by decide +kernel
theorem dX8_fewer_73 : decode cX8_fewer 73 = .ok (.lreturn, 1) := by decide +kernel
def f_HG_fewer (x1 : Int32) (x2 : Int32) (σ : St) : Option (Int64 × St) :=
  bd (f_HG_isAct x1 x2 σ) fun r3 σ2 => if r3 = 0 then (some ((-9000000000000000001), σ2)) else (ck (isG (rR σ2 0)) <| ck (ib x1 10) <| ck (ib (rI σ2 ((rR σ2 0) + 13) x1) 2) <| if (rI σ2 ((rR σ2 0) + 17) (rI σ2 ((rR σ2 0) + 13) x1)) = 0 then (bv (f_Plan_workOut 4 (rR σ2 0) (rI σ2 ((rR σ2 0) + 13) x1) 46 σ2) fun σ10 => bd (f_Solver_solveBarred (rR σ10 0) (rI σ2 ((rR σ2 0) + 13) x1) 46 x1 x2 σ10) fun r13 σ12 => some (r13, σ12)) else (some ((-9000000000000000002), σ2)))
set_option maxRecDepth 4000 in
theorem ok_HG_fewer {w : wT} (hi : wInj w) {l : Launch} {x1 : Int32} {x2 : Int32} {σ σ' : St} {r : Int64} (h : f_HG_fewer x1 x2 σ = some (r, σ')) : gM w l yX8_fewer cX8_fewer 4 (some .long) 6 [.ref (w.1 0), .int x1, .int x2] σ (some (.long r)) σ' := by
  unfold f_HG_fewer at h
  refine gM_of hi (by decide) [some (.ref (w.1 0)), some (.int x1), some (.int x2)] rfl (Nat.le_of_ble_eq_true rfl) (fun E hl X Y => ?_)
  refine g_aload_n X dX8_fewer_0 rfl rfl ?_
  refine g_iload_n X dX8_fewer_1 rfl rfl ?_
  refine g_iload_n X dX8_fewer_2 rfl rfl ?_
  obtain ⟨r3, σ2, h1, h⟩ := bd_e h
  refine g_callVI X [.int x1, .int x2] (ok_HG_isAct X.inj h1) my_yX8_isAct mi_yX8_isAct ms_yX8_isAct ml_RX8_198 (by decide) rfl rfl (by decide) rfl dX8_fewer_3 (Nat.le_of_ble_eq_true rfl) rfl rfl ?_
  refine g_if_ne X dX8_fewer_6 (tgt := 13) rfl rfl (fun c4 => ?_) (fun c4 => ?_)
  · replace h := if_f c4 h
    refine g_aload_n X dX8_fewer_13 rfl rfl ?_
    refine gf_RX8_65 X dX8_fewer_14 rfl ?_
    obtain ⟨c5, h⟩ := ck_e h
    refine gf_RX8_169 c5 X dX8_fewer_17 rfl ?_
    refine g_iload_n X dX8_fewer_20 rfl rfl ?_
    obtain ⟨c6, h⟩ := ck_e h
    refine g_iald X (ga_13 c5).1 (ga_13 c5).2.1 (ga_13 c5).2.2 (ib_e c6) dX8_fewer_21 rfl ?_
    refine g_istore_n X [some (.ref (w.1 0)), some (.int x1), some (.int x2), some (.int (rI σ2 ((rR σ2 0) + 13) x1))] dX8_fewer_22 (Nat.le_of_ble_eq_true rfl) rfl rfl rfl ?_
    refine g_aload_n X dX8_fewer_23 rfl rfl ?_
    refine gf_RX8_65 X dX8_fewer_24 rfl ?_
    refine gf_RX8_181 c5 X dX8_fewer_27 rfl ?_
    refine g_iload_n X dX8_fewer_30 rfl rfl ?_
    obtain ⟨c7, h⟩ := ck_e h
    refine g_zald X (ga_17 c5).1 (ga_17 c5).2.1 (ga_17 c5).2.2 (ib_e c7) dX8_fewer_31 rfl ?_
    refine g_if_eq X dX8_fewer_32 (tgt := 39) rfl rfl (fun c8 => ?_) (fun c8 => ?_)
    · replace h := if_t c8 h
      refine g_aload_n X dX8_fewer_39 rfl rfl ?_
      refine gf_RX8_33 X dX8_fewer_40 rfl ?_
      refine g_aload_n X dX8_fewer_43 rfl rfl ?_
      refine gf_RX8_65 X dX8_fewer_44 rfl ?_
      refine g_iload_n X dX8_fewer_47 rfl rfl ?_
      refine g_aload_n X dX8_fewer_48 rfl rfl ?_
      refine gf_RX8_58 X dX8_fewer_49 rfl ?_
      obtain ⟨σ10, h9, h⟩ := bv_e h
      refine g_callVV X [.ref (w.1 (rR σ2 0)), .int (rI σ2 ((rR σ2 0) + 13) x1), .ref (w.1 46)] (ok_Plan_workOut X.inj h9) my_yX3_workOut mi_yX3_workOut ms_yX3_workOut ml_RX8_216 (po_ (by decide : isP 4 = true)).1 (po_ (by decide : isP 4 = true)).2.1 (po_ (by decide : isP 4 = true)).2.2 (by decide) rfl dX8_fewer_52 (Nat.le_of_ble_eq_true rfl) rfl rfl ?_
      refine g_aload_n X dX8_fewer_55 rfl rfl ?_
      refine gf_RX8_40 X dX8_fewer_56 rfl ?_
      refine g_aload_n X dX8_fewer_59 rfl rfl ?_
      refine gf_RX8_65 X dX8_fewer_60 rfl ?_
      refine g_iload_n X dX8_fewer_63 rfl rfl ?_
      refine g_aload_n X dX8_fewer_64 rfl rfl ?_
      refine gf_RX8_58 X dX8_fewer_65 rfl ?_
      refine g_iload_n X dX8_fewer_68 rfl rfl ?_
      refine g_iload_n X dX8_fewer_69 rfl rfl ?_
      obtain ⟨r13, σ12, h11, h⟩ := bd_e h
      refine g_callVJ X [.ref (w.1 (rR σ10 0)), .int (rI σ2 ((rR σ2 0) + 13) x1), .ref (w.1 46), .int x1, .int x2] (ok_Solver_solveBarred X.inj h11) my_yX6_solveBarred mi_yX6_solveBarred ms_yX6_solveBarred ml_RX8_238 (by decide) rfl rfl (by decide) rfl dX8_fewer_70 (Nat.le_of_ble_eq_true rfl) rfl rfl ?_
      obtain ⟨rfl, rfl⟩ := rt_e h
      exact g_lret X Y dX8_fewer_73
    · replace h := if_f c8 h
      refine g_ldc2 X dX8_fewer_35 kc_RX8_213 rfl ?_
      obtain ⟨rfl, rfl⟩ := rt_e h
      exact g_lret X Y dX8_fewer_38
  · replace h := if_t c4 h
    refine g_ldc2 X dX8_fewer_9 kc_RX8_83 rfl ?_
    obtain ⟨rfl, rfl⟩ := rt_e h
    exact g_lret X Y dX8_fewer_12

theorem dX2_reachOf_0 : decode cX2_reachOf 0 = .ok (.iload_n 1, 1) := by decide +kernel
theorem dX2_reachOf_1 : decode cX2_reachOf 1 = .ok (.ifCond .ne 10, 3) := by decide +kernel
theorem dX2_reachOf_4 : decode cX2_reachOf 4 = .ok (.aload_n 0, 1) := by decide +kernel
theorem dX2_reachOf_5 : decode cX2_reachOf 5 = .ok (.getfield 19, 3) := by decide +kernel
theorem dX2_reachOf_8 : decode cX2_reachOf 8 = .ok (.goto 7, 3) := by decide +kernel
theorem dX2_reachOf_11 : decode cX2_reachOf 11 = .ok (.aload_n 0, 1) := by decide +kernel
theorem dX2_reachOf_12 : decode cX2_reachOf 12 = .ok (.getfield 23, 3) := by decide +kernel
theorem dX2_reachOf_15 : decode cX2_reachOf 15 = .ok (.areturn, 1) := by decide +kernel
def f_History_reachOf (x1 : Int32) (σ : St) : Option (Nat × St) :=
  if x1 = 0 then (some (59, σ)) else (some (60, σ))
set_option maxRecDepth 4000 in
theorem ok_History_reachOf {w : wT} (hi : wInj w) {l : Launch} {x1 : Int32} {σ σ' : St} {r : Nat} (h : f_History_reachOf x1 σ = some (r, σ')) : gM w l yX2_reachOf cX2_reachOf 2 (some (.array .long)) 1 [.ref (w.1 7), .int x1] σ (some (.ref (w.1 r))) σ' := by
  unfold f_History_reachOf at h
  refine gM_of hi (by decide) [some (.ref (w.1 7)), some (.int x1)] rfl (Nat.le_of_ble_eq_true rfl) (fun E hl X Y => ?_)
  refine g_iload_n X dX2_reachOf_0 rfl rfl ?_
  refine g_if_ne X dX2_reachOf_1 (tgt := 11) rfl rfl (fun c1 => ?_) (fun c1 => ?_)
  · replace h := if_f c1 h
    refine g_aload_n X dX2_reachOf_11 rfl rfl ?_
    refine gf_RX2_23 X dX2_reachOf_12 rfl ?_
    obtain ⟨rfl, rfl⟩ := rt_e h
    exact g_aret X Y dX2_reachOf_15
  · replace h := if_t c1 h
    refine g_aload_n X dX2_reachOf_4 rfl rfl ?_
    refine gf_RX2_19 X dX2_reachOf_5 rfl ?_
    refine g_goto X dX2_reachOf_8 (tgt := 15) rfl ?_
    obtain ⟨rfl, rfl⟩ := rt_e h
    exact g_aret X Y dX2_reachOf_15

theorem dX2_noteAnswer_0 : decode cX2_noteAnswer 0 = .ok (.aload_n 2, 1) := by decide +kernel
theorem dX2_noteAnswer_1 : decode cX2_noteAnswer 1 = .ok (.aload_n 1, 1) := by decide +kernel
theorem dX2_noteAnswer_2 : decode cX2_noteAnswer 2 = .ok (.iload_n 3, 1) := by decide +kernel
theorem dX2_noteAnswer_3 : decode cX2_noteAnswer 3 = .ok (.aload_n 0, 1) := by decide +kernel
theorem dX2_noteAnswer_4 : decode cX2_noteAnswer 4 = .ok (.iload_n 3, 1) := by decide +kernel
theorem dX2_noteAnswer_5 : decode cX2_noteAnswer 5 = .ok (.invokevirtual 54, 3) := by decide +kernel
theorem dX2_noteAnswer_8 : decode cX2_noteAnswer 8 = .ok (.ldc 58, 2) := by decide +kernel
theorem dX2_noteAnswer_10 : decode cX2_noteAnswer 10 = .ok (.invokevirtual 59, 3) := by decide +kernel
theorem dX2_noteAnswer_13 : decode cX2_noteAnswer 13 = .ok (.pop2, 1) := by decide +kernel
theorem dX2_noteAnswer_14 : decode cX2_noteAnswer 14 = .ok (.iconst 0, 1) := by decide +kernel
theorem dX2_noteAnswer_15 : decode cX2_noteAnswer 15 = .ok (.istore 4, 2) := by decide +kernel
theorem dX2_noteAnswer_17 : decode cX2_noteAnswer 17 = .ok (.iload 4, 2) := by decide +kernel
theorem dX2_noteAnswer_19 : decode cX2_noteAnswer 19 = .ok (.bipush 10, 2) := by decide +kernel
theorem dX2_noteAnswer_21 : decode cX2_noteAnswer 21 = .ok (.if_icmp .ge 42, 3) := by decide +kernel
theorem dX2_noteAnswer_24 : decode cX2_noteAnswer 24 = .ok (.aload_n 1, 1) := by decide +kernel
theorem dX2_noteAnswer_25 : decode cX2_noteAnswer 25 = .ok (.getfield 65, 3) := by decide +kernel
theorem dX2_noteAnswer_28 : decode cX2_noteAnswer 28 = .ok (.iload 4, 2) := by decide +kernel
theorem dX2_noteAnswer_30 : decode cX2_noteAnswer 30 = .ok (.iaload, 1) := by decide +kernel
theorem dX2_noteAnswer_31 : decode cX2_noteAnswer 31 = .ok (.iload_n 3, 1) := by decide +kernel
theorem dX2_noteAnswer_32 : decode cX2_noteAnswer 32 = .ok (.if_icmp .ne 25, 3) := by decide +kernel
theorem dX2_noteAnswer_35 : decode cX2_noteAnswer 35 = .ok (.aload_n 0, 1) := by decide +kernel
theorem dX2_noteAnswer_36 : decode cX2_noteAnswer 36 = .ok (.getfield 15, 3) := by decide +kernel
theorem dX2_noteAnswer_39 : decode cX2_noteAnswer 39 = .ok (.aload_n 0, 1) := by decide +kernel
theorem dX2_noteAnswer_40 : decode cX2_noteAnswer 40 = .ok (.getfield 9, 3) := by decide +kernel
theorem dX2_noteAnswer_43 : decode cX2_noteAnswer 43 = .ok (.bipush 10, 2) := by decide +kernel
theorem dX2_noteAnswer_45 : decode cX2_noteAnswer 45 = .ok (.imul, 1) := by decide +kernel
theorem dX2_noteAnswer_46 : decode cX2_noteAnswer 46 = .ok (.iload 4, 2) := by decide +kernel
theorem dX2_noteAnswer_48 : decode cX2_noteAnswer 48 = .ok (.iadd, 1) := by decide +kernel
theorem dX2_noteAnswer_49 : decode cX2_noteAnswer 49 = .ok (.aload_n 2, 1) := by decide +kernel
theorem dX2_noteAnswer_50 : decode cX2_noteAnswer 50 = .ok (.aload_n 1, 1) := by decide +kernel
theorem dX2_noteAnswer_51 : decode cX2_noteAnswer 51 = .ok (.iload 4, 2) := by decide +kernel
theorem dX2_noteAnswer_53 : decode cX2_noteAnswer 53 = .ok (.invokevirtual 70, 3) := by decide +kernel
theorem dX2_noteAnswer_56 : decode cX2_noteAnswer 56 = .ok (.iastore, 1) := by decide +kernel
theorem dX2_noteAnswer_57 : decode cX2_noteAnswer 57 = .ok (.iinc 4 1, 3) := by decide +kernel
theorem dX2_noteAnswer_60 : decode cX2_noteAnswer 60 = .ok (.goto (-43), 3) := by decide +kernel
theorem dX2_noteAnswer_63 : decode cX2_noteAnswer 63 = .ok (.return_, 1) := by decide +kernel
def f_History_noteAnswer_b57 (g : Nat) (k17 : Int32 → Int32 → St → Option St) (x3 : Int32) (x4 : Int32) (σ : St) : Option St :=
  k17 x3 (x4 + 1) σ
set_option maxRecDepth 4000 in
theorem ok_History_noteAnswer_b57 {E : gE} {w : wT} {σ' : St} (X : gC E w cX2_noteAnswer 5 RX2 5) (Y : gQ E w none none σ') {g : Nat} (hg : isG g = true) {k17 : Int32 → Int32 → St → Option St} (hk17 : ∀ (x3 : Int32) (x4 : Int32) (σ : St), k17 x3 x4 σ = some σ' → gW E w 5 σ 17 [some (.ref (w.1 7)), some (.ref (w.1 g)), some (.ref (w.1 6)), some (.int x3), some (.int x4)] []) {x3 : Int32} {x4 : Int32} (σ : St) (h : f_History_noteAnswer_b57 g k17 x3 x4 σ = some σ') : gW E w 5 σ 57 [some (.ref (w.1 7)), some (.ref (w.1 g)), some (.ref (w.1 6)), some (.int x3), some (.int x4)] [] := by
  unfold f_History_noteAnswer_b57 at h
  refine g_iinc X [some (.ref (w.1 7)), some (.ref (w.1 g)), some (.ref (w.1 6)), some (.int x3), some (.int (x4 + 1))] dX2_noteAnswer_57 rfl (ii_1 x4) (Nat.le_of_ble_eq_true rfl) rfl rfl rfl ?_
  refine g_goto X dX2_noteAnswer_60 (tgt := 17) rfl ?_
  exact hk17 x3 (x4 + 1) σ h

def f_History_noteAnswer_b17 (g : Nat) (k17 : Int32 → Int32 → St → Option St) (x3 : Int32) (x4 : Int32) (σ : St) : Option St :=
  if (10 : Int32) ≤ x4 then (some σ) else (ck (ib x4 10) <| if (rI σ (g + 13) x4) = x3 then (bd (f_Solver_actOf g x4 σ) fun r6 σ5 => ck (ib (((rF σ 11) * 10) + x4) 600) <| lE (stA σ5 58 (((rF σ 11) * 10) + x4).toNatClampNeg r6) fun σ8 => f_History_noteAnswer_b57 g k17 x3 x4 σ8) else (f_History_noteAnswer_b57 g k17 x3 x4 σ))
set_option maxRecDepth 4000 in
theorem ok_History_noteAnswer_b17 {E : gE} {w : wT} {σ' : St} (X : gC E w cX2_noteAnswer 5 RX2 5) (Y : gQ E w none none σ') {g : Nat} (hg : isG g = true) {k17 : Int32 → Int32 → St → Option St} (hk17 : ∀ (x3 : Int32) (x4 : Int32) (σ : St), k17 x3 x4 σ = some σ' → gW E w 5 σ 17 [some (.ref (w.1 7)), some (.ref (w.1 g)), some (.ref (w.1 6)), some (.int x3), some (.int x4)] []) {x3 : Int32} {x4 : Int32} (σ : St) (h : f_History_noteAnswer_b17 g k17 x3 x4 σ = some σ') : gW E w 5 σ 17 [some (.ref (w.1 7)), some (.ref (w.1 g)), some (.ref (w.1 6)), some (.int x3), some (.int x4)] [] := by
  unfold f_History_noteAnswer_b17 at h
  refine g_iload X dX2_noteAnswer_17 rfl rfl ?_
  refine g_bipush X kB_10 dX2_noteAnswer_19 rfl ?_
  refine g_icmp_ge X dX2_noteAnswer_21 (tgt := 63) rfl rfl (fun c1 => ?_) (fun c1 => ?_)
  · replace h := if_t c1 h
    obtain rfl := rv_e h
    exact g_vret X Y dX2_noteAnswer_63
  · replace h := if_f c1 h
    refine g_aload_n X dX2_noteAnswer_24 rfl rfl ?_
    refine gf_RX2_65 hg X dX2_noteAnswer_25 rfl ?_
    refine g_iload X dX2_noteAnswer_28 rfl rfl ?_
    obtain ⟨c2, h⟩ := ck_e h
    refine g_iald X (ga_13 hg).1 (ga_13 hg).2.1 (ga_13 hg).2.2 (ib_e c2) dX2_noteAnswer_30 rfl ?_
    refine g_iload_n X dX2_noteAnswer_31 rfl rfl ?_
    refine g_icmp_ne X dX2_noteAnswer_32 (tgt := 57) rfl rfl (fun c3 => ?_) (fun c3 => ?_)
    · replace h := if_f c3 h
      exact ok_History_noteAnswer_b57 X Y hg hk17 σ h
    · replace h := if_t c3 h
      refine g_aload_n X dX2_noteAnswer_35 rfl rfl ?_
      refine gf_RX2_15 X dX2_noteAnswer_36 rfl ?_
      refine g_aload_n X dX2_noteAnswer_39 rfl rfl ?_
      refine gf_RX2_9 X dX2_noteAnswer_40 rfl ?_
      refine g_bipush X kB_10 dX2_noteAnswer_43 rfl ?_
      refine g_imul X dX2_noteAnswer_45 rfl ?_
      refine g_iload X dX2_noteAnswer_46 rfl rfl ?_
      refine g_iadd X dX2_noteAnswer_48 rfl ?_
      refine g_aload_n X dX2_noteAnswer_49 rfl rfl ?_
      refine g_aload_n X dX2_noteAnswer_50 rfl rfl ?_
      refine g_iload X dX2_noteAnswer_51 rfl rfl ?_
      obtain ⟨r6, σ5, h4, h⟩ := bd_e h
      refine g_callVI X [.ref (w.1 g), .int x4] (ok_Solver_actOf X.inj h4) my_yX6_actOf mi_yX6_actOf ms_yX6_actOf ml_RX2_70 (by decide) rfl rfl (by decide) rfl dX2_noteAnswer_53 (Nat.le_of_ble_eq_true rfl) rfl rfl ?_
      obtain ⟨c7, h⟩ := ck_e h
      refine g_iast X ar_58.1 ar_58.2.1 ar_58.2.2 (ib_e c7) dX2_noteAnswer_56 rfl (fun σ8 e9 => ?_)
      replace h := lE_c e9 h
      exact ok_History_noteAnswer_b57 X Y hg hk17 σ8 h
def f_History_noteAnswer_l17 (g : Nat) : Int32 → Int32 → St → Option St := lp (fun _ _ _ => none) (f_History_noteAnswer_b17 g) FU
theorem ok_History_noteAnswer_l17 {E : gE} {w : wT} {σ' : St} (X : gC E w cX2_noteAnswer 5 RX2 5) (Y : gQ E w none none σ') {g : Nat} (hg : isG g = true) {x3 : Int32} {x4 : Int32} (σ : St) (h : f_History_noteAnswer_l17 g x3 x4 σ = some σ') : gW E w 5 σ 17 [some (.ref (w.1 7)), some (.ref (w.1 g)), some (.ref (w.1 6)), some (.int x3), some (.int x4)] [] :=
  lp_ind (P := fun (k : Int32 → Int32 → St → Option St) => ∀ (x3 : Int32) (x4 : Int32) (σ : St), k x3 x4 σ = some σ' → gW E w 5 σ 17 [some (.ref (w.1 7)), some (.ref (w.1 g)), some (.ref (w.1 6)), some (.int x3), some (.int x4)] []) (fun _ _ _ hh => nn hh) (fun k hk x3 x4 σ  hh => ok_History_noteAnswer_b17 X Y hg hk σ hh) FU x3 x4 σ  h

def f_History_noteAnswer (g : Nat) (x3 : Int32) (σ : St) : Option St :=
  ck (isG g) <| bd (f_History_reachOf x3 σ) fun r3 σ2 => bd (f_Solver_solve g x3 r3 ((-1000000)) σ2) fun r6 σ5 => f_History_noteAnswer_l17 g x3 0 σ5
set_option maxRecDepth 4000 in
theorem ok_History_noteAnswer {w : wT} (hi : wInj w) {l : Launch} {g : Nat} {x3 : Int32} {σ σ' : St} (h : f_History_noteAnswer g x3 σ = some σ') : gM w l yX2_noteAnswer cX2_noteAnswer 5 none 5 [.ref (w.1 7), .ref (w.1 g), .ref (w.1 6), .int x3] σ none σ' := by
  unfold f_History_noteAnswer at h
  obtain ⟨hg, h⟩ := ck_e h
  refine gM_of hi (by decide) [some (.ref (w.1 7)), some (.ref (w.1 g)), some (.ref (w.1 6)), some (.int x3)] rfl (Nat.le_of_ble_eq_true rfl) (fun E hl X Y => ?_)
  refine g_aload_n X dX2_noteAnswer_0 rfl rfl ?_
  refine g_aload_n X dX2_noteAnswer_1 rfl rfl ?_
  refine g_iload_n X dX2_noteAnswer_2 rfl rfl ?_
  refine g_aload_n X dX2_noteAnswer_3 rfl rfl ?_
  refine g_iload_n X dX2_noteAnswer_4 rfl rfl ?_
  obtain ⟨r3, σ2, h1, h⟩ := bd_e h
  refine g_callVR X [.int x3] (ok_History_reachOf X.inj h1) my_yX2_reachOf mi_yX2_reachOf ms_yX2_reachOf ml_RX2_54 (by decide) rfl rfl (by decide) rfl dX2_noteAnswer_5 (Nat.le_of_ble_eq_true rfl) rfl rfl ?_
  refine g_ldc X dX2_noteAnswer_8 kc_RX2_58 rfl ?_
  obtain ⟨r6, σ5, h4, h⟩ := bd_e h
  refine g_callVJ X [.ref (w.1 g), .int x3, .ref (w.1 r3), .int ((-1000000))] (ok_Solver_solve X.inj h4) my_yX6_solve mi_yX6_solve ms_yX6_solve ml_RX2_59 (by decide) rfl rfl (by decide) rfl dX2_noteAnswer_10 (Nat.le_of_ble_eq_true rfl) rfl rfl ?_
  refine g_pop2 X dX2_noteAnswer_13 rfl rfl ?_
  refine g_iconst X kI_0 dX2_noteAnswer_14 rfl ?_
  refine g_istore X [some (.ref (w.1 7)), some (.ref (w.1 g)), some (.ref (w.1 6)), some (.int x3), some (.int 0)] dX2_noteAnswer_15 (Nat.le_of_ble_eq_true rfl) rfl rfl rfl ?_
  exact ok_History_noteAnswer_l17 X Y hg σ5 h

theorem dX2_putInto_0 : decode cX2_putInto 0 = .ok (.iconst 0, 1) := by decide +kernel
theorem dX2_putInto_1 : decode cX2_putInto 1 = .ok (.istore_n 3, 1) := by decide +kernel
theorem dX2_putInto_2 : decode cX2_putInto 2 = .ok (.iload_n 3, 1) := by decide +kernel
theorem dX2_putInto_3 : decode cX2_putInto 3 = .ok (.bipush 10, 2) := by decide +kernel
theorem dX2_putInto_5 : decode cX2_putInto 5 = .ok (.if_icmp .ge 25, 3) := by decide +kernel
theorem dX2_putInto_8 : decode cX2_putInto 8 = .ok (.aload_n 1, 1) := by decide +kernel
theorem dX2_putInto_9 : decode cX2_putInto 9 = .ok (.iload_n 3, 1) := by decide +kernel
theorem dX2_putInto_10 : decode cX2_putInto 10 = .ok (.aload_n 0, 1) := by decide +kernel
theorem dX2_putInto_11 : decode cX2_putInto 11 = .ok (.getfield 15, 3) := by decide +kernel
theorem dX2_putInto_14 : decode cX2_putInto 14 = .ok (.iload_n 2, 1) := by decide +kernel
theorem dX2_putInto_15 : decode cX2_putInto 15 = .ok (.bipush 10, 2) := by decide +kernel
theorem dX2_putInto_17 : decode cX2_putInto 17 = .ok (.imul, 1) := by decide +kernel
theorem dX2_putInto_18 : decode cX2_putInto 18 = .ok (.iload_n 3, 1) := by decide +kernel
theorem dX2_putInto_19 : decode cX2_putInto 19 = .ok (.iadd, 1) := by decide +kernel
theorem dX2_putInto_20 : decode cX2_putInto 20 = .ok (.iaload, 1) := by decide +kernel
theorem dX2_putInto_21 : decode cX2_putInto 21 = .ok (.invokevirtual 79, 3) := by decide +kernel
theorem dX2_putInto_24 : decode cX2_putInto 24 = .ok (.iinc 3 1, 3) := by decide +kernel
theorem dX2_putInto_27 : decode cX2_putInto 27 = .ok (.goto (-25), 3) := by decide +kernel
theorem dX2_putInto_30 : decode cX2_putInto 30 = .ok (.return_, 1) := by decide +kernel
def f_History_putInto_b2 (q : Nat) (k2 : Int32 → Int32 → St → Option St) (x2 : Int32) (x3 : Int32) (σ : St) : Option St :=
  if (10 : Int32) ≤ x3 then (some σ) else (ck (ib ((x2 * 10) + x3) 600) <| bv (f_Plan_giveAllTo q x3 (rI σ 58 ((x2 * 10) + x3)) σ) fun σ4 => k2 x2 (x3 + 1) σ4)
set_option maxRecDepth 4000 in
theorem ok_History_putInto_b2 {E : gE} {w : wT} {σ' : St} (X : gC E w cX2_putInto 4 RX2 3) (Y : gQ E w none none σ') {q : Nat} (hq : isP q = true) {k2 : Int32 → Int32 → St → Option St} (hk2 : ∀ (x2 : Int32) (x3 : Int32) (σ : St), k2 x2 x3 σ = some σ' → gW E w 4 σ 2 [some (.ref (w.1 7)), some (.ref (w.1 q)), some (.int x2), some (.int x3)] []) {x2 : Int32} {x3 : Int32} (σ : St) (h : f_History_putInto_b2 q k2 x2 x3 σ = some σ') : gW E w 4 σ 2 [some (.ref (w.1 7)), some (.ref (w.1 q)), some (.int x2), some (.int x3)] [] := by
  unfold f_History_putInto_b2 at h
  refine g_iload_n X dX2_putInto_2 rfl rfl ?_
  refine g_bipush X kB_10 dX2_putInto_3 rfl ?_
  refine g_icmp_ge X dX2_putInto_5 (tgt := 30) rfl rfl (fun c1 => ?_) (fun c1 => ?_)
  · replace h := if_t c1 h
    obtain rfl := rv_e h
    exact g_vret X Y dX2_putInto_30
  · replace h := if_f c1 h
    refine g_aload_n X dX2_putInto_8 rfl rfl ?_
    refine g_iload_n X dX2_putInto_9 rfl rfl ?_
    refine g_aload_n X dX2_putInto_10 rfl rfl ?_
    refine gf_RX2_15 X dX2_putInto_11 rfl ?_
    refine g_iload_n X dX2_putInto_14 rfl rfl ?_
    refine g_bipush X kB_10 dX2_putInto_15 rfl ?_
    refine g_imul X dX2_putInto_17 rfl ?_
    refine g_iload_n X dX2_putInto_18 rfl rfl ?_
    refine g_iadd X dX2_putInto_19 rfl ?_
    obtain ⟨c2, h⟩ := ck_e h
    refine g_iald X ar_58.1 ar_58.2.1 ar_58.2.2 (ib_e c2) dX2_putInto_20 rfl ?_
    obtain ⟨σ4, h3, h⟩ := bv_e h
    refine g_callVV X [.int x3, .int (rI σ 58 ((x2 * 10) + x3))] (ok_Plan_giveAllTo X.inj h3) my_yX3_giveAllTo mi_yX3_giveAllTo ms_yX3_giveAllTo ml_RX2_79 (po_ hq).1 (po_ hq).2.1 (po_ hq).2.2 (by decide) rfl dX2_putInto_21 (Nat.le_of_ble_eq_true rfl) rfl rfl ?_
    refine g_iinc X [some (.ref (w.1 7)), some (.ref (w.1 q)), some (.int x2), some (.int (x3 + 1))] dX2_putInto_24 rfl (ii_1 x3) (Nat.le_of_ble_eq_true rfl) rfl rfl rfl ?_
    refine g_goto X dX2_putInto_27 (tgt := 2) rfl ?_
    exact hk2 x2 (x3 + 1) σ4 h
def f_History_putInto_l2 (q : Nat) : Int32 → Int32 → St → Option St := lp (fun _ _ _ => none) (f_History_putInto_b2 q) FU
theorem ok_History_putInto_l2 {E : gE} {w : wT} {σ' : St} (X : gC E w cX2_putInto 4 RX2 3) (Y : gQ E w none none σ') {q : Nat} (hq : isP q = true) {x2 : Int32} {x3 : Int32} (σ : St) (h : f_History_putInto_l2 q x2 x3 σ = some σ') : gW E w 4 σ 2 [some (.ref (w.1 7)), some (.ref (w.1 q)), some (.int x2), some (.int x3)] [] :=
  lp_ind (P := fun (k : Int32 → Int32 → St → Option St) => ∀ (x2 : Int32) (x3 : Int32) (σ : St), k x2 x3 σ = some σ' → gW E w 4 σ 2 [some (.ref (w.1 7)), some (.ref (w.1 q)), some (.int x2), some (.int x3)] []) (fun _ _ _ hh => nn hh) (fun k hk x2 x3 σ  hh => ok_History_putInto_b2 X Y hq hk σ hh) FU x2 x3 σ  h

def f_History_putInto (q : Nat) (x2 : Int32) (σ : St) : Option St :=
  ck (isP q) <| f_History_putInto_l2 q x2 0 σ
set_option maxRecDepth 4000 in
theorem ok_History_putInto {w : wT} (hi : wInj w) {l : Launch} {q : Nat} {x2 : Int32} {σ σ' : St} (h : f_History_putInto q x2 σ = some σ') : gM w l yX2_putInto cX2_putInto 4 none 3 [.ref (w.1 7), .ref (w.1 q), .int x2] σ none σ' := by
  unfold f_History_putInto at h
  obtain ⟨hq, h⟩ := ck_e h
  refine gM_of hi (by decide) [some (.ref (w.1 7)), some (.ref (w.1 q)), some (.int x2)] rfl (Nat.le_of_ble_eq_true rfl) (fun E hl X Y => ?_)
  refine g_iconst X kI_0 dX2_putInto_0 rfl ?_
  refine g_istore_n X [some (.ref (w.1 7)), some (.ref (w.1 q)), some (.int x2), some (.int 0)] dX2_putInto_1 (Nat.le_of_ble_eq_true rfl) rfl rfl rfl ?_
  exact ok_History_putInto_l2 X Y hq σ h
