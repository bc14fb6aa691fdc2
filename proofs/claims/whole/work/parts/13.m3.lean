theorem dX2_addReach_0 : decode cX2_addReach 0 = .ok (.aload_n 0, 1) := by decide +kernel
theorem dX2_addReach_1 : decode cX2_addReach 1 = .ok (.iload_n 2, 1) := by decide +kernel
theorem dX2_addReach_2 : decode cX2_addReach 2 = .ok (.invokevirtual 54, 3) := by decide +kernel
theorem dX2_addReach_5 : decode cX2_addReach 5 = .ok (.astore_n 3, 1) := by decide +kernel
theorem dX2_addReach_6 : decode cX2_addReach 6 = .ok (.aload_n 0, 1) := by decide +kernel
theorem dX2_addReach_7 : decode cX2_addReach 7 = .ok (.getfield 29, 3) := by decide +kernel
theorem dX2_addReach_10 : decode cX2_addReach 10 = .ok (.aload_n 1, 1) := by decide +kernel
theorem dX2_addReach_11 : decode cX2_addReach 11 = .ok (.iload_n 2, 1) := by decide +kernel
theorem dX2_addReach_12 : decode cX2_addReach 12 = .ok (.aload_n 0, 1) := by decide +kernel
theorem dX2_addReach_13 : decode cX2_addReach 13 = .ok (.getfield 33, 3) := by decide +kernel
theorem dX2_addReach_16 : decode cX2_addReach 16 = .ok (.invokevirtual 74, 3) := by decide +kernel
theorem dX2_addReach_19 : decode cX2_addReach 19 = .ok (.iconst 0, 1) := by decide +kernel
theorem dX2_addReach_20 : decode cX2_addReach 20 = .ok (.istore 4, 2) := by decide +kernel
theorem dX2_addReach_22 : decode cX2_addReach 22 = .ok (.iload 4, 2) := by decide +kernel
theorem dX2_addReach_24 : decode cX2_addReach 24 = .ok (.aload_n 1, 1) := by decide +kernel
theorem dX2_addReach_25 : decode cX2_addReach 25 = .ok (.getfield 78, 3) := by decide +kernel
theorem dX2_addReach_28 : decode cX2_addReach 28 = .ok (.if_icmp .ge 23, 3) := by decide +kernel
theorem dX2_addReach_31 : decode cX2_addReach 31 = .ok (.aload_n 3, 1) := by decide +kernel
theorem dX2_addReach_32 : decode cX2_addReach 32 = .ok (.iload 4, 2) := by decide +kernel
theorem dX2_addReach_34 : decode cX2_addReach 34 = .ok (.dup2, 1) := by decide +kernel
theorem dX2_addReach_35 : decode cX2_addReach 35 = .ok (.laload, 1) := by decide +kernel
theorem dX2_addReach_36 : decode cX2_addReach 36 = .ok (.aload_n 0, 1) := by decide +kernel
theorem dX2_addReach_37 : decode cX2_addReach 37 = .ok (.getfield 33, 3) := by decide +kernel
theorem dX2_addReach_40 : decode cX2_addReach 40 = .ok (.iload 4, 2) := by decide +kernel
theorem dX2_addReach_42 : decode cX2_addReach 42 = .ok (.laload, 1) := by decide +kernel
theorem dX2_addReach_43 : decode cX2_addReach 43 = .ok (.ladd, 1) := by decide +kernel
theorem dX2_addReach_44 : decode cX2_addReach 44 = .ok (.lastore, 1) := by decide +kernel
theorem dX2_addReach_45 : decode cX2_addReach 45 = .ok (.iinc 4 1, 3) := by decide +kernel
theorem dX2_addReach_48 : decode cX2_addReach 48 = .ok (.goto (-26), 3) := by decide +kernel
theorem dX2_addReach_51 : decode cX2_addReach 51 = .ok (.return_, 1) := by decide +kernel
def f_History_addReach_b22 (g : Nat) (k22 : Nat → Int32 → St → Option St) (g3 : Nat) (x4 : Int32) (σ : St) : Option St :=
  if (rF σ (g + 10)) ≤ x4 then (some σ) else (ck (ib x4 60) <| ck (ib x4 60) <| ck (ib x4 60) <| lE (stL σ g3 x4.toNatClampNeg ((rL σ g3 x4) + (rL σ 61 x4))) fun σ5 => k22 g3 (x4 + 1) σ5)
set_option maxRecDepth 4000 in
theorem ok_History_addReach_b22 {E : gE} {w : wT} {σ' : St} (X : gC E w cX2_addReach 5 RX2 3) (Y : gQ E w none none σ') {g : Nat} (hg : isG g = true) {k22 : Nat → Int32 → St → Option St} (hk22 : ∀ (g3 : Nat) (x4 : Int32) (σ : St), isL g3 = true → k22 g3 x4 σ = some σ' → gW E w 5 σ 22 [some (.ref (w.1 7)), some (.ref (w.1 g)), none, some (.ref (w.1 g3)), some (.int x4)] []) {g3 : Nat} {x4 : Int32} (hg3 : isL g3 = true) (σ : St) (h : f_History_addReach_b22 g k22 g3 x4 σ = some σ') : gW E w 5 σ 22 [some (.ref (w.1 7)), some (.ref (w.1 g)), none, some (.ref (w.1 g3)), some (.int x4)] [] := by
  unfold f_History_addReach_b22 at h
  refine g_iload X dX2_addReach_22 rfl rfl ?_
  refine g_aload_n X dX2_addReach_24 rfl rfl ?_
  refine gf_RX2_78 hg X dX2_addReach_25 rfl ?_
  refine g_icmp_ge X dX2_addReach_28 (tgt := 51) rfl rfl (fun c1 => ?_) (fun c1 => ?_)
  · replace h := if_t c1 h
    obtain rfl := rv_e h
    exact g_vret X Y dX2_addReach_51
  · replace h := if_f c1 h
    refine g_aload_n X dX2_addReach_31 rfl rfl ?_
    refine g_iload X dX2_addReach_32 rfl rfl ?_
    refine g_dup2 X dX2_addReach_34 rfl rfl rfl ?_
    obtain ⟨c2, h⟩ := ck_e h
    refine g_lald X (isL_e hg3).1 (isL_e hg3).2.1 (isL_e hg3).2.2 (ib_e c2) dX2_addReach_35 rfl ?_
    refine g_aload_n X dX2_addReach_36 rfl rfl ?_
    refine gf_RX2_33 X dX2_addReach_37 rfl ?_
    refine g_iload X dX2_addReach_40 rfl rfl ?_
    obtain ⟨c3, h⟩ := ck_e h
    refine g_lald X ar_61.1 ar_61.2.1 ar_61.2.2 (ib_e c3) dX2_addReach_42 rfl ?_
    refine g_ladd X dX2_addReach_43 rfl ?_
    obtain ⟨c4, h⟩ := ck_e h
    refine g_last X (isL_e hg3).1 (isL_e hg3).2.1 (isL_e hg3).2.2 (ib_e c4) dX2_addReach_44 rfl (fun σ5 e6 => ?_)
    replace h := lE_c e6 h
    refine g_iinc X [some (.ref (w.1 7)), some (.ref (w.1 g)), none, some (.ref (w.1 g3)), some (.int (x4 + 1))] dX2_addReach_45 rfl (ii_1 x4) (Nat.le_of_ble_eq_true rfl) rfl rfl rfl ?_
    refine g_goto X dX2_addReach_48 (tgt := 22) rfl ?_
    exact hk22 g3 (x4 + 1) σ5 hg3 h
def f_History_addReach_l22 (g : Nat) : Nat → Int32 → St → Option St := lp (fun _ _ _ => none) (f_History_addReach_b22 g) FU
theorem ok_History_addReach_l22 {E : gE} {w : wT} {σ' : St} (X : gC E w cX2_addReach 5 RX2 3) (Y : gQ E w none none σ') {g : Nat} (hg : isG g = true) {g3 : Nat} {x4 : Int32} (hg3 : isL g3 = true) (σ : St) (h : f_History_addReach_l22 g g3 x4 σ = some σ') : gW E w 5 σ 22 [some (.ref (w.1 7)), some (.ref (w.1 g)), none, some (.ref (w.1 g3)), some (.int x4)] [] :=
  lp_ind (P := fun (k : Nat → Int32 → St → Option St) => ∀ (g3 : Nat) (x4 : Int32) (σ : St), isL g3 = true → k g3 x4 σ = some σ' → gW E w 5 σ 22 [some (.ref (w.1 7)), some (.ref (w.1 g)), none, some (.ref (w.1 g3)), some (.int x4)] []) (fun _ _ _ _ hh => nn hh) (fun k hk g3 x4 σ hg3 hh => ok_History_addReach_b22 X Y hg hk hg3 σ hh) FU g3 x4 σ hg3 h

def f_History_addReach (g : Nat) (x2 : Int32) (σ : St) : Option St :=
  ck (isG g) <| bd (f_History_reachOf x2 σ) fun r3 σ2 => bv (f_Plan_workOut 5 g x2 61 σ2) fun σ5 => ck (isL r3) <| f_History_addReach_l22 g r3 0 σ5
set_option maxRecDepth 4000 in
theorem ok_History_addReach {w : wT} (hi : wInj w) {l : Launch} {g : Nat} {x2 : Int32} {σ σ' : St} (h : f_History_addReach g x2 σ = some σ') : gM w l yX2_addReach cX2_addReach 5 none 3 [.ref (w.1 7), .ref (w.1 g), .int x2] σ none σ' := by
  unfold f_History_addReach at h
  obtain ⟨hg, h⟩ := ck_e h
  refine gM_of hi (by decide) [some (.ref (w.1 7)), some (.ref (w.1 g)), some (.int x2)] rfl (Nat.le_of_ble_eq_true rfl) (fun E hl X Y => ?_)
  refine g_aload_n X dX2_addReach_0 rfl rfl ?_
  refine g_iload_n X dX2_addReach_1 rfl rfl ?_
  obtain ⟨r3, σ2, h1, h⟩ := bd_e h
  refine g_callVR X [.int x2] (ok_History_reachOf X.inj h1) my_yX2_reachOf mi_yX2_reachOf ms_yX2_reachOf ml_RX2_54 (by decide) rfl rfl (by decide) rfl dX2_addReach_2 (Nat.le_of_ble_eq_true rfl) rfl rfl ?_
  refine g_astore_n X [some (.ref (w.1 7)), some (.ref (w.1 g)), some (.int x2), some (.ref (w.1 r3))] dX2_addReach_5 (Nat.le_of_ble_eq_true rfl) rfl rfl rfl ?_
  refine g_aload_n X dX2_addReach_6 rfl rfl ?_
  refine gf_RX2_29 X dX2_addReach_7 rfl ?_
  refine g_aload_n X dX2_addReach_10 rfl rfl ?_
  refine g_iload_n X dX2_addReach_11 rfl rfl ?_
  refine g_aload_n X dX2_addReach_12 rfl rfl ?_
  refine gf_RX2_33 X dX2_addReach_13 rfl ?_
  obtain ⟨σ5, h4, h⟩ := bv_e h
  refine g_callVV X [.ref (w.1 g), .int x2, .ref (w.1 61)] (ok_Plan_workOut X.inj h4) my_yX3_workOut mi_yX3_workOut ms_yX3_workOut ml_RX2_74 (po_ (by decide : isP 5 = true)).1 (po_ (by decide : isP 5 = true)).2.1 (po_ (by decide : isP 5 = true)).2.2 (by decide) rfl dX2_addReach_16 (Nat.le_of_ble_eq_true rfl) rfl rfl ?_
  refine g_iconst X kI_0 dX2_addReach_19 rfl ?_
  refine g_istore X [some (.ref (w.1 7)), some (.ref (w.1 g)), some (.int x2), some (.ref (w.1 r3)), some (.int 0)] dX2_addReach_20 (Nat.le_of_ble_eq_true rfl) rfl rfl rfl ?_
  obtain ⟨c6, h⟩ := ck_e h
  exact g_le (lle_s (lle_s (lle_k (lle_s (lle_s (lle_0)))))) (ok_History_addReach_l22 X Y hg c6 σ5 h)

theorem dX2_playOn_0 : decode cX2_playOn 0 = .ok (.aload_n 0, 1) := by decide +kernel
theorem dX2_playOn_1 : decode cX2_playOn 1 = .ok (.getfield 9, 3) := by decide +kernel
theorem dX2_playOn_4 : decode cX2_playOn 4 = .ok (.bipush 60, 2) := by decide +kernel
theorem dX2_playOn_6 : decode cX2_playOn 6 = .ok (.if_icmp .lt 4, 3) := by decide +kernel
theorem dX2_playOn_9 : decode cX2_playOn 9 = .ok (.return_, 1) := by decide +kernel
theorem dX2_playOn_10 : decode cX2_playOn 10 = .ok (.iconst 0, 1) := by decide +kernel
theorem dX2_playOn_11 : decode cX2_playOn 11 = .ok (.istore_n 3, 1) := by decide +kernel
theorem dX2_playOn_12 : decode cX2_playOn 12 = .ok (.iload_n 3, 1) := by decide +kernel
theorem dX2_playOn_13 : decode cX2_playOn 13 = .ok (.bipush 10, 2) := by decide +kernel
theorem dX2_playOn_15 : decode cX2_playOn 15 = .ok (.if_icmp .ge 24, 3) := by decide +kernel
theorem dX2_playOn_18 : decode cX2_playOn 18 = .ok (.aload_n 0, 1) := by decide +kernel
theorem dX2_playOn_19 : decode cX2_playOn 19 = .ok (.getfield 15, 3) := by decide +kernel
theorem dX2_playOn_22 : decode cX2_playOn 22 = .ok (.aload_n 0, 1) := by decide +kernel
theorem dX2_playOn_23 : decode cX2_playOn 23 = .ok (.getfield 9, 3) := by decide +kernel
theorem dX2_playOn_26 : decode cX2_playOn 26 = .ok (.bipush 10, 2) := by decide +kernel
theorem dX2_playOn_28 : decode cX2_playOn 28 = .ok (.imul, 1) := by decide +kernel
theorem dX2_playOn_29 : decode cX2_playOn 29 = .ok (.iload_n 3, 1) := by decide +kernel
theorem dX2_playOn_30 : decode cX2_playOn 30 = .ok (.iadd, 1) := by decide +kernel
theorem dX2_playOn_31 : decode cX2_playOn 31 = .ok (.iconst 0, 1) := by decide +kernel
theorem dX2_playOn_32 : decode cX2_playOn 32 = .ok (.iastore, 1) := by decide +kernel
theorem dX2_playOn_33 : decode cX2_playOn 33 = .ok (.iinc 3 1, 3) := by decide +kernel
theorem dX2_playOn_36 : decode cX2_playOn 36 = .ok (.goto (-24), 3) := by decide +kernel
theorem dX2_playOn_39 : decode cX2_playOn 39 = .ok (.aload_n 0, 1) := by decide +kernel
theorem dX2_playOn_40 : decode cX2_playOn 40 = .ok (.getfield 9, 3) := by decide +kernel
theorem dX2_playOn_43 : decode cX2_playOn 43 = .ok (.ifCond .le 17, 3) := by decide +kernel
theorem dX2_playOn_46 : decode cX2_playOn 46 = .ok (.aload_n 0, 1) := by decide +kernel
theorem dX2_playOn_47 : decode cX2_playOn 47 = .ok (.aload_n 1, 1) := by decide +kernel
theorem dX2_playOn_48 : decode cX2_playOn 48 = .ok (.aload_n 2, 1) := by decide +kernel
theorem dX2_playOn_49 : decode cX2_playOn 49 = .ok (.iconst 0, 1) := by decide +kernel
theorem dX2_playOn_50 : decode cX2_playOn 50 = .ok (.invokevirtual 42, 3) := by decide +kernel
theorem dX2_playOn_53 : decode cX2_playOn 53 = .ok (.aload_n 0, 1) := by decide +kernel
theorem dX2_playOn_54 : decode cX2_playOn 54 = .ok (.aload_n 1, 1) := by decide +kernel
theorem dX2_playOn_55 : decode cX2_playOn 55 = .ok (.aload_n 2, 1) := by decide +kernel
theorem dX2_playOn_56 : decode cX2_playOn 56 = .ok (.iconst 1, 1) := by decide +kernel
theorem dX2_playOn_57 : decode cX2_playOn 57 = .ok (.invokevirtual 42, 3) := by decide +kernel
theorem dX2_playOn_60 : decode cX2_playOn 60 = .ok (.aload_n 0, 1) := by decide +kernel
theorem dX2_playOn_61 : decode cX2_playOn 61 = .ok (.aload_n 0, 1) := by decide +kernel
theorem dX2_playOn_62 : decode cX2_playOn 62 = .ok (.getfield 29, 3) := by decide +kernel
theorem dX2_playOn_65 : decode cX2_playOn 65 = .ok (.aload_n 0, 1) := by decide +kernel
theorem dX2_playOn_66 : decode cX2_playOn 66 = .ok (.getfield 9, 3) := by decide +kernel
theorem dX2_playOn_69 : decode cX2_playOn 69 = .ok (.invokevirtual 46, 3) := by decide +kernel
theorem dX2_playOn_72 : decode cX2_playOn 72 = .ok (.aload_n 0, 1) := by decide +kernel
theorem dX2_playOn_73 : decode cX2_playOn 73 = .ok (.aload_n 1, 1) := by decide +kernel
theorem dX2_playOn_74 : decode cX2_playOn 74 = .ok (.iconst 0, 1) := by decide +kernel
theorem dX2_playOn_75 : decode cX2_playOn 75 = .ok (.invokevirtual 50, 3) := by decide +kernel
theorem dX2_playOn_78 : decode cX2_playOn 78 = .ok (.aload_n 0, 1) := by decide +kernel
theorem dX2_playOn_79 : decode cX2_playOn 79 = .ok (.aload_n 1, 1) := by decide +kernel
theorem dX2_playOn_80 : decode cX2_playOn 80 = .ok (.iconst 1, 1) := by decide +kernel
theorem dX2_playOn_81 : decode cX2_playOn 81 = .ok (.invokevirtual 50, 3) := by decide +kernel
theorem dX2_playOn_84 : decode cX2_playOn 84 = .ok (.aload_n 0, 1) := by decide +kernel
theorem dX2_playOn_85 : decode cX2_playOn 85 = .ok (.dup, 1) := by decide +kernel
theorem dX2_playOn_86 : decode cX2_playOn 86 = .ok (.getfield 9, 3) := by decide +kernel
theorem dX2_playOn_89 : decode cX2_playOn 89 = .ok (.iconst 1, 1) := by decide +kernel
theorem dX2_playOn_90 : decode cX2_playOn 90 = .ok (.iadd, 1) := by decide +kernel
theorem dX2_playOn_91 : decode cX2_playOn 91 = .ok (.putfield 9, 3) := by decide +kernel
theorem dX2_playOn_94 : decode cX2_playOn 94 = .ok (.return_, 1) := by decide +kernel
def f_History_playOn_b60 (g : Nat) (σ : St) : Option St :=
  bv (f_History_putInto 5 (rF σ 11) σ) fun σ2 => bv (f_History_addReach g 0 σ2) fun σ4 => bv (f_History_addReach g 1 σ4) fun σ6 => lE (stF σ6 11 ((rF σ6 11) + 1)) fun σ7 => some σ7
set_option maxRecDepth 4000 in
theorem ok_History_playOn_b60 {E : gE} {w : wT} {σ' : St} (X : gC E w cX2_playOn 4 RX2 6) (Y : gQ E w none none σ') {g : Nat} (hg : isG g = true) (σ : St) (h : f_History_playOn_b60 g σ = some σ') : gW E w 4 σ 60 [some (.ref (w.1 7)), some (.ref (w.1 g))] [] := by
  unfold f_History_playOn_b60 at h
  refine g_aload_n X dX2_playOn_60 rfl rfl ?_
  refine g_aload_n X dX2_playOn_61 rfl rfl ?_
  refine gf_RX2_29 X dX2_playOn_62 rfl ?_
  refine g_aload_n X dX2_playOn_65 rfl rfl ?_
  refine gf_RX2_9 X dX2_playOn_66 rfl ?_
  obtain ⟨σ2, h1, h⟩ := bv_e h
  refine g_callVV X [.ref (w.1 5), .int (rF σ 11)] (ok_History_putInto X.inj h1) my_yX2_putInto mi_yX2_putInto ms_yX2_putInto ml_RX2_46 (by decide) rfl rfl (by decide) rfl dX2_playOn_69 (Nat.le_of_ble_eq_true rfl) rfl rfl ?_
  refine g_aload_n X dX2_playOn_72 rfl rfl ?_
  refine g_aload_n X dX2_playOn_73 rfl rfl ?_
  refine g_iconst X kI_0 dX2_playOn_74 rfl ?_
  obtain ⟨σ4, h3, h⟩ := bv_e h
  refine g_callVV X [.ref (w.1 g), .int 0] (ok_History_addReach X.inj h3) my_yX2_addReach mi_yX2_addReach ms_yX2_addReach ml_RX2_50 (by decide) rfl rfl (by decide) rfl dX2_playOn_75 (Nat.le_of_ble_eq_true rfl) rfl rfl ?_
  refine g_aload_n X dX2_playOn_78 rfl rfl ?_
  refine g_aload_n X dX2_playOn_79 rfl rfl ?_
  refine g_iconst X kI_1 dX2_playOn_80 rfl ?_
  obtain ⟨σ6, h5, h⟩ := bv_e h
  refine g_callVV X [.ref (w.1 g), .int 1] (ok_History_addReach X.inj h5) my_yX2_addReach mi_yX2_addReach ms_yX2_addReach ml_RX2_50 (by decide) rfl rfl (by decide) rfl dX2_playOn_81 (Nat.le_of_ble_eq_true rfl) rfl rfl ?_
  refine g_aload_n X dX2_playOn_84 rfl rfl ?_
  refine g_dup X dX2_playOn_85 rfl rfl ?_
  refine gf_RX2_9 X dX2_playOn_86 rfl ?_
  refine g_iconst X kI_1 dX2_playOn_89 rfl ?_
  refine g_iadd X dX2_playOn_90 rfl ?_
  refine gp_RX2_9 X dX2_playOn_91 rfl (fun σ7 e8 => ?_)
  replace h := lE_c e8 h
  obtain rfl := rv_e h
  exact g_vret X Y dX2_playOn_94

def f_History_playOn_b12 (g : Nat) (k12 : Int32 → St → Option St) (x3 : Int32) (σ : St) : Option St :=
  if (10 : Int32) ≤ x3 then (if (rF σ 11) ≤ 0 then (f_History_playOn_b60 g σ) else (bv (f_History_noteAnswer g 0 σ) fun σ4 => bv (f_History_noteAnswer g 1 σ4) fun σ6 => f_History_playOn_b60 g σ6)) else (ck (ib (((rF σ 11) * 10) + x3) 600) <| lE (stA σ 58 (((rF σ 11) * 10) + x3).toNatClampNeg 0) fun σ8 => k12 (x3 + 1) σ8)
set_option maxRecDepth 4000 in
theorem ok_History_playOn_b12 {E : gE} {w : wT} {σ' : St} (X : gC E w cX2_playOn 4 RX2 6) (Y : gQ E w none none σ') {g : Nat} (hg : isG g = true) {k12 : Int32 → St → Option St} (hk12 : ∀ (x3 : Int32) (σ : St), k12 x3 σ = some σ' → gW E w 4 σ 12 [some (.ref (w.1 7)), some (.ref (w.1 g)), some (.ref (w.1 6)), some (.int x3)] []) {x3 : Int32} (σ : St) (h : f_History_playOn_b12 g k12 x3 σ = some σ') : gW E w 4 σ 12 [some (.ref (w.1 7)), some (.ref (w.1 g)), some (.ref (w.1 6)), some (.int x3)] [] := by
  unfold f_History_playOn_b12 at h
  refine g_iload_n X dX2_playOn_12 rfl rfl ?_
  refine g_bipush X kB_10 dX2_playOn_13 rfl ?_
  refine g_icmp_ge X dX2_playOn_15 (tgt := 39) rfl rfl (fun c1 => ?_) (fun c1 => ?_)
  · replace h := if_t c1 h
    refine g_aload_n X dX2_playOn_39 rfl rfl ?_
    refine gf_RX2_9 X dX2_playOn_40 rfl ?_
    refine g_if_le X dX2_playOn_43 (tgt := 60) rfl rfl (fun c2 => ?_) (fun c2 => ?_)
    · replace h := if_t c2 h
      exact g_le (lle_s (lle_s (lle_0))) (ok_History_playOn_b60 X Y hg σ h)
    · replace h := if_f c2 h
      refine g_aload_n X dX2_playOn_46 rfl rfl ?_
      refine g_aload_n X dX2_playOn_47 rfl rfl ?_
      refine g_aload_n X dX2_playOn_48 rfl rfl ?_
      refine g_iconst X kI_0 dX2_playOn_49 rfl ?_
      obtain ⟨σ4, h3, h⟩ := bv_e h
      refine g_callVV X [.ref (w.1 g), .ref (w.1 6), .int 0] (ok_History_noteAnswer X.inj h3) my_yX2_noteAnswer mi_yX2_noteAnswer ms_yX2_noteAnswer ml_RX2_42 (by decide) rfl rfl (by decide) rfl dX2_playOn_50 (Nat.le_of_ble_eq_true rfl) rfl rfl ?_
      refine g_aload_n X dX2_playOn_53 rfl rfl ?_
      refine g_aload_n X dX2_playOn_54 rfl rfl ?_
      refine g_aload_n X dX2_playOn_55 rfl rfl ?_
      refine g_iconst X kI_1 dX2_playOn_56 rfl ?_
      obtain ⟨σ6, h5, h⟩ := bv_e h
      refine g_callVV X [.ref (w.1 g), .ref (w.1 6), .int 1] (ok_History_noteAnswer X.inj h5) my_yX2_noteAnswer mi_yX2_noteAnswer ms_yX2_noteAnswer ml_RX2_42 (by decide) rfl rfl (by decide) rfl dX2_playOn_57 (Nat.le_of_ble_eq_true rfl) rfl rfl ?_
      exact g_le (lle_s (lle_s (lle_0))) (ok_History_playOn_b60 X Y hg σ6 h)
  · replace h := if_f c1 h
    refine g_aload_n X dX2_playOn_18 rfl rfl ?_
    refine gf_RX2_15 X dX2_playOn_19 rfl ?_
    refine g_aload_n X dX2_playOn_22 rfl rfl ?_
    refine gf_RX2_9 X dX2_playOn_23 rfl ?_
    refine g_bipush X kB_10 dX2_playOn_26 rfl ?_
    refine g_imul X dX2_playOn_28 rfl ?_
    refine g_iload_n X dX2_playOn_29 rfl rfl ?_
    refine g_iadd X dX2_playOn_30 rfl ?_
    refine g_iconst X kI_0 dX2_playOn_31 rfl ?_
    obtain ⟨c7, h⟩ := ck_e h
    refine g_iast X ar_58.1 ar_58.2.1 ar_58.2.2 (ib_e c7) dX2_playOn_32 rfl (fun σ8 e9 => ?_)
    replace h := lE_c e9 h
    refine g_iinc X [some (.ref (w.1 7)), some (.ref (w.1 g)), some (.ref (w.1 6)), some (.int (x3 + 1))] dX2_playOn_33 rfl (ii_1 x3) (Nat.le_of_ble_eq_true rfl) rfl rfl rfl ?_
    refine g_goto X dX2_playOn_36 (tgt := 12) rfl ?_
    exact hk12 (x3 + 1) σ8 h
def f_History_playOn_l12 (g : Nat) : Int32 → St → Option St := lp (fun _ _ => none) (f_History_playOn_b12 g) FU
theorem ok_History_playOn_l12 {E : gE} {w : wT} {σ' : St} (X : gC E w cX2_playOn 4 RX2 6) (Y : gQ E w none none σ') {g : Nat} (hg : isG g = true) {x3 : Int32} (σ : St) (h : f_History_playOn_l12 g x3 σ = some σ') : gW E w 4 σ 12 [some (.ref (w.1 7)), some (.ref (w.1 g)), some (.ref (w.1 6)), some (.int x3)] [] :=
  lp_ind (P := fun (k : Int32 → St → Option St) => ∀ (x3 : Int32) (σ : St), k x3 σ = some σ' → gW E w 4 σ 12 [some (.ref (w.1 7)), some (.ref (w.1 g)), some (.ref (w.1 6)), some (.int x3)] []) (fun _ _ hh => nn hh) (fun k hk x3 σ  hh => ok_History_playOn_b12 X Y hg hk σ hh) FU x3 σ  h

def f_History_playOn (g : Nat) (σ : St) : Option St :=
  ck (isG g) <| if (rF σ 11) < 60 then (f_History_playOn_l12 g 0 σ) else (some σ)
set_option maxRecDepth 4000 in
theorem ok_History_playOn {w : wT} (hi : wInj w) {l : Launch} {g : Nat} {σ σ' : St} (h : f_History_playOn g σ = some σ') : gM w l yX2_playOn cX2_playOn 4 none 6 [.ref (w.1 7), .ref (w.1 g), .ref (w.1 6)] σ none σ' := by
  unfold f_History_playOn at h
  obtain ⟨hg, h⟩ := ck_e h
  refine gM_of hi (by decide) [some (.ref (w.1 7)), some (.ref (w.1 g)), some (.ref (w.1 6))] rfl (Nat.le_of_ble_eq_true rfl) (fun E hl X Y => ?_)
  refine g_aload_n X dX2_playOn_0 rfl rfl ?_
  refine gf_RX2_9 X dX2_playOn_1 rfl ?_
  refine g_bipush X kB_60 dX2_playOn_4 rfl ?_
  refine g_icmp_lt X dX2_playOn_6 (tgt := 10) rfl rfl (fun c1 => ?_) (fun c1 => ?_)
  · replace h := if_t c1 h
    refine g_iconst X kI_0 dX2_playOn_10 rfl ?_
    refine g_istore_n X [some (.ref (w.1 7)), some (.ref (w.1 g)), some (.ref (w.1 6)), some (.int 0)] dX2_playOn_11 (Nat.le_of_ble_eq_true rfl) rfl rfl rfl ?_
    exact ok_History_playOn_l12 X Y hg σ h
  · replace h := if_f c1 h
    obtain rfl := rv_e h
    exact g_vret X Y dX2_playOn_9

theorem dX8_rounds_0 : decode cX8_rounds 0 = .ok (.iload_n 1, 1) := by decide +kernel
theorem dX8_rounds_1 : decode cX8_rounds 1 = .ok (.iconst 1, 1) := by decide +kernel
theorem dX8_rounds_2 : decode cX8_rounds 2 = .ok (.if_icmp .lt 9, 3) := by decide +kernel
theorem dX8_rounds_5 : decode cX8_rounds 5 = .ok (.iload_n 1, 1) := by decide +kernel
theorem dX8_rounds_6 : decode cX8_rounds 6 = .ok (.bipush 60, 2) := by decide +kernel
theorem dX8_rounds_8 : decode cX8_rounds 8 = .ok (.if_icmp .le 7, 3) := by decide +kernel
theorem dX8_rounds_11 : decode cX8_rounds 11 = .ok (.ldc2_w 83, 3) := by decide +kernel
theorem dX8_rounds_14 : decode cX8_rounds 14 = .ok (.lreturn, 1) := by decide +kernel
theorem dX8_rounds_15 : decode cX8_rounds 15 = .ok (.aload_n 0, 1) := by decide +kernel
theorem dX8_rounds_16 : decode cX8_rounds 16 = .ok (.invokevirtual 205, 3) := by decide +kernel
theorem dX8_rounds_19 : decode cX8_rounds 19 = .ok (.ifCond .eq 27, 3) := by decide +kernel
theorem dX8_rounds_22 : decode cX8_rounds 22 = .ok (.aload_n 0, 1) := by decide +kernel
theorem dX8_rounds_23 : decode cX8_rounds 23 = .ok (.getfield 65, 3) := by decide +kernel
theorem dX8_rounds_26 : decode cX8_rounds 26 = .ok (.getfield 181, 3) := by decide +kernel
theorem dX8_rounds_29 : decode cX8_rounds 29 = .ok (.iconst 0, 1) := by decide +kernel
theorem dX8_rounds_30 : decode cX8_rounds 30 = .ok (.baload, 1) := by decide +kernel
theorem dX8_rounds_31 : decode cX8_rounds 31 = .ok (.ifCond .ne 15, 3) := by decide +kernel
theorem dX8_rounds_34 : decode cX8_rounds 34 = .ok (.aload_n 0, 1) := by decide +kernel
theorem dX8_rounds_35 : decode cX8_rounds 35 = .ok (.getfield 65, 3) := by decide +kernel
theorem dX8_rounds_38 : decode cX8_rounds 38 = .ok (.getfield 181, 3) := by decide +kernel
theorem dX8_rounds_41 : decode cX8_rounds 41 = .ok (.iconst 1, 1) := by decide +kernel
theorem dX8_rounds_42 : decode cX8_rounds 42 = .ok (.baload, 1) := by decide +kernel
theorem dX8_rounds_43 : decode cX8_rounds 43 = .ok (.ifCond .eq 7, 3) := by decide +kernel
theorem dX8_rounds_46 : decode cX8_rounds 46 = .ok (.ldc2_w 213, 3) := by decide +kernel
theorem dX8_rounds_49 : decode cX8_rounds 49 = .ok (.lreturn, 1) := by decide +kernel
theorem dX8_rounds_50 : decode cX8_rounds 50 = .ok (.bipush 60, 2) := by decide +kernel
theorem dX8_rounds_52 : decode cX8_rounds 52 = .ok (.aload_n 0, 1) := by decide +kernel
theorem dX8_rounds_53 : decode cX8_rounds 53 = .ok (.getfield 47, 3) := by decide +kernel
theorem dX8_rounds_56 : decode cX8_rounds 56 = .ok (.getfield 242, 3) := by decide +kernel
theorem dX8_rounds_59 : decode cX8_rounds 59 = .ok (.iload_n 1, 1) := by decide +kernel
theorem dX8_rounds_60 : decode cX8_rounds 60 = .ok (.iadd, 1) := by decide +kernel
theorem dX8_rounds_61 : decode cX8_rounds 61 = .ok (.invokestatic 243, 3) := by decide +kernel
theorem dX8_rounds_64 : decode cX8_rounds 64 = .ok (.istore_n 2, 1) := by decide +kernel
theorem dX8_rounds_65 : decode cX8_rounds 65 = .ok (.aload_n 0, 1) := by decide +kernel
theorem dX8_rounds_66 : decode cX8_rounds 66 = .ok (.getfield 47, 3) := by decide +kernel
theorem dX8_rounds_69 : decode cX8_rounds 69 = .ok (.getfield 242, 3) := by decide +kernel
theorem dX8_rounds_72 : decode cX8_rounds 72 = .ok (.istore_n 3, 1) := by decide +kernel
theorem dX8_rounds_73 : decode cX8_rounds 73 = .ok (.iload_n 3, 1) := by decide +kernel
theorem dX8_rounds_74 : decode cX8_rounds 74 = .ok (.iload_n 2, 1) := by decide +kernel
theorem dX8_rounds_75 : decode cX8_rounds 75 = .ok (.if_icmp .ge 24, 3) := by decide +kernel
theorem dX8_rounds_78 : decode cX8_rounds 78 = .ok (.aload_n 0, 1) := by decide +kernel
theorem dX8_rounds_79 : decode cX8_rounds 79 = .ok (.getfield 47, 3) := by decide +kernel
theorem dX8_rounds_82 : decode cX8_rounds 82 = .ok (.aload_n 0, 1) := by decide +kernel
theorem dX8_rounds_83 : decode cX8_rounds 83 = .ok (.getfield 65, 3) := by decide +kernel
theorem dX8_rounds_86 : decode cX8_rounds 86 = .ok (.aload_n 0, 1) := by decide +kernel
theorem dX8_rounds_87 : decode cX8_rounds 87 = .ok (.getfield 40, 3) := by decide +kernel
theorem dX8_rounds_90 : decode cX8_rounds 90 = .ok (.invokevirtual 248, 3) := by decide +kernel
theorem dX8_rounds_93 : decode cX8_rounds 93 = .ok (.iinc 3 1, 3) := by decide +kernel
theorem dX8_rounds_96 : decode cX8_rounds 96 = .ok (.goto (-23), 3) := by decide +kernel
theorem dX8_rounds_99 : decode cX8_rounds 99 = .ok (.aload_n 0, 1) := by decide +kernel
theorem dX8_rounds_100 : decode cX8_rounds 100 = .ok (.getfield 47, 3) := by decide +kernel
theorem dX8_rounds_103 : decode cX8_rounds 103 = .ok (.getfield 242, 3) := by decide +kernel
theorem dX8_rounds_106 : decode cX8_rounds 106 = .ok (.i2l, 1) := by decide +kernel
theorem dX8_rounds_107 : decode cX8_rounds 107 = .ok (.lreturn, 1) := by decide +kernel
def f_HG_rounds_b73 (k73 : Int32 → Int32 → St → Option (Int64 × St)) (x2 : Int32) (x3 : Int32) (σ : St) : Option (Int64 × St) :=
  if x2 ≤ x3 then (some ((rF σ 11).toInt64, σ)) else (bv (f_History_playOn (rR σ 0) σ) fun σ3 => k73 x2 (x3 + 1) σ3)
set_option maxRecDepth 4000 in
theorem ok_HG_rounds_b73 {E : gE} {w : wT} {σ' : St} {r : Int64} (X : gC E w cX8_rounds 4 RX8 7) (Y : gQ E w (some .long) (some (.long r)) σ') {k73 : Int32 → Int32 → St → Option (Int64 × St)} (hk73 : ∀ (x2 : Int32) (x3 : Int32) (σ : St), k73 x2 x3 σ = some (r, σ') → gW E w 4 σ 73 [some (.ref (w.1 0)), none, some (.int x2), some (.int x3)] []) {x2 : Int32} {x3 : Int32} (σ : St) (h : f_HG_rounds_b73 k73 x2 x3 σ = some (r, σ')) : gW E w 4 σ 73 [some (.ref (w.1 0)), none, some (.int x2), some (.int x3)] [] := by
  unfold f_HG_rounds_b73 at h
  refine g_iload_n X dX8_rounds_73 rfl rfl ?_
  refine g_iload_n X dX8_rounds_74 rfl rfl ?_
  refine g_icmp_ge X dX8_rounds_75 (tgt := 99) rfl rfl (fun c1 => ?_) (fun c1 => ?_)
  · replace h := if_t c1 h
    refine g_aload_n X dX8_rounds_99 rfl rfl ?_
    refine gf_RX8_47 X dX8_rounds_100 rfl ?_
    refine gf_RX8_242 X dX8_rounds_103 rfl ?_
    refine g_i2l X dX8_rounds_106 rfl ?_
    obtain ⟨rfl, rfl⟩ := rt_e h
    exact g_lret X Y dX8_rounds_107
  · replace h := if_f c1 h
    refine g_aload_n X dX8_rounds_78 rfl rfl ?_
    refine gf_RX8_47 X dX8_rounds_79 rfl ?_
    refine g_aload_n X dX8_rounds_82 rfl rfl ?_
    refine gf_RX8_65 X dX8_rounds_83 rfl ?_
    refine g_aload_n X dX8_rounds_86 rfl rfl ?_
    refine gf_RX8_40 X dX8_rounds_87 rfl ?_
    obtain ⟨σ3, h2, h⟩ := bv_e h
    refine g_callVV X [.ref (w.1 (rR σ 0)), .ref (w.1 6)] (ok_History_playOn X.inj h2) my_yX2_playOn mi_yX2_playOn ms_yX2_playOn ml_RX8_248 (by decide) rfl rfl (by decide) rfl dX8_rounds_90 (Nat.le_of_ble_eq_true rfl) rfl rfl ?_
    refine g_iinc X [some (.ref (w.1 0)), none, some (.int x2), some (.int (x3 + 1))] dX8_rounds_93 rfl (ii_1 x3) (Nat.le_of_ble_eq_true rfl) rfl rfl rfl ?_
    refine g_goto X dX8_rounds_96 (tgt := 73) rfl ?_
    exact hk73 x2 (x3 + 1) σ3 h
def f_HG_rounds_l73 : Int32 → Int32 → St → Option (Int64 × St) := lp (fun _ _ _ => none) (f_HG_rounds_b73) FU
theorem ok_HG_rounds_l73 {E : gE} {w : wT} {σ' : St} {r : Int64} (X : gC E w cX8_rounds 4 RX8 7) (Y : gQ E w (some .long) (some (.long r)) σ') {x2 : Int32} {x3 : Int32} (σ : St) (h : f_HG_rounds_l73 x2 x3 σ = some (r, σ')) : gW E w 4 σ 73 [some (.ref (w.1 0)), none, some (.int x2), some (.int x3)] [] :=
  lp_ind (P := fun (k : Int32 → Int32 → St → Option (Int64 × St)) => ∀ (x2 : Int32) (x3 : Int32) (σ : St), k x2 x3 σ = some (r, σ') → gW E w 4 σ 73 [some (.ref (w.1 0)), none, some (.int x2), some (.int x3)] []) (fun _ _ _ hh => nn hh) (fun k hk x2 x3 σ  hh => ok_HG_rounds_b73 X Y hk σ hh) FU x2 x3 σ  h

def f_HG_rounds (x1 : Int32) (σ : St) : Option (Int64 × St) :=
  if x1 < 1 then (some ((-9000000000000000001), σ)) else (if x1 ≤ 60 then (bd (f_HG_hasGame σ) fun r5 σ4 => if r5 = 0 then (some ((-9000000000000000002), σ4)) else (ck (isG (rR σ4 0)) <| ck (ib 0 2) <| if (rI σ4 ((rR σ4 0) + 17) 0) = 0 then (ck (ib 1 2) <| if (rI σ4 ((rR σ4 0) + 17) 1) = 0 then (f_HG_rounds_l73 (if ((rF σ4 11) + x1) < 60 then ((rF σ4 11) + x1) else 60) (rF σ4 11) σ4) else (some ((-9000000000000000002), σ4))) else (some ((-9000000000000000002), σ4)))) else (some ((-9000000000000000001), σ)))
set_option maxRecDepth 4000 in
theorem ok_HG_rounds {w : wT} (hi : wInj w) {l : Launch} {x1 : Int32} {σ σ' : St} {r : Int64} (h : f_HG_rounds x1 σ = some (r, σ')) : gM w l yX8_rounds cX8_rounds 4 (some .long) 7 [.ref (w.1 0), .int x1] σ (some (.long r)) σ' := by
  unfold f_HG_rounds at h
  refine gM_of hi (by decide) [some (.ref (w.1 0)), some (.int x1)] rfl (Nat.le_of_ble_eq_true rfl) (fun E hl X Y => ?_)
  refine g_iload_n X dX8_rounds_0 rfl rfl ?_
  refine g_iconst X kI_1 dX8_rounds_1 rfl ?_
  refine g_icmp_lt X dX8_rounds_2 (tgt := 11) rfl rfl (fun c1 => ?_) (fun c1 => ?_)
  · replace h := if_t c1 h
    refine g_ldc2 X dX8_rounds_11 kc_RX8_83 rfl ?_
    obtain ⟨rfl, rfl⟩ := rt_e h
    exact g_lret X Y dX8_rounds_14
  · replace h := if_f c1 h
    refine g_iload_n X dX8_rounds_5 rfl rfl ?_
    refine g_bipush X kB_60 dX8_rounds_6 rfl ?_
    refine g_icmp_le X dX8_rounds_8 (tgt := 15) rfl rfl (fun c2 => ?_) (fun c2 => ?_)
    · replace h := if_t c2 h
      refine g_aload_n X dX8_rounds_15 rfl rfl ?_
      obtain ⟨r5, σ4, h3, h⟩ := bd_e h
      refine g_callVI X [] (ok_HG_hasGame X.inj h3) my_yX8_hasGame mi_yX8_hasGame ms_yX8_hasGame ml_RX8_205 (by decide) rfl rfl (by decide) rfl dX8_rounds_16 (Nat.le_of_ble_eq_true rfl) rfl rfl ?_
      refine g_if_eq X dX8_rounds_19 (tgt := 46) rfl rfl (fun c6 => ?_) (fun c6 => ?_)
      · replace h := if_t c6 h
        refine g_ldc2 X dX8_rounds_46 kc_RX8_213 rfl ?_
        obtain ⟨rfl, rfl⟩ := rt_e h
        exact g_lret X Y dX8_rounds_49
      · replace h := if_f c6 h
        refine g_aload_n X dX8_rounds_22 rfl rfl ?_
        refine gf_RX8_65 X dX8_rounds_23 rfl ?_
        obtain ⟨c7, h⟩ := ck_e h
        refine gf_RX8_181 c7 X dX8_rounds_26 rfl ?_
        refine g_iconst X kI_0 dX8_rounds_29 rfl ?_
        obtain ⟨c8, h⟩ := ck_e h
        refine g_zald X (ga_17 c7).1 (ga_17 c7).2.1 (ga_17 c7).2.2 (ib_e c8) dX8_rounds_30 rfl ?_
        refine g_if_ne X dX8_rounds_31 (tgt := 46) rfl rfl (fun c9 => ?_) (fun c9 => ?_)
        · replace h := if_f c9 h
          refine g_ldc2 X dX8_rounds_46 kc_RX8_213 rfl ?_
          obtain ⟨rfl, rfl⟩ := rt_e h
          exact g_lret X Y dX8_rounds_49
        · replace h := if_t c9 h
          refine g_aload_n X dX8_rounds_34 rfl rfl ?_
          refine gf_RX8_65 X dX8_rounds_35 rfl ?_
          refine gf_RX8_181 c7 X dX8_rounds_38 rfl ?_
          refine g_iconst X kI_1 dX8_rounds_41 rfl ?_
          obtain ⟨c10, h⟩ := ck_e h
          refine g_zald X (ga_17 c7).1 (ga_17 c7).2.1 (ga_17 c7).2.2 (ib_e c10) dX8_rounds_42 rfl ?_
          refine g_if_eq X dX8_rounds_43 (tgt := 50) rfl rfl (fun c11 => ?_) (fun c11 => ?_)
          · replace h := if_t c11 h
            refine g_bipush X kB_60 dX8_rounds_50 rfl ?_
            refine g_aload_n X dX8_rounds_52 rfl rfl ?_
            refine gf_RX8_47 X dX8_rounds_53 rfl ?_
            refine gf_RX8_242 X dX8_rounds_56 rfl ?_
            refine g_iload_n X dX8_rounds_59 rfl rfl ?_
            refine g_iadd X dX8_rounds_60 rfl ?_
            refine g_mmin X ml_RX8_243 (by decide) dX8_rounds_61 (Nat.le_of_ble_eq_true rfl) rfl ?_
            refine g_istore_n X [some (.ref (w.1 0)), some (.int x1), some (.int (if ((rF σ4 11) + x1) < 60 then ((rF σ4 11) + x1) else 60))] dX8_rounds_64 (Nat.le_of_ble_eq_true rfl) rfl rfl rfl ?_
            refine g_aload_n X dX8_rounds_65 rfl rfl ?_
            refine gf_RX8_47 X dX8_rounds_66 rfl ?_
            refine gf_RX8_242 X dX8_rounds_69 rfl ?_
            refine g_istore_n X [some (.ref (w.1 0)), some (.int x1), some (.int (if ((rF σ4 11) + x1) < 60 then ((rF σ4 11) + x1) else 60)), some (.int (rF σ4 11))] dX8_rounds_72 (Nat.le_of_ble_eq_true rfl) rfl rfl rfl ?_
            exact g_le (lle_s (lle_k (lle_s (lle_s (lle_0))))) (ok_HG_rounds_l73 X Y σ4 h)
          · replace h := if_f c11 h
            refine g_ldc2 X dX8_rounds_46 kc_RX8_213 rfl ?_
            obtain ⟨rfl, rfl⟩ := rt_e h
            exact g_lret X Y dX8_rounds_49
    · replace h := if_f c2 h
      refine g_ldc2 X dX8_rounds_11 kc_RX8_83 rfl ?_
      obtain ⟨rfl, rfl⟩ := rt_e h
      exact g_lret X Y dX8_rounds_14

theorem dX8_bound_0 : decode cX8_bound 0 = .ok (.iload_n 1, 1) := by decide +kernel
theorem dX8_bound_1 : decode cX8_bound 1 = .ok (.ifCond .lt 8, 3) := by decide +kernel
theorem dX8_bound_4 : decode cX8_bound 4 = .ok (.iload_n 1, 1) := by decide +kernel
theorem dX8_bound_5 : decode cX8_bound 5 = .ok (.iconst 2, 1) := by decide +kernel
theorem dX8_bound_6 : decode cX8_bound 6 = .ok (.if_icmp .le 7, 3) := by decide +kernel
theorem dX8_bound_9 : decode cX8_bound 9 = .ok (.ldc2_w 83, 3) := by decide +kernel
theorem dX8_bound_12 : decode cX8_bound 12 = .ok (.lreturn, 1) := by decide +kernel
theorem dX8_bound_13 : decode cX8_bound 13 = .ok (.iload_n 1, 1) := by decide +kernel
theorem dX8_bound_14 : decode cX8_bound 14 = .ok (.iconst 2, 1) := by decide +kernel
theorem dX8_bound_15 : decode cX8_bound 15 = .ok (.if_icmp .ne 12, 3) := by decide +kernel
theorem dX8_bound_18 : decode cX8_bound 18 = .ok (.aload_n 0, 1) := by decide +kernel
theorem dX8_bound_19 : decode cX8_bound 19 = .ok (.getfield 47, 3) := by decide +kernel
theorem dX8_bound_22 : decode cX8_bound 22 = .ok (.getfield 242, 3) := by decide +kernel
theorem dX8_bound_25 : decode cX8_bound 25 = .ok (.i2l, 1) := by decide +kernel
theorem dX8_bound_26 : decode cX8_bound 26 = .ok (.lreturn, 1) := by decide +kernel
theorem dX8_bound_27 : decode cX8_bound 27 = .ok (.aload_n 0, 1) := by decide +kernel
theorem dX8_bound_28 : decode cX8_bound 28 = .ok (.getfield 47, 3) := by decide +kernel
theorem dX8_bound_31 : decode cX8_bound 31 = .ok (.getfield 242, 3) := by decide +kernel
theorem dX8_bound_34 : decode cX8_bound 34 = .ok (.ifCond .ne 7, 3) := by decide +kernel
theorem dX8_bound_37 : decode cX8_bound 37 = .ok (.ldc2_w 213, 3) := by decide +kernel
theorem dX8_bound_40 : decode cX8_bound 40 = .ok (.lreturn, 1) := by decide +kernel
theorem dX8_bound_41 : decode cX8_bound 41 = .ok (.iconst 1, 1) := by decide +kernel
theorem dX8_bound_42 : decode cX8_bound 42 = .ok (.iload_n 1, 1) := by decide +kernel
theorem dX8_bound_43 : decode cX8_bound 43 = .ok (.isub, 1) := by decide +kernel
theorem dX8_bound_44 : decode cX8_bound 44 = .ok (.istore_n 2, 1) := by decide +kernel
theorem dX8_bound_45 : decode cX8_bound 45 = .ok (.aload_n 0, 1) := by decide +kernel
theorem dX8_bound_46 : decode cX8_bound 46 = .ok (.getfield 40, 3) := by decide +kernel
theorem dX8_bound_49 : decode cX8_bound 49 = .ok (.aload_n 0, 1) := by decide +kernel
theorem dX8_bound_50 : decode cX8_bound 50 = .ok (.getfield 65, 3) := by decide +kernel
theorem dX8_bound_53 : decode cX8_bound 53 = .ok (.iload_n 2, 1) := by decide +kernel
theorem dX8_bound_54 : decode cX8_bound 54 = .ok (.aload_n 0, 1) := by decide +kernel
theorem dX8_bound_55 : decode cX8_bound 55 = .ok (.getfield 47, 3) := by decide +kernel
theorem dX8_bound_58 : decode cX8_bound 58 = .ok (.iload_n 2, 1) := by decide +kernel
theorem dX8_bound_59 : decode cX8_bound 59 = .ok (.invokevirtual 252, 3) := by decide +kernel
theorem dX8_bound_62 : decode cX8_bound 62 = .ok (.ldc 215, 2) := by decide +kernel
theorem dX8_bound_64 : decode cX8_bound 64 = .ok (.invokevirtual 234, 3) := by decide +kernel
theorem dX8_bound_67 : decode cX8_bound 67 = .ok (.lreturn, 1) := by decide +kernel
def f_HG_bound (x1 : Int32) (σ : St) : Option (Int64 × St) :=
  if x1 < 0 then (some ((-9000000000000000001), σ)) else (if x1 ≤ 2 then (if x1 = 2 then (some ((rF σ 11).toInt64, σ)) else (if (rF σ 11) = 0 then (some ((-9000000000000000002), σ)) else (bd (f_History_reachOf (1 - x1) σ) fun r7 σ6 => bd (f_Solver_solve (rR σ 0) (1 - x1) r7 ((-1000000)) σ6) fun r10 σ9 => some (r10, σ9)))) else (some ((-9000000000000000001), σ)))
set_option maxRecDepth 4000 in
theorem ok_HG_bound {w : wT} (hi : wInj w) {l : Launch} {x1 : Int32} {σ σ' : St} {r : Int64} (h : f_HG_bound x1 σ = some (r, σ')) : gM w l yX8_bound cX8_bound 3 (some .long) 5 [.ref (w.1 0), .int x1] σ (some (.long r)) σ' := by
  unfold f_HG_bound at h
  refine gM_of hi (by decide) [some (.ref (w.1 0)), some (.int x1)] rfl (Nat.le_of_ble_eq_true rfl) (fun E hl X Y => ?_)
  refine g_iload_n X dX8_bound_0 rfl rfl ?_
  refine g_if_lt X dX8_bound_1 (tgt := 9) rfl rfl (fun c1 => ?_) (fun c1 => ?_)
  · replace h := if_t c1 h
    refine g_ldc2 X dX8_bound_9 kc_RX8_83 rfl ?_
    obtain ⟨rfl, rfl⟩ := rt_e h
    exact g_lret X Y dX8_bound_12
  · replace h := if_f c1 h
    refine g_iload_n X dX8_bound_4 rfl rfl ?_
    refine g_iconst X kI_2 dX8_bound_5 rfl ?_
    refine g_icmp_le X dX8_bound_6 (tgt := 13) rfl rfl (fun c2 => ?_) (fun c2 => ?_)
    · replace h := if_t c2 h
      refine g_iload_n X dX8_bound_13 rfl rfl ?_
      refine g_iconst X kI_2 dX8_bound_14 rfl ?_
      refine g_icmp_ne X dX8_bound_15 (tgt := 27) rfl rfl (fun c3 => ?_) (fun c3 => ?_)
      · replace h := if_f c3 h
        refine g_aload_n X dX8_bound_27 rfl rfl ?_
        refine gf_RX8_47 X dX8_bound_28 rfl ?_
        refine gf_RX8_242 X dX8_bound_31 rfl ?_
        refine g_if_ne X dX8_bound_34 (tgt := 41) rfl rfl (fun c4 => ?_) (fun c4 => ?_)
        · replace h := if_f c4 h
          refine g_iconst X kI_1 dX8_bound_41 rfl ?_
          refine g_iload_n X dX8_bound_42 rfl rfl ?_
          refine g_isub X dX8_bound_43 rfl ?_
          refine g_istore_n X [some (.ref (w.1 0)), some (.int x1), some (.int (1 - x1))] dX8_bound_44 (Nat.le_of_ble_eq_true rfl) rfl rfl rfl ?_
          refine g_aload_n X dX8_bound_45 rfl rfl ?_
          refine gf_RX8_40 X dX8_bound_46 rfl ?_
          refine g_aload_n X dX8_bound_49 rfl rfl ?_
          refine gf_RX8_65 X dX8_bound_50 rfl ?_
          refine g_iload_n X dX8_bound_53 rfl rfl ?_
          refine g_aload_n X dX8_bound_54 rfl rfl ?_
          refine gf_RX8_47 X dX8_bound_55 rfl ?_
          refine g_iload_n X dX8_bound_58 rfl rfl ?_
          obtain ⟨r7, σ6, h5, h⟩ := bd_e h
          refine g_callVR X [.int (1 - x1)] (ok_History_reachOf X.inj h5) my_yX2_reachOf mi_yX2_reachOf ms_yX2_reachOf ml_RX8_252 (by decide) rfl rfl (by decide) rfl dX8_bound_59 (Nat.le_of_ble_eq_true rfl) rfl rfl ?_
          refine g_ldc X dX8_bound_62 kc_RX8_215 rfl ?_
          obtain ⟨r10, σ9, h8, h⟩ := bd_e h
          refine g_callVJ X [.ref (w.1 (rR σ 0)), .int (1 - x1), .ref (w.1 r7), .int ((-1000000))] (ok_Solver_solve X.inj h8) my_yX6_solve mi_yX6_solve ms_yX6_solve ml_RX8_234 (by decide) rfl rfl (by decide) rfl dX8_bound_64 (Nat.le_of_ble_eq_true rfl) rfl rfl ?_
          obtain ⟨rfl, rfl⟩ := rt_e h
          exact g_lret X Y dX8_bound_67
        · replace h := if_t c4 h
          refine g_ldc2 X dX8_bound_37 kc_RX8_213 rfl ?_
          obtain ⟨rfl, rfl⟩ := rt_e h
          exact g_lret X Y dX8_bound_40
      · replace h := if_t c3 h
        refine g_aload_n X dX8_bound_18 rfl rfl ?_
        refine gf_RX8_47 X dX8_bound_19 rfl ?_
        refine gf_RX8_242 X dX8_bound_22 rfl ?_
        refine g_i2l X dX8_bound_25 rfl ?_
        obtain ⟨rfl, rfl⟩ := rt_e h
        exact g_lret X Y dX8_bound_26
    · replace h := if_f c2 h
      refine g_ldc2 X dX8_bound_9 kc_RX8_83 rfl ?_
      obtain ⟨rfl, rfl⟩ := rt_e h
      exact g_lret X Y dX8_bound_12

theorem dX2_timesDone_0 : decode cX2_timesDone 0 = .ok (.iconst 0, 1) := by decide +kernel
theorem dX2_timesDone_1 : decode cX2_timesDone 1 = .ok (.istore_n 3, 1) := by decide +kernel
theorem dX2_timesDone_2 : decode cX2_timesDone 2 = .ok (.iconst 0, 1) := by decide +kernel
theorem dX2_timesDone_3 : decode cX2_timesDone 3 = .ok (.istore 4, 2) := by decide +kernel
theorem dX2_timesDone_5 : decode cX2_timesDone 5 = .ok (.iload 4, 2) := by decide +kernel
theorem dX2_timesDone_7 : decode cX2_timesDone 7 = .ok (.aload_n 0, 1) := by decide +kernel
theorem dX2_timesDone_8 : decode cX2_timesDone 8 = .ok (.getfield 9, 3) := by decide +kernel
theorem dX2_timesDone_11 : decode cX2_timesDone 11 = .ok (.if_icmp .ge 28, 3) := by decide +kernel
theorem dX2_timesDone_14 : decode cX2_timesDone 14 = .ok (.aload_n 0, 1) := by decide +kernel
theorem dX2_timesDone_15 : decode cX2_timesDone 15 = .ok (.getfield 15, 3) := by decide +kernel
theorem dX2_timesDone_18 : decode cX2_timesDone 18 = .ok (.iload 4, 2) := by decide +kernel
theorem dX2_timesDone_20 : decode cX2_timesDone 20 = .ok (.bipush 10, 2) := by decide +kernel
theorem dX2_timesDone_22 : decode cX2_timesDone 22 = .ok (.imul, 1) := by decide +kernel
theorem dX2_timesDone_23 : decode cX2_timesDone 23 = .ok (.iload_n 1, 1) := by decide +kernel
theorem dX2_timesDone_24 : decode cX2_timesDone 24 = .ok (.iadd, 1) := by decide +kernel
theorem dX2_timesDone_25 : decode cX2_timesDone 25 = .ok (.iaload, 1) := by decide +kernel
theorem dX2_timesDone_26 : decode cX2_timesDone 26 = .ok (.iload_n 2, 1) := by decide +kernel
theorem dX2_timesDone_27 : decode cX2_timesDone 27 = .ok (.if_icmp .ne 6, 3) := by decide +kernel
theorem dX2_timesDone_30 : decode cX2_timesDone 30 = .ok (.iinc 3 1, 3) := by decide +kernel
theorem dX2_timesDone_33 : decode cX2_timesDone 33 = .ok (.iinc 4 1, 3) := by decide +kernel
theorem dX2_timesDone_36 : decode cX2_timesDone 36 = .ok (.goto (-31), 3) := by decide +kernel
theorem dX2_timesDone_39 : decode cX2_timesDone 39 = .ok (.iload_n 3, 1) := by decide +kernel
theorem dX2_timesDone_40 : decode cX2_timesDone 40 = .ok (.ireturn, 1) := by decide +kernel
def f_History_timesDone_b33 (k5 : Int32 → Int32 → Int32 → Int32 → St → Option (Int32 × St)) (x1 : Int32) (x2 : Int32) (x3 : Int32) (x4 : Int32) (σ : St) : Option (Int32 × St) :=
  k5 x1 x2 x3 (x4 + 1) σ
set_option maxRecDepth 4000 in
theorem ok_History_timesDone_b33 {E : gE} {w : wT} {σ' : St} {r : Int32} (X : gC E w cX2_timesDone 5 RX2 1) (Y : gQ E w (some .int) (some (.int r)) σ') {k5 : Int32 → Int32 → Int32 → Int32 → St → Option (Int32 × St)} (hk5 : ∀ (x1 : Int32) (x2 : Int32) (x3 : Int32) (x4 : Int32) (σ : St), k5 x1 x2 x3 x4 σ = some (r, σ') → gW E w 5 σ 5 [some (.ref (w.1 7)), some (.int x1), some (.int x2), some (.int x3), some (.int x4)] []) {x1 : Int32} {x2 : Int32} {x3 : Int32} {x4 : Int32} (σ : St) (h : f_History_timesDone_b33 k5 x1 x2 x3 x4 σ = some (r, σ')) : gW E w 5 σ 33 [some (.ref (w.1 7)), some (.int x1), some (.int x2), some (.int x3), some (.int x4)] [] := by
  unfold f_History_timesDone_b33 at h
  refine g_iinc X [some (.ref (w.1 7)), some (.int x1), some (.int x2), some (.int x3), some (.int (x4 + 1))] dX2_timesDone_33 rfl (ii_1 x4) (Nat.le_of_ble_eq_true rfl) rfl rfl rfl ?_
  refine g_goto X dX2_timesDone_36 (tgt := 5) rfl ?_
  exact hk5 x1 x2 x3 (x4 + 1) σ h

def f_History_timesDone_b5 (k5 : Int32 → Int32 → Int32 → Int32 → St → Option (Int32 × St)) (x1 : Int32) (x2 : Int32) (x3 : Int32) (x4 : Int32) (σ : St) : Option (Int32 × St) :=
  if (rF σ 11) ≤ x4 then (some (x3, σ)) else (ck (ib ((x4 * 10) + x1) 600) <| if (rI σ 58 ((x4 * 10) + x1)) = x2 then (f_History_timesDone_b33 k5 x1 x2 (x3 + 1) x4 σ) else (f_History_timesDone_b33 k5 x1 x2 x3 x4 σ))
set_option maxRecDepth 4000 in
theorem ok_History_timesDone_b5 {E : gE} {w : wT} {σ' : St} {r : Int32} (X : gC E w cX2_timesDone 5 RX2 1) (Y : gQ E w (some .int) (some (.int r)) σ') {k5 : Int32 → Int32 → Int32 → Int32 → St → Option (Int32 × St)} (hk5 : ∀ (x1 : Int32) (x2 : Int32) (x3 : Int32) (x4 : Int32) (σ : St), k5 x1 x2 x3 x4 σ = some (r, σ') → gW E w 5 σ 5 [some (.ref (w.1 7)), some (.int x1), some (.int x2), some (.int x3), some (.int x4)] []) {x1 : Int32} {x2 : Int32} {x3 : Int32} {x4 : Int32} (σ : St) (h : f_History_timesDone_b5 k5 x1 x2 x3 x4 σ = some (r, σ')) : gW E w 5 σ 5 [some (.ref (w.1 7)), some (.int x1), some (.int x2), some (.int x3), some (.int x4)] [] := by
  unfold f_History_timesDone_b5 at h
  refine g_iload X dX2_timesDone_5 rfl rfl ?_
  refine g_aload_n X dX2_timesDone_7 rfl rfl ?_
  refine gf_RX2_9 X dX2_timesDone_8 rfl ?_
  refine g_icmp_ge X dX2_timesDone_11 (tgt := 39) rfl rfl (fun c1 => ?_) (fun c1 => ?_)
  · replace h := if_t c1 h
    refine g_iload_n X dX2_timesDone_39 rfl rfl ?_
    obtain ⟨rfl, rfl⟩ := rt_e h
    exact g_iret X Y dX2_timesDone_40
  · replace h := if_f c1 h
    refine g_aload_n X dX2_timesDone_14 rfl rfl ?_
    refine gf_RX2_15 X dX2_timesDone_15 rfl ?_
    refine g_iload X dX2_timesDone_18 rfl rfl ?_
    refine g_bipush X kB_10 dX2_timesDone_20 rfl ?_
    refine g_imul X dX2_timesDone_22 rfl ?_
    refine g_iload_n X dX2_timesDone_23 rfl rfl ?_
    refine g_iadd X dX2_timesDone_24 rfl ?_
    obtain ⟨c2, h⟩ := ck_e h
    refine g_iald X ar_58.1 ar_58.2.1 ar_58.2.2 (ib_e c2) dX2_timesDone_25 rfl ?_
    refine g_iload_n X dX2_timesDone_26 rfl rfl ?_
    refine g_icmp_ne X dX2_timesDone_27 (tgt := 33) rfl rfl (fun c3 => ?_) (fun c3 => ?_)
    · replace h := if_f c3 h
      exact ok_History_timesDone_b33 X Y hk5 σ h
    · replace h := if_t c3 h
      refine g_iinc X [some (.ref (w.1 7)), some (.int x1), some (.int x2), some (.int (x3 + 1)), some (.int x4)] dX2_timesDone_30 rfl (ii_1 x3) (Nat.le_of_ble_eq_true rfl) rfl rfl rfl ?_
      exact ok_History_timesDone_b33 X Y hk5 σ h
def f_History_timesDone_l5 : Int32 → Int32 → Int32 → Int32 → St → Option (Int32 × St) := lp (fun _ _ _ _ _ => none) (f_History_timesDone_b5) FU
theorem ok_History_timesDone_l5 {E : gE} {w : wT} {σ' : St} {r : Int32} (X : gC E w cX2_timesDone 5 RX2 1) (Y : gQ E w (some .int) (some (.int r)) σ') {x1 : Int32} {x2 : Int32} {x3 : Int32} {x4 : Int32} (σ : St) (h : f_History_timesDone_l5 x1 x2 x3 x4 σ = some (r, σ')) : gW E w 5 σ 5 [some (.ref (w.1 7)), some (.int x1), some (.int x2), some (.int x3), some (.int x4)] [] :=
  lp_ind (P := fun (k : Int32 → Int32 → Int32 → Int32 → St → Option (Int32 × St)) => ∀ (x1 : Int32) (x2 : Int32) (x3 : Int32) (x4 : Int32) (σ : St), k x1 x2 x3 x4 σ = some (r, σ') → gW E w 5 σ 5 [some (.ref (w.1 7)), some (.int x1), some (.int x2), some (.int x3), some (.int x4)] []) (fun _ _ _ _ _ hh => nn hh) (fun k hk x1 x2 x3 x4 σ  hh => ok_History_timesDone_b5 X Y hk σ hh) FU x1 x2 x3 x4 σ  h

def f_History_timesDone (x1 : Int32) (x2 : Int32) (σ : St) : Option (Int32 × St) :=
  f_History_timesDone_l5 x1 x2 0 0 σ
set_option maxRecDepth 4000 in
theorem ok_History_timesDone {w : wT} (hi : wInj w) {l : Launch} {x1 : Int32} {x2 : Int32} {σ σ' : St} {r : Int32} (h : f_History_timesDone x1 x2 σ = some (r, σ')) : gM w l yX2_timesDone cX2_timesDone 5 (some .int) 1 [.ref (w.1 7), .int x1, .int x2] σ (some (.int r)) σ' := by
  unfold f_History_timesDone at h
  refine gM_of hi (by decide) [some (.ref (w.1 7)), some (.int x1), some (.int x2)] rfl (Nat.le_of_ble_eq_true rfl) (fun E hl X Y => ?_)
  refine g_iconst X kI_0 dX2_timesDone_0 rfl ?_
  refine g_istore_n X [some (.ref (w.1 7)), some (.int x1), some (.int x2), some (.int 0)] dX2_timesDone_1 (Nat.le_of_ble_eq_true rfl) rfl rfl rfl ?_
  refine g_iconst X kI_0 dX2_timesDone_2 rfl ?_
  refine g_istore X [some (.ref (w.1 7)), some (.int x1), some (.int x2), some (.int 0), some (.int 0)] dX2_timesDone_3 (Nat.le_of_ble_eq_true rfl) rfl rfl rfl ?_
  exact ok_History_timesDone_l5 X Y σ h

theorem dX8_mean_0 : decode cX8_mean 0 = .ok (.aload_n 0, 1) := by decide +kernel
theorem dX8_mean_1 : decode cX8_mean 1 = .ok (.iload_n 1, 1) := by decide +kernel
theorem dX8_mean_2 : decode cX8_mean 2 = .ok (.iload_n 2, 1) := by decide +kernel
theorem dX8_mean_3 : decode cX8_mean 3 = .ok (.invokevirtual 198, 3) := by decide +kernel
theorem dX8_mean_6 : decode cX8_mean 6 = .ok (.ifCond .eq 16, 3) := by decide +kernel
theorem dX8_mean_9 : decode cX8_mean 9 = .ok (.aload_n 0, 1) := by decide +kernel
theorem dX8_mean_10 : decode cX8_mean 10 = .ok (.getfield 47, 3) := by decide +kernel
theorem dX8_mean_13 : decode cX8_mean 13 = .ok (.iload_n 1, 1) := by decide +kernel
theorem dX8_mean_14 : decode cX8_mean 14 = .ok (.iload_n 2, 1) := by decide +kernel
theorem dX8_mean_15 : decode cX8_mean 15 = .ok (.invokevirtual 256, 3) := by decide +kernel
theorem dX8_mean_18 : decode cX8_mean 18 = .ok (.i2l, 1) := by decide +kernel
theorem dX8_mean_19 : decode cX8_mean 19 = .ok (.goto 6, 3) := by decide +kernel
theorem dX8_mean_22 : decode cX8_mean 22 = .ok (.ldc2_w 83, 3) := by decide +kernel
theorem dX8_mean_25 : decode cX8_mean 25 = .ok (.lreturn, 1) := by decide +kernel
def f_HG_mean (x1 : Int32) (x2 : Int32) (σ : St) : Option (Int64 × St) :=
  bd (f_HG_isAct x1 x2 σ) fun r3 σ2 => if r3 = 0 then (some ((-9000000000000000001), σ2)) else (bd (f_History_timesDone x1 x2 σ2) fun r7 σ6 => some (r7.toInt64, σ6))
set_option maxRecDepth 4000 in
theorem ok_HG_mean {w : wT} (hi : wInj w) {l : Launch} {x1 : Int32} {x2 : Int32} {σ σ' : St} {r : Int64} (h : f_HG_mean x1 x2 σ = some (r, σ')) : gM w l yX8_mean cX8_mean 3 (some .long) 3 [.ref (w.1 0), .int x1, .int x2] σ (some (.long r)) σ' := by
  unfold f_HG_mean at h
  refine gM_of hi (by decide) [some (.ref (w.1 0)), some (.int x1), some (.int x2)] rfl (Nat.le_of_ble_eq_true rfl) (fun E hl X Y => ?_)
  refine g_aload_n X dX8_mean_0 rfl rfl ?_
  refine g_iload_n X dX8_mean_1 rfl rfl ?_
  refine g_iload_n X dX8_mean_2 rfl rfl ?_
  obtain ⟨r3, σ2, h1, h⟩ := bd_e h
  refine g_callVI X [.int x1, .int x2] (ok_HG_isAct X.inj h1) my_yX8_isAct mi_yX8_isAct ms_yX8_isAct ml_RX8_198 (by decide) rfl rfl (by decide) rfl dX8_mean_3 (Nat.le_of_ble_eq_true rfl) rfl rfl ?_
  refine g_if_eq X dX8_mean_6 (tgt := 22) rfl rfl (fun c4 => ?_) (fun c4 => ?_)
  · replace h := if_t c4 h
    refine g_ldc2 X dX8_mean_22 kc_RX8_83 rfl ?_
    obtain ⟨rfl, rfl⟩ := rt_e h
    exact g_lret X Y dX8_mean_25
  · replace h := if_f c4 h
    refine g_aload_n X dX8_mean_9 rfl rfl ?_
    refine gf_RX8_47 X dX8_mean_10 rfl ?_
    refine g_iload_n X dX8_mean_13 rfl rfl ?_
    refine g_iload_n X dX8_mean_14 rfl rfl ?_
    obtain ⟨r7, σ6, h5, h⟩ := bd_e h
    refine g_callVI X [.int x1, .int x2] (ok_History_timesDone X.inj h5) my_yX2_timesDone mi_yX2_timesDone ms_yX2_timesDone ml_RX8_256 (by decide) rfl rfl (by decide) rfl dX8_mean_15 (Nat.le_of_ble_eq_true rfl) rfl rfl ?_
    refine g_i2l X dX8_mean_18 rfl ?_
    refine g_goto X dX8_mean_19 (tgt := 25) rfl ?_
    obtain ⟨rfl, rfl⟩ := rt_e h
    exact g_lret X Y dX8_mean_25

theorem dX8_take_0 : decode cX8_take 0 = .ok (.iload_n 1, 1) := by decide +kernel
theorem dX8_take_1 : decode cX8_take 1 = .ok (.ifCond .lt 14, 3) := by decide +kernel
theorem dX8_take_4 : decode cX8_take 4 = .ok (.iload_n 1, 1) := by decide +kernel
theorem dX8_take_5 : decode cX8_take 5 = .ok (.aload_n 0, 1) := by decide +kernel
theorem dX8_take_6 : decode cX8_take 6 = .ok (.getfield 47, 3) := by decide +kernel
theorem dX8_take_9 : decode cX8_take 9 = .ok (.getfield 242, 3) := by decide +kernel
theorem dX8_take_12 : decode cX8_take 12 = .ok (.if_icmp .lt 7, 3) := by decide +kernel
theorem dX8_take_15 : decode cX8_take 15 = .ok (.ldc2_w 83, 3) := by decide +kernel
theorem dX8_take_18 : decode cX8_take 18 = .ok (.lreturn, 1) := by decide +kernel
theorem dX8_take_19 : decode cX8_take 19 = .ok (.aload_n 0, 1) := by decide +kernel
theorem dX8_take_20 : decode cX8_take 20 = .ok (.getfield 47, 3) := by decide +kernel
theorem dX8_take_23 : decode cX8_take 23 = .ok (.aload_n 0, 1) := by decide +kernel
theorem dX8_take_24 : decode cX8_take 24 = .ok (.getfield 33, 3) := by decide +kernel
theorem dX8_take_27 : decode cX8_take 27 = .ok (.iload_n 1, 1) := by decide +kernel
theorem dX8_take_28 : decode cX8_take 28 = .ok (.invokevirtual 259, 3) := by decide +kernel
theorem dX8_take_31 : decode cX8_take 31 = .ok (.lconst 1, 1) := by decide +kernel
theorem dX8_take_32 : decode cX8_take 32 = .ok (.lreturn, 1) := by decide +kernel
def f_HG_take (x1 : Int32) (σ : St) : Option (Int64 × St) :=
  if x1 < 0 then (some ((-9000000000000000001), σ)) else (if x1 < (rF σ 11) then (bv (f_History_putInto 4 x1 σ) fun σ4 => some (1, σ4)) else (some ((-9000000000000000001), σ)))
set_option maxRecDepth 4000 in
theorem ok_HG_take {w : wT} (hi : wInj w) {l : Launch} {x1 : Int32} {σ σ' : St} {r : Int64} (h : f_HG_take x1 σ = some (r, σ')) : gM w l yX8_take cX8_take 2 (some .long) 4 [.ref (w.1 0), .int x1] σ (some (.long r)) σ' := by
  unfold f_HG_take at h
  refine gM_of hi (by decide) [some (.ref (w.1 0)), some (.int x1)] rfl (Nat.le_of_ble_eq_true rfl) (fun E hl X Y => ?_)
  refine g_iload_n X dX8_take_0 rfl rfl ?_
  refine g_if_lt X dX8_take_1 (tgt := 15) rfl rfl (fun c1 => ?_) (fun c1 => ?_)
  · replace h := if_t c1 h
    refine g_ldc2 X dX8_take_15 kc_RX8_83 rfl ?_
    obtain ⟨rfl, rfl⟩ := rt_e h
    exact g_lret X Y dX8_take_18
  · replace h := if_f c1 h
    refine g_iload_n X dX8_take_4 rfl rfl ?_
    refine g_aload_n X dX8_take_5 rfl rfl ?_
    refine gf_RX8_47 X dX8_take_6 rfl ?_
    refine gf_RX8_242 X dX8_take_9 rfl ?_
    refine g_icmp_lt X dX8_take_12 (tgt := 19) rfl rfl (fun c2 => ?_) (fun c2 => ?_)
    · replace h := if_t c2 h
      refine g_aload_n X dX8_take_19 rfl rfl ?_
      refine gf_RX8_47 X dX8_take_20 rfl ?_
      refine g_aload_n X dX8_take_23 rfl rfl ?_
      refine gf_RX8_33 X dX8_take_24 rfl ?_
      refine g_iload_n X dX8_take_27 rfl rfl ?_
      obtain ⟨σ4, h3, h⟩ := bv_e h
      refine g_callVV X [.ref (w.1 4), .int x1] (ok_History_putInto X.inj h3) my_yX2_putInto mi_yX2_putInto ms_yX2_putInto ml_RX8_259 (by decide) rfl rfl (by decide) rfl dX8_take_28 (Nat.le_of_ble_eq_true rfl) rfl rfl ?_
      refine g_lconst X kL_1 dX8_take_31 rfl ?_
      obtain ⟨rfl, rfl⟩ := rt_e h
      exact g_lret X Y dX8_take_32
    · replace h := if_f c2 h
      refine g_ldc2 X dX8_take_15 kc_RX8_83 rfl ?_
      obtain ⟨rfl, rfl⟩ := rt_e h
      exact g_lret X Y dX8_take_18

theorem dX1_kindOf_0 : decode cX1_kindOf 0 = .ok (.aload_n 0, 1) := by decide +kernel
theorem dX1_kindOf_1 : decode cX1_kindOf 1 = .ok (.getfield 15, 3) := by decide +kernel
theorem dX1_kindOf_4 : decode cX1_kindOf 4 = .ok (.iload_n 1, 1) := by decide +kernel
theorem dX1_kindOf_5 : decode cX1_kindOf 5 = .ok (.iaload, 1) := by decide +kernel
theorem dX1_kindOf_6 : decode cX1_kindOf 6 = .ok (.ifCond .ne 20, 3) := by decide +kernel
theorem dX1_kindOf_9 : decode cX1_kindOf 9 = .ok (.aload_n 0, 1) := by decide +kernel
theorem dX1_kindOf_10 : decode cX1_kindOf 10 = .ok (.getfield 19, 3) := by decide +kernel
theorem dX1_kindOf_13 : decode cX1_kindOf 13 = .ok (.iload_n 1, 1) := by decide +kernel
theorem dX1_kindOf_14 : decode cX1_kindOf 14 = .ok (.iaload, 1) := by decide +kernel
theorem dX1_kindOf_15 : decode cX1_kindOf 15 = .ok (.bipush 50, 2) := by decide +kernel
theorem dX1_kindOf_17 : decode cX1_kindOf 17 = .ok (.if_icmp .lt 7, 3) := by decide +kernel
theorem dX1_kindOf_20 : decode cX1_kindOf 20 = .ok (.iconst 5, 1) := by decide +kernel
theorem dX1_kindOf_21 : decode cX1_kindOf 21 = .ok (.goto 4, 3) := by decide +kernel
theorem dX1_kindOf_24 : decode cX1_kindOf 24 = .ok (.iconst 4, 1) := by decide +kernel
theorem dX1_kindOf_25 : decode cX1_kindOf 25 = .ok (.ireturn, 1) := by decide +kernel
theorem dX1_kindOf_26 : decode cX1_kindOf 26 = .ok (.aload_n 0, 1) := by decide +kernel
theorem dX1_kindOf_27 : decode cX1_kindOf 27 = .ok (.getfield 15, 3) := by decide +kernel
theorem dX1_kindOf_30 : decode cX1_kindOf 30 = .ok (.iload_n 1, 1) := by decide +kernel
theorem dX1_kindOf_31 : decode cX1_kindOf 31 = .ok (.iaload, 1) := by decide +kernel
theorem dX1_kindOf_32 : decode cX1_kindOf 32 = .ok (.iconst 1, 1) := by decide +kernel
theorem dX1_kindOf_33 : decode cX1_kindOf 33 = .ok (.if_icmp .ne 5, 3) := by decide +kernel
theorem dX1_kindOf_36 : decode cX1_kindOf 36 = .ok (.iconst 1, 1) := by decide +kernel
theorem dX1_kindOf_37 : decode cX1_kindOf 37 = .ok (.ireturn, 1) := by decide +kernel
theorem dX1_kindOf_38 : decode cX1_kindOf 38 = .ok (.aload_n 0, 1) := by decide +kernel
theorem dX1_kindOf_39 : decode cX1_kindOf 39 = .ok (.getfield 59, 3) := by decide +kernel
theorem dX1_kindOf_42 : decode cX1_kindOf 42 = .ok (.aload_n 0, 1) := by decide +kernel
theorem dX1_kindOf_43 : decode cX1_kindOf 43 = .ok (.getfield 22, 3) := by decide +kernel
theorem dX1_kindOf_46 : decode cX1_kindOf 46 = .ok (.iload_n 1, 1) := by decide +kernel
theorem dX1_kindOf_47 : decode cX1_kindOf 47 = .ok (.iaload, 1) := by decide +kernel
theorem dX1_kindOf_48 : decode cX1_kindOf 48 = .ok (.iaload, 1) := by decide +kernel
theorem dX1_kindOf_49 : decode cX1_kindOf 49 = .ok (.iconst 1, 1) := by decide +kernel
theorem dX1_kindOf_50 : decode cX1_kindOf 50 = .ok (.if_icmp .le 7, 3) := by decide +kernel
theorem dX1_kindOf_53 : decode cX1_kindOf 53 = .ok (.iconst 3, 1) := by decide +kernel
theorem dX1_kindOf_54 : decode cX1_kindOf 54 = .ok (.goto 4, 3) := by decide +kernel
theorem dX1_kindOf_57 : decode cX1_kindOf 57 = .ok (.iconst 2, 1) := by decide +kernel
theorem dX1_kindOf_58 : decode cX1_kindOf 58 = .ok (.ireturn, 1) := by decide +kernel
def f_Game_kindOf (g : Nat) (x1 : Int32) (σ : St) : Option (Int32 × St) :=
  ck (isG g) <| ck (ib x1 60) <| if (rI σ (g + 1) x1) = 0 then (ck (ib x1 60) <| if (rI σ (g + 2) x1) < 50 then (some (4, σ)) else (some (5, σ))) else (ck (ib x1 60) <| if (rI σ (g + 1) x1) = 1 then (some (1, σ)) else (ck (ib x1 60) <| ck (ib (rI σ (g + 3) x1) 10) <| if (rI σ (g + 15) (rI σ (g + 3) x1)) ≤ 1 then (some (2, σ)) else (some (3, σ))))
set_option maxRecDepth 4000 in
theorem ok_Game_kindOf {w : wT} (hi : wInj w) {l : Launch} {g : Nat} {x1 : Int32} {σ σ' : St} {r : Int32} (h : f_Game_kindOf g x1 σ = some (r, σ')) : gM w l yX1_kindOf cX1_kindOf 2 (some .int) 1 [.ref (w.1 g), .int x1] σ (some (.int r)) σ' := by
  unfold f_Game_kindOf at h
  obtain ⟨hg, h⟩ := ck_e h
  refine gM_of hi (by decide) [some (.ref (w.1 g)), some (.int x1)] rfl (Nat.le_of_ble_eq_true rfl) (fun E hl X Y => ?_)
  refine g_aload_n X dX1_kindOf_0 rfl rfl ?_
  refine gf_RX1_15 hg X dX1_kindOf_1 rfl ?_
  refine g_iload_n X dX1_kindOf_4 rfl rfl ?_
  obtain ⟨c1, h⟩ := ck_e h
  refine g_iald X (ga_1 hg).1 (ga_1 hg).2.1 (ga_1 hg).2.2 (ib_e c1) dX1_kindOf_5 rfl ?_
  refine g_if_ne X dX1_kindOf_6 (tgt := 26) rfl rfl (fun c2 => ?_) (fun c2 => ?_)
  · replace h := if_f c2 h
    refine g_aload_n X dX1_kindOf_26 rfl rfl ?_
    refine gf_RX1_15 hg X dX1_kindOf_27 rfl ?_
    refine g_iload_n X dX1_kindOf_30 rfl rfl ?_
    obtain ⟨c3, h⟩ := ck_e h
    refine g_iald X (ga_1 hg).1 (ga_1 hg).2.1 (ga_1 hg).2.2 (ib_e c3) dX1_kindOf_31 rfl ?_
    refine g_iconst X kI_1 dX1_kindOf_32 rfl ?_
    refine g_icmp_ne X dX1_kindOf_33 (tgt := 38) rfl rfl (fun c4 => ?_) (fun c4 => ?_)
    · replace h := if_f c4 h
      refine g_aload_n X dX1_kindOf_38 rfl rfl ?_
      refine gf_RX1_59 hg X dX1_kindOf_39 rfl ?_
      refine g_aload_n X dX1_kindOf_42 rfl rfl ?_
      refine gf_RX1_22 hg X dX1_kindOf_43 rfl ?_
      refine g_iload_n X dX1_kindOf_46 rfl rfl ?_
      obtain ⟨c5, h⟩ := ck_e h
      refine g_iald X (ga_3 hg).1 (ga_3 hg).2.1 (ga_3 hg).2.2 (ib_e c5) dX1_kindOf_47 rfl ?_
      obtain ⟨c6, h⟩ := ck_e h
      refine g_iald X (ga_15 hg).1 (ga_15 hg).2.1 (ga_15 hg).2.2 (ib_e c6) dX1_kindOf_48 rfl ?_
      refine g_iconst X kI_1 dX1_kindOf_49 rfl ?_
      refine g_icmp_le X dX1_kindOf_50 (tgt := 57) rfl rfl (fun c7 => ?_) (fun c7 => ?_)
      · replace h := if_t c7 h
        refine g_iconst X kI_2 dX1_kindOf_57 rfl ?_
        obtain ⟨rfl, rfl⟩ := rt_e h
        exact g_iret X Y dX1_kindOf_58
      · replace h := if_f c7 h
        refine g_iconst X kI_3 dX1_kindOf_53 rfl ?_
        refine g_goto X dX1_kindOf_54 (tgt := 58) rfl ?_
        obtain ⟨rfl, rfl⟩ := rt_e h
        exact g_iret X Y dX1_kindOf_58
    · replace h := if_t c4 h
      refine g_iconst X kI_1 dX1_kindOf_36 rfl ?_
      obtain ⟨rfl, rfl⟩ := rt_e h
      exact g_iret X Y dX1_kindOf_37
  · replace h := if_t c2 h
    refine g_aload_n X dX1_kindOf_9 rfl rfl ?_
    refine gf_RX1_19 hg X dX1_kindOf_10 rfl ?_
    refine g_iload_n X dX1_kindOf_13 rfl rfl ?_
    obtain ⟨c8, h⟩ := ck_e h
    refine g_iald X (ga_2 hg).1 (ga_2 hg).2.1 (ga_2 hg).2.2 (ib_e c8) dX1_kindOf_14 rfl ?_
    refine g_bipush X kB_50 dX1_kindOf_15 rfl ?_
    refine g_icmp_lt X dX1_kindOf_17 (tgt := 24) rfl rfl (fun c9 => ?_) (fun c9 => ?_)
    · replace h := if_t c9 h
      refine g_iconst X kI_4 dX1_kindOf_24 rfl ?_
      obtain ⟨rfl, rfl⟩ := rt_e h
      exact g_iret X Y dX1_kindOf_25
    · replace h := if_f c9 h
      refine g_iconst X kI_5 dX1_kindOf_20 rfl ?_
      refine g_goto X dX1_kindOf_21 (tgt := 25) rfl ?_
      obtain ⟨rfl, rfl⟩ := rt_e h
      exact g_iret X Y dX1_kindOf_25

theorem dX8_kind_0 : decode cX8_kind 0 = .ok (.aload_n 0, 1) := by decide +kernel
theorem dX8_kind_1 : decode cX8_kind 1 = .ok (.iload_n 1, 1) := by decide +kernel
theorem dX8_kind_2 : decode cX8_kind 2 = .ok (.invokevirtual 148, 3) := by decide +kernel
theorem dX8_kind_5 : decode cX8_kind 5 = .ok (.ifCond .eq 15, 3) := by decide +kernel
theorem dX8_kind_8 : decode cX8_kind 8 = .ok (.aload_n 0, 1) := by decide +kernel
theorem dX8_kind_9 : decode cX8_kind 9 = .ok (.getfield 65, 3) := by decide +kernel
theorem dX8_kind_12 : decode cX8_kind 12 = .ok (.iload_n 1, 1) := by decide +kernel
theorem dX8_kind_13 : decode cX8_kind 13 = .ok (.invokevirtual 263, 3) := by decide +kernel
theorem dX8_kind_16 : decode cX8_kind 16 = .ok (.i2l, 1) := by decide +kernel
theorem dX8_kind_17 : decode cX8_kind 17 = .ok (.goto 6, 3) := by decide +kernel
theorem dX8_kind_20 : decode cX8_kind 20 = .ok (.ldc2_w 83, 3) := by decide +kernel
theorem dX8_kind_23 : decode cX8_kind 23 = .ok (.lreturn, 1) := by decide +kernel
def f_HG_kind (x1 : Int32) (σ : St) : Option (Int64 × St) :=
  bd (f_HG_isPlace x1 σ) fun r3 σ2 => if r3 = 0 then (some ((-9000000000000000001), σ2)) else (ck (isG (rR σ2 0)) <| bd (f_Game_kindOf (rR σ2 0) x1 σ2) fun r7 σ6 => some (r7.toInt64, σ6))
set_option maxRecDepth 4000 in
theorem ok_HG_kind {w : wT} (hi : wInj w) {l : Launch} {x1 : Int32} {σ σ' : St} {r : Int64} (h : f_HG_kind x1 σ = some (r, σ')) : gM w l yX8_kind cX8_kind 2 (some .long) 2 [.ref (w.1 0), .int x1] σ (some (.long r)) σ' := by
  unfold f_HG_kind at h
  refine gM_of hi (by decide) [some (.ref (w.1 0)), some (.int x1)] rfl (Nat.le_of_ble_eq_true rfl) (fun E hl X Y => ?_)
  refine g_aload_n X dX8_kind_0 rfl rfl ?_
  refine g_iload_n X dX8_kind_1 rfl rfl ?_
  obtain ⟨r3, σ2, h1, h⟩ := bd_e h
  refine g_callVI X [.int x1] (ok_HG_isPlace X.inj h1) my_yX8_isPlace mi_yX8_isPlace ms_yX8_isPlace ml_RX8_148 (by decide) rfl rfl (by decide) rfl dX8_kind_2 (Nat.le_of_ble_eq_true rfl) rfl rfl ?_
  refine g_if_eq X dX8_kind_5 (tgt := 20) rfl rfl (fun c4 => ?_) (fun c4 => ?_)
  · replace h := if_t c4 h
    refine g_ldc2 X dX8_kind_20 kc_RX8_83 rfl ?_
    obtain ⟨rfl, rfl⟩ := rt_e h
    exact g_lret X Y dX8_kind_23
  · replace h := if_f c4 h
    refine g_aload_n X dX8_kind_8 rfl rfl ?_
    refine gf_RX8_65 X dX8_kind_9 rfl ?_
    refine g_iload_n X dX8_kind_12 rfl rfl ?_
    obtain ⟨c8, h⟩ := ck_e h
    obtain ⟨r7, σ6, h5, h⟩ := bd_e h
    refine g_callVI X [.int x1] (ok_Game_kindOf X.inj h5) my_yX1_kindOf mi_yX1_kindOf ms_yX1_kindOf ml_RX8_263 (go_ c8).1 (go_ c8).2.1 (go_ c8).2.2 (by decide) rfl dX8_kind_13 (Nat.le_of_ble_eq_true rfl) rfl rfl ?_
    refine g_i2l X dX8_kind_16 rfl ?_
    refine g_goto X dX8_kind_17 (tgt := 23) rfl ?_
    obtain ⟨rfl, rfl⟩ := rt_e h
    exact g_lret X Y dX8_kind_23

theorem dX1_isOfKind_0 : decode cX1_isOfKind 0 = .ok (.aload_n 0, 1) := by decide +kernel
theorem dX1_isOfKind_1 : decode cX1_isOfKind 1 = .ok (.iload_n 1, 1) := by decide +kernel
theorem dX1_isOfKind_2 : decode cX1_isOfKind 2 = .ok (.invokevirtual 95, 3) := by decide +kernel
theorem dX1_isOfKind_5 : decode cX1_isOfKind 5 = .ok (.istore_n 3, 1) := by decide +kernel
theorem dX1_isOfKind_6 : decode cX1_isOfKind 6 = .ok (.iload_n 2, 1) := by decide +kernel
theorem dX1_isOfKind_7 : decode cX1_isOfKind 7 = .ok (.iload_n 3, 1) := by decide +kernel
theorem dX1_isOfKind_8 : decode cX1_isOfKind 8 = .ok (.if_icmp .eq 27, 3) := by decide +kernel
theorem dX1_isOfKind_11 : decode cX1_isOfKind 11 = .ok (.iload_n 2, 1) := by decide +kernel
theorem dX1_isOfKind_12 : decode cX1_isOfKind 12 = .ok (.ifCond .eq 23, 3) := by decide +kernel
theorem dX1_isOfKind_15 : decode cX1_isOfKind 15 = .ok (.iload_n 2, 1) := by decide +kernel
theorem dX1_isOfKind_16 : decode cX1_isOfKind 16 = .ok (.iconst 2, 1) := by decide +kernel
theorem dX1_isOfKind_17 : decode cX1_isOfKind 17 = .ok (.if_icmp .ne 8, 3) := by decide +kernel
theorem dX1_isOfKind_20 : decode cX1_isOfKind 20 = .ok (.iload_n 3, 1) := by decide +kernel
theorem dX1_isOfKind_21 : decode cX1_isOfKind 21 = .ok (.iconst 3, 1) := by decide +kernel
theorem dX1_isOfKind_22 : decode cX1_isOfKind 22 = .ok (.if_icmp .eq 13, 3) := by decide +kernel
theorem dX1_isOfKind_25 : decode cX1_isOfKind 25 = .ok (.iload_n 2, 1) := by decide +kernel
theorem dX1_isOfKind_26 : decode cX1_isOfKind 26 = .ok (.iconst 4, 1) := by decide +kernel
theorem dX1_isOfKind_27 : decode cX1_isOfKind 27 = .ok (.if_icmp .ne 12, 3) := by decide +kernel
theorem dX1_isOfKind_30 : decode cX1_isOfKind 30 = .ok (.iload_n 3, 1) := by decide +kernel
theorem dX1_isOfKind_31 : decode cX1_isOfKind 31 = .ok (.iconst 5, 1) := by decide +kernel
theorem dX1_isOfKind_32 : decode cX1_isOfKind 32 = .ok (.if_icmp .ne 7, 3) := by decide +kernel
theorem dX1_isOfKind_35 : decode cX1_isOfKind 35 = .ok (.iconst 1, 1) := by decide +kernel
theorem dX1_isOfKind_36 : decode cX1_isOfKind 36 = .ok (.goto 4, 3) := by decide +kernel
theorem dX1_isOfKind_39 : decode cX1_isOfKind 39 = .ok (.iconst 0, 1) := by decide +kernel
theorem dX1_isOfKind_40 : decode cX1_isOfKind 40 = .ok (.ireturn, 1) := by decide +kernel
def f_Game_isOfKind_b35 (g : Nat) (σ : St) : Option (Int32 × St) :=
  some (1, σ)
set_option maxRecDepth 4000 in
theorem ok_Game_isOfKind_b35 {E : gE} {w : wT} {σ' : St} {r : Int32} (X : gC E w cX1_isOfKind 4 RX1 2) (Y : gQ E w (some .boolean) (some (.int r)) σ') {g : Nat} (hg : isG g = true) (σ : St) (h : f_Game_isOfKind_b35 g σ = some (r, σ')) : gW E w 4 σ 35 [] [] := by
  unfold f_Game_isOfKind_b35 at h
  refine g_iconst X kI_1 dX1_isOfKind_35 rfl ?_
  refine g_goto X dX1_isOfKind_36 (tgt := 40) rfl ?_
  obtain ⟨rfl, rfl⟩ := rt_e h
  exact g_zret X Y rfl dX1_isOfKind_40

def f_Game_isOfKind_b25 (g : Nat) (x2 : Int32) (x3 : Int32) (σ : St) : Option (Int32 × St) :=
  if x2 = 4 then (if x3 = 5 then (f_Game_isOfKind_b35 g σ) else (some (0, σ))) else (some (0, σ))
set_option maxRecDepth 4000 in
theorem ok_Game_isOfKind_b25 {E : gE} {w : wT} {σ' : St} {r : Int32} (X : gC E w cX1_isOfKind 4 RX1 2) (Y : gQ E w (some .boolean) (some (.int r)) σ') {g : Nat} (hg : isG g = true) {x2 : Int32} {x3 : Int32} (σ : St) (h : f_Game_isOfKind_b25 g x2 x3 σ = some (r, σ')) : gW E w 4 σ 25 [none, none, some (.int x2), some (.int x3)] [] := by
  unfold f_Game_isOfKind_b25 at h
  refine g_iload_n X dX1_isOfKind_25 rfl rfl ?_
  refine g_iconst X kI_4 dX1_isOfKind_26 rfl ?_
  refine g_icmp_ne X dX1_isOfKind_27 (tgt := 39) rfl rfl (fun c1 => ?_) (fun c1 => ?_)
  · replace h := if_f c1 h
    refine g_iconst X kI_0 dX1_isOfKind_39 rfl ?_
    obtain ⟨rfl, rfl⟩ := rt_e h
    exact g_zret X Y rfl dX1_isOfKind_40
  · replace h := if_t c1 h
    refine g_iload_n X dX1_isOfKind_30 rfl rfl ?_
    refine g_iconst X kI_5 dX1_isOfKind_31 rfl ?_
    refine g_icmp_ne X dX1_isOfKind_32 (tgt := 39) rfl rfl (fun c2 => ?_) (fun c2 => ?_)
    · replace h := if_f c2 h
      refine g_iconst X kI_0 dX1_isOfKind_39 rfl ?_
      obtain ⟨rfl, rfl⟩ := rt_e h
      exact g_zret X Y rfl dX1_isOfKind_40
    · replace h := if_t c2 h
      exact g_le (lle_0) (ok_Game_isOfKind_b35 X Y hg σ h)

def f_Game_isOfKind (g : Nat) (x1 : Int32) (x2 : Int32) (σ : St) : Option (Int32 × St) :=
  ck (isG g) <| bd (f_Game_kindOf g x1 σ) fun r3 σ2 => if x2 = r3 then (f_Game_isOfKind_b35 g σ2) else (if x2 = 0 then (f_Game_isOfKind_b35 g σ2) else (if x2 = 2 then (if r3 = 3 then (f_Game_isOfKind_b35 g σ2) else (f_Game_isOfKind_b25 g x2 r3 σ2)) else (f_Game_isOfKind_b25 g x2 r3 σ2)))
set_option maxRecDepth 4000 in
theorem ok_Game_isOfKind {w : wT} (hi : wInj w) {l : Launch} {g : Nat} {x1 : Int32} {x2 : Int32} {σ σ' : St} {r : Int32} (h : f_Game_isOfKind g x1 x2 σ = some (r, σ')) : gM w l yX1_isOfKind cX1_isOfKind 4 (some .boolean) 2 [.ref (w.1 g), .int x1, .int x2] σ (some (.int r)) σ' := by
  unfold f_Game_isOfKind at h
  obtain ⟨hg, h⟩ := ck_e h
  refine gM_of hi (by decide) [some (.ref (w.1 g)), some (.int x1), some (.int x2)] rfl (Nat.le_of_ble_eq_true rfl) (fun E hl X Y => ?_)
  refine g_aload_n X dX1_isOfKind_0 rfl rfl ?_
  refine g_iload_n X dX1_isOfKind_1 rfl rfl ?_
  obtain ⟨r3, σ2, h1, h⟩ := bd_e h
  refine g_callVI X [.int x1] (ok_Game_kindOf X.inj h1) my_yX1_kindOf mi_yX1_kindOf ms_yX1_kindOf ml_RX1_95 (go_ hg).1 (go_ hg).2.1 (go_ hg).2.2 (by decide) rfl dX1_isOfKind_2 (Nat.le_of_ble_eq_true rfl) rfl rfl ?_
  refine g_istore_n X [some (.ref (w.1 g)), some (.int x1), some (.int x2), some (.int r3)] dX1_isOfKind_5 (Nat.le_of_ble_eq_true rfl) rfl rfl rfl ?_
  refine g_iload_n X dX1_isOfKind_6 rfl rfl ?_
  refine g_iload_n X dX1_isOfKind_7 rfl rfl ?_
  refine g_icmp_eq X dX1_isOfKind_8 (tgt := 35) rfl rfl (fun c4 => ?_) (fun c4 => ?_)
  · replace h := if_t c4 h
    exact g_le (lle_0) (ok_Game_isOfKind_b35 X Y hg σ2 h)
  · replace h := if_f c4 h
    refine g_iload_n X dX1_isOfKind_11 rfl rfl ?_
    refine g_if_eq X dX1_isOfKind_12 (tgt := 35) rfl rfl (fun c5 => ?_) (fun c5 => ?_)
    · replace h := if_t c5 h
      exact g_le (lle_0) (ok_Game_isOfKind_b35 X Y hg σ2 h)
    · replace h := if_f c5 h
      refine g_iload_n X dX1_isOfKind_15 rfl rfl ?_
      refine g_iconst X kI_2 dX1_isOfKind_16 rfl ?_
      refine g_icmp_ne X dX1_isOfKind_17 (tgt := 25) rfl rfl (fun c6 => ?_) (fun c6 => ?_)
      · replace h := if_f c6 h
        exact g_le (lle_k (lle_k (lle_s (lle_s (lle_0))))) (ok_Game_isOfKind_b25 X Y hg σ2 h)
      · replace h := if_t c6 h
        refine g_iload_n X dX1_isOfKind_20 rfl rfl ?_
        refine g_iconst X kI_3 dX1_isOfKind_21 rfl ?_
        refine g_icmp_eq X dX1_isOfKind_22 (tgt := 35) rfl rfl (fun c7 => ?_) (fun c7 => ?_)
        · replace h := if_t c7 h
          exact g_le (lle_0) (ok_Game_isOfKind_b35 X Y hg σ2 h)
        · replace h := if_f c7 h
          exact g_le (lle_k (lle_k (lle_s (lle_s (lle_0))))) (ok_Game_isOfKind_b25 X Y hg σ2 h)

theorem dX8_as_0 : decode cX8_as 0 = .ok (.aload_n 0, 1) := by decide +kernel
theorem dX8_as_1 : decode cX8_as 1 = .ok (.iload_n 1, 1) := by decide +kernel
theorem dX8_as_2 : decode cX8_as 2 = .ok (.invokevirtual 148, 3) := by decide +kernel
theorem dX8_as_5 : decode cX8_as 5 = .ok (.ifCond .eq 12, 3) := by decide +kernel
theorem dX8_as_8 : decode cX8_as 8 = .ok (.iload_n 2, 1) := by decide +kernel
theorem dX8_as_9 : decode cX8_as 9 = .ok (.ifCond .lt 8, 3) := by decide +kernel
theorem dX8_as_12 : decode cX8_as 12 = .ok (.iload_n 2, 1) := by decide +kernel
theorem dX8_as_13 : decode cX8_as 13 = .ok (.iconst 5, 1) := by decide +kernel
theorem dX8_as_14 : decode cX8_as 14 = .ok (.if_icmp .le 7, 3) := by decide +kernel
theorem dX8_as_17 : decode cX8_as 17 = .ok (.ldc2_w 83, 3) := by decide +kernel
theorem dX8_as_20 : decode cX8_as 20 = .ok (.lreturn, 1) := by decide +kernel
theorem dX8_as_21 : decode cX8_as 21 = .ok (.aload_n 0, 1) := by decide +kernel
theorem dX8_as_22 : decode cX8_as 22 = .ok (.getfield 65, 3) := by decide +kernel
theorem dX8_as_25 : decode cX8_as 25 = .ok (.iload_n 1, 1) := by decide +kernel
theorem dX8_as_26 : decode cX8_as 26 = .ok (.iload_n 2, 1) := by decide +kernel
theorem dX8_as_27 : decode cX8_as 27 = .ok (.invokevirtual 266, 3) := by decide +kernel
theorem dX8_as_30 : decode cX8_as 30 = .ok (.ifCond .eq 20, 3) := by decide +kernel
theorem dX8_as_33 : decode cX8_as 33 = .ok (.aload_n 0, 1) := by decide +kernel
theorem dX8_as_34 : decode cX8_as 34 = .ok (.aload_n 0, 1) := by decide +kernel
theorem dX8_as_35 : decode cX8_as 35 = .ok (.getfield 65, 3) := by decide +kernel
theorem dX8_as_38 : decode cX8_as 38 = .ok (.getfield 166, 3) := by decide +kernel
theorem dX8_as_41 : decode cX8_as 41 = .ok (.iload_n 1, 1) := by decide +kernel
theorem dX8_as_42 : decode cX8_as 42 = .ok (.iaload, 1) := by decide +kernel
theorem dX8_as_43 : decode cX8_as 43 = .ok (.i2l, 1) := by decide +kernel
theorem dX8_as_44 : decode cX8_as 44 = .ok (.invokevirtual 93, 3) := by decide +kernel
theorem dX8_as_47 : decode cX8_as 47 = .ok (.goto 8, 3) := by decide +kernel
theorem dX8_as_50 : decode cX8_as 50 = .ok (.aload_n 0, 1) := by decide +kernel
theorem dX8_as_51 : decode cX8_as 51 = .ok (.iconst 3, 1) := by decide +kernel
theorem dX8_as_52 : decode cX8_as 52 = .ok (.invokevirtual 85, 3) := by decide +kernel
theorem dX8_as_55 : decode cX8_as 55 = .ok (.lreturn, 1) := by decide +kernel
def f_HG_as (x1 : Int32) (x2 : Int32) (σ : St) : Option (Int64 × St) :=
  bd (f_HG_isPlace x1 σ) fun r3 σ2 => if r3 = 0 then (some ((-9000000000000000001), σ2)) else (if x2 < 0 then (some ((-9000000000000000001), σ2)) else (if x2 ≤ 5 then (ck (isG (rR σ2 0)) <| bd (f_Game_isOfKind (rR σ2 0) x1 x2 σ2) fun r9 σ8 => if r9 = 0 then (bd (f_HG_found 3 σ8) fun r14 σ13 => some (r14, σ13)) else (ck (isG (rR σ8 0)) <| ck (ib x1 60) <| bd (f_HG_fine ((rI σ8 ((rR σ8 0) + 6) x1).toInt64) σ8) fun r19 σ18 => some (r19, σ18))) else (some ((-9000000000000000001), σ2))))
set_option maxRecDepth 4000 in
theorem ok_HG_as {w : wT} (hi : wInj w) {l : Launch} {x1 : Int32} {x2 : Int32} {σ σ' : St} {r : Int64} (h : f_HG_as x1 x2 σ = some (r, σ')) : gM w l yX8_as cX8_as 3 (some .long) 3 [.ref (w.1 0), .int x1, .int x2] σ (some (.long r)) σ' := by
  unfold f_HG_as at h
  refine gM_of hi (by decide) [some (.ref (w.1 0)), some (.int x1), some (.int x2)] rfl (Nat.le_of_ble_eq_true rfl) (fun E hl X Y => ?_)
  refine g_aload_n X dX8_as_0 rfl rfl ?_
  refine g_iload_n X dX8_as_1 rfl rfl ?_
  obtain ⟨r3, σ2, h1, h⟩ := bd_e h
  refine g_callVI X [.int x1] (ok_HG_isPlace X.inj h1) my_yX8_isPlace mi_yX8_isPlace ms_yX8_isPlace ml_RX8_148 (by decide) rfl rfl (by decide) rfl dX8_as_2 (Nat.le_of_ble_eq_true rfl) rfl rfl ?_
  refine g_if_eq X dX8_as_5 (tgt := 17) rfl rfl (fun c4 => ?_) (fun c4 => ?_)
  · replace h := if_t c4 h
    refine g_ldc2 X dX8_as_17 kc_RX8_83 rfl ?_
    obtain ⟨rfl, rfl⟩ := rt_e h
    exact g_lret X Y dX8_as_20
  · replace h := if_f c4 h
    refine g_iload_n X dX8_as_8 rfl rfl ?_
    refine g_if_lt X dX8_as_9 (tgt := 17) rfl rfl (fun c5 => ?_) (fun c5 => ?_)
    · replace h := if_t c5 h
      refine g_ldc2 X dX8_as_17 kc_RX8_83 rfl ?_
      obtain ⟨rfl, rfl⟩ := rt_e h
      exact g_lret X Y dX8_as_20
    · replace h := if_f c5 h
      refine g_iload_n X dX8_as_12 rfl rfl ?_
      refine g_iconst X kI_5 dX8_as_13 rfl ?_
      refine g_icmp_le X dX8_as_14 (tgt := 21) rfl rfl (fun c6 => ?_) (fun c6 => ?_)
      · replace h := if_t c6 h
        refine g_aload_n X dX8_as_21 rfl rfl ?_
        refine gf_RX8_65 X dX8_as_22 rfl ?_
        refine g_iload_n X dX8_as_25 rfl rfl ?_
        refine g_iload_n X dX8_as_26 rfl rfl ?_
        obtain ⟨c10, h⟩ := ck_e h
        obtain ⟨r9, σ8, h7, h⟩ := bd_e h
        refine g_callVI X [.int x1, .int x2] (ok_Game_isOfKind X.inj h7) my_yX1_isOfKind mi_yX1_isOfKind ms_yX1_isOfKind ml_RX8_266 (go_ c10).1 (go_ c10).2.1 (go_ c10).2.2 (by decide) rfl dX8_as_27 (Nat.le_of_ble_eq_true rfl) rfl rfl ?_
        refine g_if_eq X dX8_as_30 (tgt := 50) rfl rfl (fun c11 => ?_) (fun c11 => ?_)
        · replace h := if_t c11 h
          refine g_aload_n X dX8_as_50 rfl rfl ?_
          refine g_iconst X kI_3 dX8_as_51 rfl ?_
          obtain ⟨r14, σ13, h12, h⟩ := bd_e h
          refine g_callVJ X [.int 3] (ok_HG_found X.inj h12) my_yX8_found mi_yX8_found ms_yX8_found ml_RX8_85 (by decide) rfl rfl (by decide) rfl dX8_as_52 (Nat.le_of_ble_eq_true rfl) rfl rfl ?_
          obtain ⟨rfl, rfl⟩ := rt_e h
          exact g_lret X Y dX8_as_55
        · replace h := if_f c11 h
          refine g_aload_n X dX8_as_33 rfl rfl ?_
          refine g_aload_n X dX8_as_34 rfl rfl ?_
          refine gf_RX8_65 X dX8_as_35 rfl ?_
          obtain ⟨c15, h⟩ := ck_e h
          refine gf_RX8_166 c15 X dX8_as_38 rfl ?_
          refine g_iload_n X dX8_as_41 rfl rfl ?_
          obtain ⟨c16, h⟩ := ck_e h
          refine g_iald X (ga_6 c15).1 (ga_6 c15).2.1 (ga_6 c15).2.2 (ib_e c16) dX8_as_42 rfl ?_
          refine g_i2l X dX8_as_43 rfl ?_
          obtain ⟨r19, σ18, h17, h⟩ := bd_e h
          refine g_callVJ X [.long ((rI σ8 ((rR σ8 0) + 6) x1).toInt64)] (ok_HG_fine X.inj h17) my_yX8_fine mi_yX8_fine ms_yX8_fine ml_RX8_93 (by decide) rfl rfl (by decide) rfl dX8_as_44 (Nat.le_of_ble_eq_true rfl) rfl rfl ?_
          refine g_goto X dX8_as_47 (tgt := 55) rfl ?_
          obtain ⟨rfl, rfl⟩ := rt_e h
          exact g_lret X Y dX8_as_55
      · replace h := if_f c6 h
        refine g_ldc2 X dX8_as_17 kc_RX8_83 rfl ?_
        obtain ⟨rfl, rfl⟩ := rt_e h
        exact g_lret X Y dX8_as_20

theorem dX0_sizeBody_0 : decode cX0_sizeBody 0 = .ok (.aload_n 0, 1) := by decide +kernel
theorem dX0_sizeBody_1 : decode cX0_sizeBody 1 = .ok (.iload_n 1, 1) := by decide +kernel
theorem dX0_sizeBody_2 : decode cX0_sizeBody 2 = .ok (.invokevirtual 30, 3) := by decide +kernel
theorem dX0_sizeBody_5 : decode cX0_sizeBody 5 = .ok (.tableswitch 50 1 5 #[35, 38, 41, 44, 47], 35) := by decide +kernel
theorem dX0_sizeBody_40 : decode cX0_sizeBody 40 = .ok (.bipush 11, 2) := by decide +kernel
theorem dX0_sizeBody_42 : decode cX0_sizeBody 42 = .ok (.ireturn, 1) := by decide +kernel
theorem dX0_sizeBody_43 : decode cX0_sizeBody 43 = .ok (.bipush 12, 2) := by decide +kernel
theorem dX0_sizeBody_45 : decode cX0_sizeBody 45 = .ok (.ireturn, 1) := by decide +kernel
theorem dX0_sizeBody_46 : decode cX0_sizeBody 46 = .ok (.bipush 13, 2) := by decide +kernel
theorem dX0_sizeBody_48 : decode cX0_sizeBody 48 = .ok (.ireturn, 1) := by decide +kernel
theorem dX0_sizeBody_49 : decode cX0_sizeBody 49 = .ok (.bipush 14, 2) := by decide +kernel
theorem dX0_sizeBody_51 : decode cX0_sizeBody 51 = .ok (.ireturn, 1) := by decide +kernel
theorem dX0_sizeBody_52 : decode cX0_sizeBody 52 = .ok (.bipush 15, 2) := by decide +kernel
theorem dX0_sizeBody_54 : decode cX0_sizeBody 54 = .ok (.ireturn, 1) := by decide +kernel
theorem dX0_sizeBody_55 : decode cX0_sizeBody 55 = .ok (.bipush 10, 2) := by decide +kernel
theorem dX0_sizeBody_57 : decode cX0_sizeBody 57 = .ok (.ireturn, 1) := by decide +kernel
def f_Asker_sizeBody (g : Nat) (x1 : Int32) (σ : St) : Option (Int32 × St) :=
  ck (isG g) <| bd (f_Game_kindOf g x1 σ) fun r3 σ2 => if r3 = 1 then (some (11, σ2)) else if r3 = 2 then (some (12, σ2)) else if r3 = 3 then (some (13, σ2)) else if r3 = 4 then (some (14, σ2)) else if r3 = 5 then (some (15, σ2)) else (some (10, σ2))
set_option maxRecDepth 4000 in
theorem ok_Asker_sizeBody {w : wT} (hi : wInj w) {l : Launch} {g : Nat} {x1 : Int32} {σ σ' : St} {r : Int32} (h : f_Asker_sizeBody g x1 σ = some (r, σ')) : gM w l yX0_sizeBody cX0_sizeBody 2 (some .int) 2 [.ref (w.1 g), .int x1] σ (some (.int r)) σ' := by
  unfold f_Asker_sizeBody at h
  obtain ⟨hg, h⟩ := ck_e h
  refine gM_of hi (by decide) [some (.ref (w.1 g)), some (.int x1)] rfl (Nat.le_of_ble_eq_true rfl) (fun E hl X Y => ?_)
  refine g_aload_n X dX0_sizeBody_0 rfl rfl ?_
  refine g_iload_n X dX0_sizeBody_1 rfl rfl ?_
  obtain ⟨r3, σ2, h1, h⟩ := bd_e h
  refine g_callVI X [.int x1] (ok_Game_kindOf X.inj h1) my_yX1_kindOf mi_yX1_kindOf ms_yX1_kindOf ml_RX0_30 (go_ hg).1 (go_ hg).2.1 (go_ hg).2.2 (by decide) rfl dX0_sizeBody_2 (Nat.le_of_ble_eq_true rfl) rfl rfl ?_
  by_cases c4 : r3 = 1
  · replace h := if_t c4 h
    refine g_tin X dX0_sizeBody_5 (by rw [c4]; decide) (by rw [c4]; decide) (off := 35) (by rw [c4]; rfl) (tgt := 40) rfl ?_
    refine g_bipush X kB_11 dX0_sizeBody_40 rfl ?_
    obtain ⟨rfl, rfl⟩ := rt_e h
    exact g_iret X Y dX0_sizeBody_42
  · replace h := if_f c4 h
    by_cases c5 : r3 = 2
    · replace h := if_t c5 h
      refine g_tin X dX0_sizeBody_5 (by rw [c5]; decide) (by rw [c5]; decide) (off := 38) (by rw [c5]; rfl) (tgt := 43) rfl ?_
      refine g_bipush X kB_12 dX0_sizeBody_43 rfl ?_
      obtain ⟨rfl, rfl⟩ := rt_e h
      exact g_iret X Y dX0_sizeBody_45
    · replace h := if_f c5 h
      by_cases c6 : r3 = 3
      · replace h := if_t c6 h
        refine g_tin X dX0_sizeBody_5 (by rw [c6]; decide) (by rw [c6]; decide) (off := 41) (by rw [c6]; rfl) (tgt := 46) rfl ?_
        refine g_bipush X kB_13 dX0_sizeBody_46 rfl ?_
        obtain ⟨rfl, rfl⟩ := rt_e h
        exact g_iret X Y dX0_sizeBody_48
      · replace h := if_f c6 h
        by_cases c7 : r3 = 4
        · replace h := if_t c7 h
          refine g_tin X dX0_sizeBody_5 (by rw [c7]; decide) (by rw [c7]; decide) (off := 44) (by rw [c7]; rfl) (tgt := 49) rfl ?_
          refine g_bipush X kB_14 dX0_sizeBody_49 rfl ?_
          obtain ⟨rfl, rfl⟩ := rt_e h
          exact g_iret X Y dX0_sizeBody_51
        · replace h := if_f c7 h
          by_cases c8 : r3 = 5
          · replace h := if_t c8 h
            refine g_tin X dX0_sizeBody_5 (by rw [c8]; decide) (by rw [c8]; decide) (off := 47) (by rw [c8]; rfl) (tgt := 52) rfl ?_
            refine g_bipush X kB_15 dX0_sizeBody_52 rfl ?_
            obtain ⟨rfl, rfl⟩ := rt_e h
            exact g_iret X Y dX0_sizeBody_54
          · replace h := if_f c8 h
            refine g_tout X dX0_sizeBody_5 (swo (fun z z1 z2 => ?_)) (tgt := 55) rfl ?_
            · have zz : z = 1 ∨ z = 2 ∨ z = 3 ∨ z = 4 ∨ z = 5 := by omega
              rcases zz with rfl | rfl | rfl | rfl | rfl
              · exact sw1 c4 rfl
              · exact sw1 c5 rfl
              · exact sw1 c6 rfl
              · exact sw1 c7 rfl
              · exact sw1 c8 rfl
            ·
              refine g_bipush X kB_10 dX0_sizeBody_55 rfl ?_
              obtain ⟨rfl, rfl⟩ := rt_e h
              exact g_iret X Y dX0_sizeBody_57

theorem dX0_leave_0 : decode cX0_leave 0 = .ok (.aload_n 0, 1) := by decide +kernel
theorem dX0_leave_1 : decode cX0_leave 1 = .ok (.getfield 15, 3) := by decide +kernel
theorem dX0_leave_4 : decode cX0_leave 4 = .ok (.bipush 16, 2) := by decide +kernel
theorem dX0_leave_6 : decode cX0_leave 6 = .ok (.if_icmp .ge 23, 3) := by decide +kernel
theorem dX0_leave_9 : decode cX0_leave 9 = .ok (.aload_n 0, 1) := by decide +kernel
theorem dX0_leave_10 : decode cX0_leave 10 = .ok (.getfield 9, 3) := by decide +kernel
theorem dX0_leave_13 : decode cX0_leave 13 = .ok (.aload_n 0, 1) := by decide +kernel
theorem dX0_leave_14 : decode cX0_leave 14 = .ok (.getfield 15, 3) := by decide +kernel
theorem dX0_leave_17 : decode cX0_leave 17 = .ok (.iload_n 1, 1) := by decide +kernel
theorem dX0_leave_18 : decode cX0_leave 18 = .ok (.iastore, 1) := by decide +kernel
theorem dX0_leave_19 : decode cX0_leave 19 = .ok (.aload_n 0, 1) := by decide +kernel
theorem dX0_leave_20 : decode cX0_leave 20 = .ok (.dup, 1) := by decide +kernel
theorem dX0_leave_21 : decode cX0_leave 21 = .ok (.getfield 15, 3) := by decide +kernel
theorem dX0_leave_24 : decode cX0_leave 24 = .ok (.iconst 1, 1) := by decide +kernel
theorem dX0_leave_25 : decode cX0_leave 25 = .ok (.iadd, 1) := by decide +kernel
theorem dX0_leave_26 : decode cX0_leave 26 = .ok (.putfield 15, 3) := by decide +kernel
theorem dX0_leave_29 : decode cX0_leave 29 = .ok (.return_, 1) := by decide +kernel
def f_Asker_leave (x1 : Int32) (σ : St) : Option St :=
  if (16 : Int32) ≤ (rF σ 12) then (some σ) else (ck (ib (rF σ 12) 16) <| lE (stA σ 62 (rF σ 12).toNatClampNeg x1) fun σ3 => lE (stF σ3 12 ((rF σ3 12) + 1)) fun σ5 => some σ5)
set_option maxRecDepth 4000 in
theorem ok_Asker_leave {w : wT} (hi : wInj w) {l : Launch} {x1 : Int32} {σ σ' : St} (h : f_Asker_leave x1 σ = some σ') : gM w l yX0_leave cX0_leave 2 none 1 [.ref (w.1 8), .int x1] σ none σ' := by
  unfold f_Asker_leave at h
  refine gM_of hi (by decide) [some (.ref (w.1 8)), some (.int x1)] rfl (Nat.le_of_ble_eq_true rfl) (fun E hl X Y => ?_)
  refine g_aload_n X dX0_leave_0 rfl rfl ?_
  refine gf_RX0_15 X dX0_leave_1 rfl ?_
  refine g_bipush X kB_16 dX0_leave_4 rfl ?_
  refine g_icmp_ge X dX0_leave_6 (tgt := 29) rfl rfl (fun c1 => ?_) (fun c1 => ?_)
  · replace h := if_t c1 h
    obtain rfl := rv_e h
    exact g_vret X Y dX0_leave_29
  · replace h := if_f c1 h
    refine g_aload_n X dX0_leave_9 rfl rfl ?_
    refine gf_RX0_9 X dX0_leave_10 rfl ?_
    refine g_aload_n X dX0_leave_13 rfl rfl ?_
    refine gf_RX0_15 X dX0_leave_14 rfl ?_
    refine g_iload_n X dX0_leave_17 rfl rfl ?_
    obtain ⟨c2, h⟩ := ck_e h
    refine g_iast X ar_62.1 ar_62.2.1 ar_62.2.2 (ib_e c2) dX0_leave_18 rfl (fun σ3 e4 => ?_)
    replace h := lE_c e4 h
    refine g_aload_n X dX0_leave_19 rfl rfl ?_
    refine g_dup X dX0_leave_20 rfl rfl ?_
    refine gf_RX0_15 X dX0_leave_21 rfl ?_
    refine g_iconst X kI_1 dX0_leave_24 rfl ?_
    refine g_iadd X dX0_leave_25 rfl ?_
    refine gp_RX0_15 X dX0_leave_26 rfl (fun σ5 e6 => ?_)
    replace h := lE_c e6 h
    obtain rfl := rv_e h
    exact g_vret X Y dX0_leave_29

theorem dX0_markBody_0 : decode cX0_markBody 0 = .ok (.aload_n 0, 1) := by decide +kernel
theorem dX0_markBody_1 : decode cX0_markBody 1 = .ok (.iload_n 1, 1) := by decide +kernel
theorem dX0_markBody_2 : decode cX0_markBody 2 = .ok (.invokevirtual 30, 3) := by decide +kernel
theorem dX0_markBody_5 : decode cX0_markBody 5 = .ok (.tableswitch 37 2 5 #[31, 31, 37, 34], 31) := by decide +kernel
theorem dX0_markBody_36 : decode cX0_markBody 36 = .ok (.bipush 21, 2) := by decide +kernel
theorem dX0_markBody_38 : decode cX0_markBody 38 = .ok (.ireturn, 1) := by decide +kernel
theorem dX0_markBody_39 : decode cX0_markBody 39 = .ok (.bipush 22, 2) := by decide +kernel
theorem dX0_markBody_41 : decode cX0_markBody 41 = .ok (.ireturn, 1) := by decide +kernel
theorem dX0_markBody_42 : decode cX0_markBody 42 = .ok (.bipush 20, 2) := by decide +kernel
theorem dX0_markBody_44 : decode cX0_markBody 44 = .ok (.ireturn, 1) := by decide +kernel
def f_Asker_markBody (g : Nat) (x1 : Int32) (σ : St) : Option (Int32 × St) :=
  ck (isG g) <| bd (f_Game_kindOf g x1 σ) fun r3 σ2 => if r3 = 2 then (some (21, σ2)) else if r3 = 3 then (some (21, σ2)) else if r3 = 4 then (some (20, σ2)) else if r3 = 5 then (some (22, σ2)) else (some (20, σ2))
set_option maxRecDepth 4000 in
theorem ok_Asker_markBody {w : wT} (hi : wInj w) {l : Launch} {g : Nat} {x1 : Int32} {σ σ' : St} {r : Int32} (h : f_Asker_markBody g x1 σ = some (r, σ')) : gM w l yX0_markBody cX0_markBody 2 (some .int) 2 [.ref (w.1 g), .int x1] σ (some (.int r)) σ' := by
  unfold f_Asker_markBody at h
  obtain ⟨hg, h⟩ := ck_e h
  refine gM_of hi (by decide) [some (.ref (w.1 g)), some (.int x1)] rfl (Nat.le_of_ble_eq_true rfl) (fun E hl X Y => ?_)
  refine g_aload_n X dX0_markBody_0 rfl rfl ?_
  refine g_iload_n X dX0_markBody_1 rfl rfl ?_
  obtain ⟨r3, σ2, h1, h⟩ := bd_e h
  refine g_callVI X [.int x1] (ok_Game_kindOf X.inj h1) my_yX1_kindOf mi_yX1_kindOf ms_yX1_kindOf ml_RX0_30 (go_ hg).1 (go_ hg).2.1 (go_ hg).2.2 (by decide) rfl dX0_markBody_2 (Nat.le_of_ble_eq_true rfl) rfl rfl ?_
  by_cases c4 : r3 = 2
  · replace h := if_t c4 h
    refine g_tin X dX0_markBody_5 (by rw [c4]; decide) (by rw [c4]; decide) (off := 31) (by rw [c4]; rfl) (tgt := 36) rfl ?_
    refine g_bipush X kB_21 dX0_markBody_36 rfl ?_
    obtain ⟨rfl, rfl⟩ := rt_e h
    exact g_iret X Y dX0_markBody_38
  · replace h := if_f c4 h
    by_cases c5 : r3 = 3
    · replace h := if_t c5 h
      refine g_tin X dX0_markBody_5 (by rw [c5]; decide) (by rw [c5]; decide) (off := 31) (by rw [c5]; rfl) (tgt := 36) rfl ?_
      refine g_bipush X kB_21 dX0_markBody_36 rfl ?_
      obtain ⟨rfl, rfl⟩ := rt_e h
      exact g_iret X Y dX0_markBody_38
    · replace h := if_f c5 h
      by_cases c6 : r3 = 4
      · replace h := if_t c6 h
        refine g_tin X dX0_markBody_5 (by rw [c6]; decide) (by rw [c6]; decide) (off := 37) (by rw [c6]; rfl) (tgt := 42) rfl ?_
        refine g_bipush X kB_20 dX0_markBody_42 rfl ?_
        obtain ⟨rfl, rfl⟩ := rt_e h
        exact g_iret X Y dX0_markBody_44
      · replace h := if_f c6 h
        by_cases c7 : r3 = 5
        · replace h := if_t c7 h
          refine g_tin X dX0_markBody_5 (by rw [c7]; decide) (by rw [c7]; decide) (off := 34) (by rw [c7]; rfl) (tgt := 39) rfl ?_
          refine g_bipush X kB_22 dX0_markBody_39 rfl ?_
          obtain ⟨rfl, rfl⟩ := rt_e h
          exact g_iret X Y dX0_markBody_41
        · replace h := if_f c7 h
          refine g_tout X dX0_markBody_5 (swo (fun z z1 z2 => ?_)) (tgt := 42) rfl ?_
          · have zz : z = 2 ∨ z = 3 ∨ z = 4 ∨ z = 5 := by omega
            rcases zz with rfl | rfl | rfl | rfl
            · exact sw1 c4 rfl
            · exact sw1 c5 rfl
            · exact sw1 c6 rfl
            · exact sw1 c7 rfl
          ·
            refine g_bipush X kB_20 dX0_markBody_42 rfl ?_
            obtain ⟨rfl, rfl⟩ := rt_e h
            exact g_iret X Y dX0_markBody_44

theorem dX0_runBody_0 : decode cX0_runBody 0 = .ok (.iload 4, 2) := by decide +kernel
theorem dX0_runBody_2 : decode cX0_runBody 2 = .ok (.bipush 8, 2) := by decide +kernel
theorem dX0_runBody_4 : decode cX0_runBody 4 = .ok (.if_icmp .le 5, 3) := by decide +kernel
theorem dX0_runBody_7 : decode cX0_runBody 7 = .ok (.lconst 0, 1) := by decide +kernel
theorem dX0_runBody_8 : decode cX0_runBody 8 = .ok (.lreturn, 1) := by decide +kernel
theorem dX0_runBody_9 : decode cX0_runBody 9 = .ok (.aload_n 0, 1) := by decide +kernel
theorem dX0_runBody_10 : decode cX0_runBody 10 = .ok (.iload_n 2, 1) := by decide +kernel
theorem dX0_runBody_11 : decode cX0_runBody 11 = .ok (.invokevirtual 36, 3) := by decide +kernel
theorem dX0_runBody_14 : decode cX0_runBody 14 = .ok (.iload 4, 2) := by decide +kernel
theorem dX0_runBody_16 : decode cX0_runBody 16 = .ok (.iconst 1, 1) := by decide +kernel
theorem dX0_runBody_17 : decode cX0_runBody 17 = .ok (.iadd, 1) := by decide +kernel
theorem dX0_runBody_18 : decode cX0_runBody 18 = .ok (.istore 5, 2) := by decide +kernel
theorem dX0_runBody_20 : decode cX0_runBody 20 = .ok (.iload_n 2, 1) := by decide +kernel
theorem dX0_runBody_21 : decode cX0_runBody 21 = .ok (.tableswitch 205 11 22 #[63, 82, 107, 131, 139, 205, 205, 205, 205, 154, 157, 180], 63) := by decide +kernel
theorem dX0_runBody_84 : decode cX0_runBody 84 = .ok (.aload_n 0, 1) := by decide +kernel
theorem dX0_runBody_85 : decode cX0_runBody 85 = .ok (.aload_n 1, 1) := by decide +kernel
theorem dX0_runBody_86 : decode cX0_runBody 86 = .ok (.bipush 10, 2) := by decide +kernel
theorem dX0_runBody_88 : decode cX0_runBody 88 = .ok (.iload_n 3, 1) := by decide +kernel
theorem dX0_runBody_89 : decode cX0_runBody 89 = .ok (.iload 5, 2) := by decide +kernel
theorem dX0_runBody_91 : decode cX0_runBody 91 = .ok (.invokevirtual 23, 3) := by decide +kernel
theorem dX0_runBody_94 : decode cX0_runBody 94 = .ok (.aload_n 1, 1) := by decide +kernel
theorem dX0_runBody_95 : decode cX0_runBody 95 = .ok (.getfield 40, 3) := by decide +kernel
theorem dX0_runBody_98 : decode cX0_runBody 98 = .ok (.iload_n 3, 1) := by decide +kernel
theorem dX0_runBody_99 : decode cX0_runBody 99 = .ok (.iaload, 1) := by decide +kernel
theorem dX0_runBody_100 : decode cX0_runBody 100 = .ok (.i2l, 1) := by decide +kernel
theorem dX0_runBody_101 : decode cX0_runBody 101 = .ok (.ladd, 1) := by decide +kernel
theorem dX0_runBody_102 : decode cX0_runBody 102 = .ok (.lreturn, 1) := by decide +kernel
theorem dX0_runBody_103 : decode cX0_runBody 103 = .ok (.aload_n 0, 1) := by decide +kernel
theorem dX0_runBody_104 : decode cX0_runBody 104 = .ok (.aload_n 1, 1) := by decide +kernel
theorem dX0_runBody_105 : decode cX0_runBody 105 = .ok (.bipush 10, 2) := by decide +kernel
theorem dX0_runBody_107 : decode cX0_runBody 107 = .ok (.iload_n 3, 1) := by decide +kernel
theorem dX0_runBody_108 : decode cX0_runBody 108 = .ok (.iload 5, 2) := by decide +kernel
theorem dX0_runBody_110 : decode cX0_runBody 110 = .ok (.invokevirtual 23, 3) := by decide +kernel
theorem dX0_runBody_113 : decode cX0_runBody 113 = .ok (.aload_n 0, 1) := by decide +kernel
theorem dX0_runBody_114 : decode cX0_runBody 114 = .ok (.aload_n 1, 1) := by decide +kernel
theorem dX0_runBody_115 : decode cX0_runBody 115 = .ok (.aload_n 1, 1) := by decide +kernel
theorem dX0_runBody_116 : decode cX0_runBody 116 = .ok (.iload_n 3, 1) := by decide +kernel
theorem dX0_runBody_117 : decode cX0_runBody 117 = .ok (.invokestatic 27, 3) := by decide +kernel
theorem dX0_runBody_120 : decode cX0_runBody 120 = .ok (.iload_n 3, 1) := by decide +kernel
theorem dX0_runBody_121 : decode cX0_runBody 121 = .ok (.iload 5, 2) := by decide +kernel
theorem dX0_runBody_123 : decode cX0_runBody 123 = .ok (.invokevirtual 23, 3) := by decide +kernel
theorem dX0_runBody_126 : decode cX0_runBody 126 = .ok (.ladd, 1) := by decide +kernel
theorem dX0_runBody_127 : decode cX0_runBody 127 = .ok (.lreturn, 1) := by decide +kernel
theorem dX0_runBody_128 : decode cX0_runBody 128 = .ok (.aload_n 0, 1) := by decide +kernel
theorem dX0_runBody_129 : decode cX0_runBody 129 = .ok (.aload_n 1, 1) := by decide +kernel
theorem dX0_runBody_130 : decode cX0_runBody 130 = .ok (.bipush 12, 2) := by decide +kernel
theorem dX0_runBody_132 : decode cX0_runBody 132 = .ok (.iload_n 3, 1) := by decide +kernel
theorem dX0_runBody_133 : decode cX0_runBody 133 = .ok (.iload 5, 2) := by decide +kernel
theorem dX0_runBody_135 : decode cX0_runBody 135 = .ok (.invokevirtual 23, 3) := by decide +kernel
theorem dX0_runBody_138 : decode cX0_runBody 138 = .ok (.aload_n 1, 1) := by decide +kernel
theorem dX0_runBody_139 : decode cX0_runBody 139 = .ok (.getfield 43, 3) := by decide +kernel
theorem dX0_runBody_142 : decode cX0_runBody 142 = .ok (.aload_n 1, 1) := by decide +kernel
theorem dX0_runBody_143 : decode cX0_runBody 143 = .ok (.getfield 46, 3) := by decide +kernel
theorem dX0_runBody_146 : decode cX0_runBody 146 = .ok (.iload_n 3, 1) := by decide +kernel
theorem dX0_runBody_147 : decode cX0_runBody 147 = .ok (.iaload, 1) := by decide +kernel
theorem dX0_runBody_148 : decode cX0_runBody 148 = .ok (.iaload, 1) := by decide +kernel
theorem dX0_runBody_149 : decode cX0_runBody 149 = .ok (.i2l, 1) := by decide +kernel
theorem dX0_runBody_150 : decode cX0_runBody 150 = .ok (.lmul, 1) := by decide +kernel
theorem dX0_runBody_151 : decode cX0_runBody 151 = .ok (.lreturn, 1) := by decide +kernel
theorem dX0_runBody_152 : decode cX0_runBody 152 = .ok (.aload_n 1, 1) := by decide +kernel
theorem dX0_runBody_153 : decode cX0_runBody 153 = .ok (.getfield 49, 3) := by decide +kernel
theorem dX0_runBody_156 : decode cX0_runBody 156 = .ok (.iload_n 3, 1) := by decide +kernel
theorem dX0_runBody_157 : decode cX0_runBody 157 = .ok (.iaload, 1) := by decide +kernel
theorem dX0_runBody_158 : decode cX0_runBody 158 = .ok (.i2l, 1) := by decide +kernel
theorem dX0_runBody_159 : decode cX0_runBody 159 = .ok (.lreturn, 1) := by decide +kernel
theorem dX0_runBody_160 : decode cX0_runBody 160 = .ok (.aload_n 0, 1) := by decide +kernel
theorem dX0_runBody_161 : decode cX0_runBody 161 = .ok (.aload_n 1, 1) := by decide +kernel
theorem dX0_runBody_162 : decode cX0_runBody 162 = .ok (.bipush 14, 2) := by decide +kernel
theorem dX0_runBody_164 : decode cX0_runBody 164 = .ok (.iload_n 3, 1) := by decide +kernel
theorem dX0_runBody_165 : decode cX0_runBody 165 = .ok (.iload 5, 2) := by decide +kernel
theorem dX0_runBody_167 : decode cX0_runBody 167 = .ok (.invokevirtual 23, 3) := by decide +kernel
theorem dX0_runBody_170 : decode cX0_runBody 170 = .ok (.ldc2_w 52, 3) := by decide +kernel
theorem dX0_runBody_173 : decode cX0_runBody 173 = .ok (.lmul, 1) := by decide +kernel
theorem dX0_runBody_174 : decode cX0_runBody 174 = .ok (.lreturn, 1) := by decide +kernel
theorem dX0_runBody_175 : decode cX0_runBody 175 = .ok (.iload_n 3, 1) := by decide +kernel
theorem dX0_runBody_176 : decode cX0_runBody 176 = .ok (.i2l, 1) := by decide +kernel
theorem dX0_runBody_177 : decode cX0_runBody 177 = .ok (.lreturn, 1) := by decide +kernel
theorem dX0_runBody_178 : decode cX0_runBody 178 = .ok (.aload_n 0, 1) := by decide +kernel
theorem dX0_runBody_179 : decode cX0_runBody 179 = .ok (.aload_n 1, 1) := by decide +kernel
theorem dX0_runBody_180 : decode cX0_runBody 180 = .ok (.bipush 20, 2) := by decide +kernel
theorem dX0_runBody_182 : decode cX0_runBody 182 = .ok (.iload_n 3, 1) := by decide +kernel
theorem dX0_runBody_183 : decode cX0_runBody 183 = .ok (.iload 5, 2) := by decide +kernel
theorem dX0_runBody_185 : decode cX0_runBody 185 = .ok (.invokevirtual 23, 3) := by decide +kernel
theorem dX0_runBody_188 : decode cX0_runBody 188 = .ok (.ldc2_w 54, 3) := by decide +kernel
theorem dX0_runBody_191 : decode cX0_runBody 191 = .ok (.aload_n 1, 1) := by decide +kernel
theorem dX0_runBody_192 : decode cX0_runBody 192 = .ok (.getfield 46, 3) := by decide +kernel
theorem dX0_runBody_195 : decode cX0_runBody 195 = .ok (.iload_n 3, 1) := by decide +kernel
theorem dX0_runBody_196 : decode cX0_runBody 196 = .ok (.iaload, 1) := by decide +kernel
theorem dX0_runBody_197 : decode cX0_runBody 197 = .ok (.i2l, 1) := by decide +kernel
theorem dX0_runBody_198 : decode cX0_runBody 198 = .ok (.lmul, 1) := by decide +kernel
theorem dX0_runBody_199 : decode cX0_runBody 199 = .ok (.ladd, 1) := by decide +kernel
theorem dX0_runBody_200 : decode cX0_runBody 200 = .ok (.lreturn, 1) := by decide +kernel
theorem dX0_runBody_201 : decode cX0_runBody 201 = .ok (.aload_n 0, 1) := by decide +kernel
theorem dX0_runBody_202 : decode cX0_runBody 202 = .ok (.aload_n 1, 1) := by decide +kernel
theorem dX0_runBody_203 : decode cX0_runBody 203 = .ok (.bipush 20, 2) := by decide +kernel
theorem dX0_runBody_205 : decode cX0_runBody 205 = .ok (.iload_n 3, 1) := by decide +kernel
theorem dX0_runBody_206 : decode cX0_runBody 206 = .ok (.iload 5, 2) := by decide +kernel
theorem dX0_runBody_208 : decode cX0_runBody 208 = .ok (.invokevirtual 23, 3) := by decide +kernel
theorem dX0_runBody_211 : decode cX0_runBody 211 = .ok (.aload_n 0, 1) := by decide +kernel
theorem dX0_runBody_212 : decode cX0_runBody 212 = .ok (.aload_n 1, 1) := by decide +kernel
theorem dX0_runBody_213 : decode cX0_runBody 213 = .ok (.aload_n 1, 1) := by decide +kernel
theorem dX0_runBody_214 : decode cX0_runBody 214 = .ok (.iload_n 3, 1) := by decide +kernel
theorem dX0_runBody_215 : decode cX0_runBody 215 = .ok (.invokestatic 19, 3) := by decide +kernel
theorem dX0_runBody_218 : decode cX0_runBody 218 = .ok (.iload_n 3, 1) := by decide +kernel
theorem dX0_runBody_219 : decode cX0_runBody 219 = .ok (.iload 5, 2) := by decide +kernel
theorem dX0_runBody_221 : decode cX0_runBody 221 = .ok (.invokevirtual 23, 3) := by decide +kernel
theorem dX0_runBody_224 : decode cX0_runBody 224 = .ok (.ladd, 1) := by decide +kernel
theorem dX0_runBody_225 : decode cX0_runBody 225 = .ok (.lreturn, 1) := by decide +kernel
theorem dX0_runBody_226 : decode cX0_runBody 226 = .ok (.aload_n 1, 1) := by decide +kernel
theorem dX0_runBody_227 : decode cX0_runBody 227 = .ok (.getfield 56, 3) := by decide +kernel
theorem dX0_runBody_230 : decode cX0_runBody 230 = .ok (.iload_n 3, 1) := by decide +kernel
theorem dX0_runBody_231 : decode cX0_runBody 231 = .ok (.iaload, 1) := by decide +kernel
theorem dX0_runBody_232 : decode cX0_runBody 232 = .ok (.i2l, 1) := by decide +kernel
theorem dX0_runBody_233 : decode cX0_runBody 233 = .ok (.lreturn, 1) := by decide +kernel
def f_Asker_runBody (rb : Nat → Int32 → Int32 → Int32 → St → Option (Int64 × St)) (g : Nat) (x2 : Int32) (x3 : Int32) (x4 : Int32) (σ : St) : Option (Int64 × St) :=
  ck (isG g) <| if x4 ≤ 8 then (bv (f_Asker_leave x2 σ) fun σ3 => if x2 = 11 then (bd (rb g 10 x3 (x4 + 1) σ3) fun r7 σ6 => ck (ib x3 60) <| some (r7 + ((rI σ6 (g + 4) x3).toInt64), σ6)) else if x2 = 12 then (bd (rb g 10 x3 (x4 + 1) σ3) fun r12 σ11 => bd (f_Asker_markBody g x3 σ11) fun r15 σ14 => bd (rb g r15 x3 (x4 + 1) σ14) fun r18 σ17 => some (r12 + r18, σ17)) else if x2 = 13 then (bd (rb g 12 x3 (x4 + 1) σ3) fun r22 σ21 => ck (ib x3 60) <| ck (ib (rI σ21 (g + 3) x3) 10) <| some (r22 * ((rI σ21 (g + 15) (rI σ21 (g + 3) x3)).toInt64), σ21)) else if x2 = 14 then (ck (ib x3 60) <| some ((rI σ3 (g + 2) x3).toInt64, σ3)) else if x2 = 15 then (bd (rb g 14 x3 (x4 + 1) σ3) fun r30 σ29 => some (r30 * 2, σ29)) else if x2 = 16 then (ck (ib x3 60) <| some ((rI σ3 (g + 10) x3).toInt64, σ3)) else if x2 = 17 then (ck (ib x3 60) <| some ((rI σ3 (g + 10) x3).toInt64, σ3)) else if x2 = 18 then (ck (ib x3 60) <| some ((rI σ3 (g + 10) x3).toInt64, σ3)) else if x2 = 19 then (ck (ib x3 60) <| some ((rI σ3 (g + 10) x3).toInt64, σ3)) else if x2 = 20 then (some (x3.toInt64, σ3)) else if x2 = 21 then (bd (rb g 20 x3 (x4 + 1) σ3) fun r43 σ42 => ck (ib x3 60) <| some (r43 + (100 * ((rI σ42 (g + 3) x3).toInt64)), σ42)) else if x2 = 22 then (bd (rb g 20 x3 (x4 + 1) σ3) fun r48 σ47 => bd (f_Asker_sizeBody g x3 σ47) fun r51 σ50 => bd (rb g r51 x3 (x4 + 1) σ50) fun r54 σ53 => some (r48 + r54, σ53)) else (ck (ib x3 60) <| some ((rI σ3 (g + 10) x3).toInt64, σ3))) else (some (0, σ))
set_option maxRecDepth 4000 in
theorem ok_Asker_runBody {h0 : Nat} (hb : 10 ≤ h0) {w : wT} (hi : wInj w) {l : Launch} {rb : Nat → Int32 → Int32 → Int32 → St → Option (Int64 × St)} (hrb : ∀ (g : Nat) (x2 x3 x4 : Int32) (σ σ' : St) (r : Int64), rb g x2 x3 x4 σ = some (r, σ') → gM w l yX0_runBody cX0_runBody 6 (some .long) h0 [.ref (w.1 8), .ref (w.1 g), .int x2, .int x3, .int x4] σ (some (.long r)) σ') {g : Nat} {x2 : Int32} {x3 : Int32} {x4 : Int32} {σ σ' : St} {r : Int64} (h : f_Asker_runBody rb g x2 x3 x4 σ = some (r, σ')) : gM w l yX0_runBody cX0_runBody 6 (some .long) (h0 + 1) [.ref (w.1 8), .ref (w.1 g), .int x2, .int x3, .int x4] σ (some (.long r)) σ' := by
  unfold f_Asker_runBody at h
  obtain ⟨hg, h⟩ := ck_e h
  refine gM_of hi (by decide) [some (.ref (w.1 8)), some (.ref (w.1 g)), some (.int x2), some (.int x3), some (.int x4)] rfl (Nat.le_of_ble_eq_true rfl) (fun E hl X Y => ?_)
  subst hl
  refine g_iload X dX0_runBody_0 rfl rfl ?_
  refine g_bipush X kB_8 dX0_runBody_2 rfl ?_
  refine g_icmp_le X dX0_runBody_4 (tgt := 9) rfl rfl (fun c1 => ?_) (fun c1 => ?_)
  · replace h := if_t c1 h
    refine g_aload_n X dX0_runBody_9 rfl rfl ?_
    refine g_iload_n X dX0_runBody_10 rfl rfl ?_
    obtain ⟨σ3, h2, h⟩ := bv_e h
    refine g_callVV X [.int x2] (ok_Asker_leave X.inj h2) my_yX0_leave mi_yX0_leave ms_yX0_leave ml_RX0_36 (by decide) rfl rfl (by omega) rfl dX0_runBody_11 (Nat.le_of_ble_eq_true rfl) rfl rfl ?_
    refine g_iload X dX0_runBody_14 rfl rfl ?_
    refine g_iconst X kI_1 dX0_runBody_16 rfl ?_
    refine g_iadd X dX0_runBody_17 rfl ?_
    refine g_istore X [some (.ref (w.1 8)), some (.ref (w.1 g)), some (.int x2), some (.int x3), some (.int x4), some (.int (x4 + 1))] dX0_runBody_18 (Nat.le_of_ble_eq_true rfl) rfl rfl rfl ?_
    refine g_iload_n X dX0_runBody_20 rfl rfl ?_
    by_cases c4 : x2 = 11
    · replace h := if_t c4 h
      refine g_tin X dX0_runBody_21 (by rw [c4]; decide) (by rw [c4]; decide) (off := 63) (by rw [c4]; rfl) (tgt := 84) rfl ?_
      refine g_aload_n X dX0_runBody_84 rfl rfl ?_
      refine g_aload_n X dX0_runBody_85 rfl rfl ?_
      refine g_bipush X kB_10 dX0_runBody_86 rfl ?_
      refine g_iload_n X dX0_runBody_88 rfl rfl ?_
      refine g_iload X dX0_runBody_89 rfl rfl ?_
      obtain ⟨r7, σ6, h5, h⟩ := bd_e h
      refine g_callVJ X [.ref (w.1 g), .int 10, .int x3, .int (x4 + 1)] (hrb _ _ _ _ _ _ _ h5) my_yX0_runBody mi_yX0_runBody ms_yX0_runBody ml_RX0_23 (by decide) rfl rfl (by omega) rfl dX0_runBody_91 (Nat.le_of_ble_eq_true rfl) rfl rfl ?_
      refine g_aload_n X dX0_runBody_94 rfl rfl ?_
      refine gf_RX0_40 hg X dX0_runBody_95 rfl ?_
      refine g_iload_n X dX0_runBody_98 rfl rfl ?_
      obtain ⟨c8, h⟩ := ck_e h
      refine g_iald X (ga_4 hg).1 (ga_4 hg).2.1 (ga_4 hg).2.2 (ib_e c8) dX0_runBody_99 rfl ?_
      refine g_i2l X dX0_runBody_100 rfl ?_
      refine g_ladd X dX0_runBody_101 rfl ?_
      obtain ⟨rfl, rfl⟩ := rt_e h
      exact g_lret X Y dX0_runBody_102
    · replace h := if_f c4 h
      by_cases c9 : x2 = 12
      · replace h := if_t c9 h
        refine g_tin X dX0_runBody_21 (by rw [c9]; decide) (by rw [c9]; decide) (off := 82) (by rw [c9]; rfl) (tgt := 103) rfl ?_
        refine g_aload_n X dX0_runBody_103 rfl rfl ?_
        refine g_aload_n X dX0_runBody_104 rfl rfl ?_
        refine g_bipush X kB_10 dX0_runBody_105 rfl ?_
        refine g_iload_n X dX0_runBody_107 rfl rfl ?_
        refine g_iload X dX0_runBody_108 rfl rfl ?_
        obtain ⟨r12, σ11, h10, h⟩ := bd_e h
        refine g_callVJ X [.ref (w.1 g), .int 10, .int x3, .int (x4 + 1)] (hrb _ _ _ _ _ _ _ h10) my_yX0_runBody mi_yX0_runBody ms_yX0_runBody ml_RX0_23 (by decide) rfl rfl (by omega) rfl dX0_runBody_110 (Nat.le_of_ble_eq_true rfl) rfl rfl ?_
        refine g_aload_n X dX0_runBody_113 rfl rfl ?_
        refine g_aload_n X dX0_runBody_114 rfl rfl ?_
        refine g_aload_n X dX0_runBody_115 rfl rfl ?_
        refine g_iload_n X dX0_runBody_116 rfl rfl ?_
        obtain ⟨r15, σ14, h13, h⟩ := bd_e h
        refine g_callSI X [.ref (w.1 g), .int x3] (ok_Asker_markBody X.inj h13) my_yX0_markBody mt_yX0_markBody ml_RX0_27 (by omega) rfl dX0_runBody_117 (Nat.le_of_ble_eq_true rfl) rfl rfl ?_
        refine g_iload_n X dX0_runBody_120 rfl rfl ?_
        refine g_iload X dX0_runBody_121 rfl rfl ?_
        obtain ⟨r18, σ17, h16, h⟩ := bd_e h
        refine g_callVJ X [.ref (w.1 g), .int r15, .int x3, .int (x4 + 1)] (hrb _ _ _ _ _ _ _ h16) my_yX0_runBody mi_yX0_runBody ms_yX0_runBody ml_RX0_23 (by decide) rfl rfl (by omega) rfl dX0_runBody_123 (Nat.le_of_ble_eq_true rfl) rfl rfl ?_
        refine g_ladd X dX0_runBody_126 rfl ?_
        obtain ⟨rfl, rfl⟩ := rt_e h
        exact g_lret X Y dX0_runBody_127
      · replace h := if_f c9 h
        by_cases c19 : x2 = 13
        · replace h := if_t c19 h
          refine g_tin X dX0_runBody_21 (by rw [c19]; decide) (by rw [c19]; decide) (off := 107) (by rw [c19]; rfl) (tgt := 128) rfl ?_
          refine g_aload_n X dX0_runBody_128 rfl rfl ?_
          refine g_aload_n X dX0_runBody_129 rfl rfl ?_
          refine g_bipush X kB_12 dX0_runBody_130 rfl ?_
          refine g_iload_n X dX0_runBody_132 rfl rfl ?_
          refine g_iload X dX0_runBody_133 rfl rfl ?_
          obtain ⟨r22, σ21, h20, h⟩ := bd_e h
          refine g_callVJ X [.ref (w.1 g), .int 12, .int x3, .int (x4 + 1)] (hrb _ _ _ _ _ _ _ h20) my_yX0_runBody mi_yX0_runBody ms_yX0_runBody ml_RX0_23 (by decide) rfl rfl (by omega) rfl dX0_runBody_135 (Nat.le_of_ble_eq_true rfl) rfl rfl ?_
          refine g_aload_n X dX0_runBody_138 rfl rfl ?_
          refine gf_RX0_43 hg X dX0_runBody_139 rfl ?_
          refine g_aload_n X dX0_runBody_142 rfl rfl ?_
          refine gf_RX0_46 hg X dX0_runBody_143 rfl ?_
          refine g_iload_n X dX0_runBody_146 rfl rfl ?_
          obtain ⟨c23, h⟩ := ck_e h
          refine g_iald X (ga_3 hg).1 (ga_3 hg).2.1 (ga_3 hg).2.2 (ib_e c23) dX0_runBody_147 rfl ?_
          obtain ⟨c24, h⟩ := ck_e h
          refine g_iald X (ga_15 hg).1 (ga_15 hg).2.1 (ga_15 hg).2.2 (ib_e c24) dX0_runBody_148 rfl ?_
          refine g_i2l X dX0_runBody_149 rfl ?_
          refine g_lmul X dX0_runBody_150 rfl ?_
          obtain ⟨rfl, rfl⟩ := rt_e h
          exact g_lret X Y dX0_runBody_151
        · replace h := if_f c19 h
          by_cases c25 : x2 = 14
          · replace h := if_t c25 h
            refine g_tin X dX0_runBody_21 (by rw [c25]; decide) (by rw [c25]; decide) (off := 131) (by rw [c25]; rfl) (tgt := 152) rfl ?_
            refine g_aload_n X dX0_runBody_152 rfl rfl ?_
            refine gf_RX0_49 hg X dX0_runBody_153 rfl ?_
            refine g_iload_n X dX0_runBody_156 rfl rfl ?_
            obtain ⟨c26, h⟩ := ck_e h
            refine g_iald X (ga_2 hg).1 (ga_2 hg).2.1 (ga_2 hg).2.2 (ib_e c26) dX0_runBody_157 rfl ?_
            refine g_i2l X dX0_runBody_158 rfl ?_
            obtain ⟨rfl, rfl⟩ := rt_e h
            exact g_lret X Y dX0_runBody_159
          · replace h := if_f c25 h
            by_cases c27 : x2 = 15
            · replace h := if_t c27 h
              refine g_tin X dX0_runBody_21 (by rw [c27]; decide) (by rw [c27]; decide) (off := 139) (by rw [c27]; rfl) (tgt := 160) rfl ?_
              refine g_aload_n X dX0_runBody_160 rfl rfl ?_
              refine g_aload_n X dX0_runBody_161 rfl rfl ?_
              refine g_bipush X kB_14 dX0_runBody_162 rfl ?_
              refine g_iload_n X dX0_runBody_164 rfl rfl ?_
              refine g_iload X dX0_runBody_165 rfl rfl ?_
              obtain ⟨r30, σ29, h28, h⟩ := bd_e h
              refine g_callVJ X [.ref (w.1 g), .int 14, .int x3, .int (x4 + 1)] (hrb _ _ _ _ _ _ _ h28) my_yX0_runBody mi_yX0_runBody ms_yX0_runBody ml_RX0_23 (by decide) rfl rfl (by omega) rfl dX0_runBody_167 (Nat.le_of_ble_eq_true rfl) rfl rfl ?_
              refine g_ldc2 X dX0_runBody_170 kc_RX0_52 rfl ?_
              refine g_lmul X dX0_runBody_173 rfl ?_
              obtain ⟨rfl, rfl⟩ := rt_e h
              exact g_lret X Y dX0_runBody_174
            · replace h := if_f c27 h
              by_cases c31 : x2 = 16
              · replace h := if_t c31 h
                refine g_tin X dX0_runBody_21 (by rw [c31]; decide) (by rw [c31]; decide) (off := 205) (by rw [c31]; rfl) (tgt := 226) rfl ?_
                refine g_aload_n X dX0_runBody_226 rfl rfl ?_
                refine gf_RX0_56 hg X dX0_runBody_227 rfl ?_
                refine g_iload_n X dX0_runBody_230 rfl rfl ?_
                obtain ⟨c32, h⟩ := ck_e h
                refine g_iald X (ga_10 hg).1 (ga_10 hg).2.1 (ga_10 hg).2.2 (ib_e c32) dX0_runBody_231 rfl ?_
                refine g_i2l X dX0_runBody_232 rfl ?_
                obtain ⟨rfl, rfl⟩ := rt_e h
                exact g_lret X Y dX0_runBody_233
              · replace h := if_f c31 h
                by_cases c33 : x2 = 17
                · replace h := if_t c33 h
                  refine g_tin X dX0_runBody_21 (by rw [c33]; decide) (by rw [c33]; decide) (off := 205) (by rw [c33]; rfl) (tgt := 226) rfl ?_
                  refine g_aload_n X dX0_runBody_226 rfl rfl ?_
                  refine gf_RX0_56 hg X dX0_runBody_227 rfl ?_
                  refine g_iload_n X dX0_runBody_230 rfl rfl ?_
                  obtain ⟨c34, h⟩ := ck_e h
                  refine g_iald X (ga_10 hg).1 (ga_10 hg).2.1 (ga_10 hg).2.2 (ib_e c34) dX0_runBody_231 rfl ?_
                  refine g_i2l X dX0_runBody_232 rfl ?_
                  obtain ⟨rfl, rfl⟩ := rt_e h
                  exact g_lret X Y dX0_runBody_233
                · replace h := if_f c33 h
                  by_cases c35 : x2 = 18
                  · replace h := if_t c35 h
                    refine g_tin X dX0_runBody_21 (by rw [c35]; decide) (by rw [c35]; decide) (off := 205) (by rw [c35]; rfl) (tgt := 226) rfl ?_
                    refine g_aload_n X dX0_runBody_226 rfl rfl ?_
                    refine gf_RX0_56 hg X dX0_runBody_227 rfl ?_
                    refine g_iload_n X dX0_runBody_230 rfl rfl ?_
                    obtain ⟨c36, h⟩ := ck_e h
                    refine g_iald X (ga_10 hg).1 (ga_10 hg).2.1 (ga_10 hg).2.2 (ib_e c36) dX0_runBody_231 rfl ?_
                    refine g_i2l X dX0_runBody_232 rfl ?_
                    obtain ⟨rfl, rfl⟩ := rt_e h
                    exact g_lret X Y dX0_runBody_233
                  · replace h := if_f c35 h
                    by_cases c37 : x2 = 19
                    · replace h := if_t c37 h
                      refine g_tin X dX0_runBody_21 (by rw [c37]; decide) (by rw [c37]; decide) (off := 205) (by rw [c37]; rfl) (tgt := 226) rfl ?_
                      refine g_aload_n X dX0_runBody_226 rfl rfl ?_
                      refine gf_RX0_56 hg X dX0_runBody_227 rfl ?_
                      refine g_iload_n X dX0_runBody_230 rfl rfl ?_
                      obtain ⟨c38, h⟩ := ck_e h
                      refine g_iald X (ga_10 hg).1 (ga_10 hg).2.1 (ga_10 hg).2.2 (ib_e c38) dX0_runBody_231 rfl ?_
                      refine g_i2l X dX0_runBody_232 rfl ?_
                      obtain ⟨rfl, rfl⟩ := rt_e h
                      exact g_lret X Y dX0_runBody_233
                    · replace h := if_f c37 h
                      by_cases c39 : x2 = 20
                      · replace h := if_t c39 h
                        refine g_tin X dX0_runBody_21 (by rw [c39]; decide) (by rw [c39]; decide) (off := 154) (by rw [c39]; rfl) (tgt := 175) rfl ?_
                        refine g_iload_n X dX0_runBody_175 rfl rfl ?_
                        refine g_i2l X dX0_runBody_176 rfl ?_
                        obtain ⟨rfl, rfl⟩ := rt_e h
                        exact g_lret X Y dX0_runBody_177
                      · replace h := if_f c39 h
                        by_cases c40 : x2 = 21
                        · replace h := if_t c40 h
                          refine g_tin X dX0_runBody_21 (by rw [c40]; decide) (by rw [c40]; decide) (off := 157) (by rw [c40]; rfl) (tgt := 178) rfl ?_
                          refine g_aload_n X dX0_runBody_178 rfl rfl ?_
                          refine g_aload_n X dX0_runBody_179 rfl rfl ?_
                          refine g_bipush X kB_20 dX0_runBody_180 rfl ?_
                          refine g_iload_n X dX0_runBody_182 rfl rfl ?_
                          refine g_iload X dX0_runBody_183 rfl rfl ?_
                          obtain ⟨r43, σ42, h41, h⟩ := bd_e h
                          refine g_callVJ X [.ref (w.1 g), .int 20, .int x3, .int (x4 + 1)] (hrb _ _ _ _ _ _ _ h41) my_yX0_runBody mi_yX0_runBody ms_yX0_runBody ml_RX0_23 (by decide) rfl rfl (by omega) rfl dX0_runBody_185 (Nat.le_of_ble_eq_true rfl) rfl rfl ?_
                          refine g_ldc2 X dX0_runBody_188 kc_RX0_54 rfl ?_
                          refine g_aload_n X dX0_runBody_191 rfl rfl ?_
                          refine gf_RX0_46 hg X dX0_runBody_192 rfl ?_
                          refine g_iload_n X dX0_runBody_195 rfl rfl ?_
                          obtain ⟨c44, h⟩ := ck_e h
                          refine g_iald X (ga_3 hg).1 (ga_3 hg).2.1 (ga_3 hg).2.2 (ib_e c44) dX0_runBody_196 rfl ?_
                          refine g_i2l X dX0_runBody_197 rfl ?_
                          refine g_lmul X dX0_runBody_198 rfl ?_
                          refine g_ladd X dX0_runBody_199 rfl ?_
                          obtain ⟨rfl, rfl⟩ := rt_e h
                          exact g_lret X Y dX0_runBody_200
                        · replace h := if_f c40 h
                          by_cases c45 : x2 = 22
                          · replace h := if_t c45 h
                            refine g_tin X dX0_runBody_21 (by rw [c45]; decide) (by rw [c45]; decide) (off := 180) (by rw [c45]; rfl) (tgt := 201) rfl ?_
                            refine g_aload_n X dX0_runBody_201 rfl rfl ?_
                            refine g_aload_n X dX0_runBody_202 rfl rfl ?_
                            refine g_bipush X kB_20 dX0_runBody_203 rfl ?_
                            refine g_iload_n X dX0_runBody_205 rfl rfl ?_
                            refine g_iload X dX0_runBody_206 rfl rfl ?_
                            obtain ⟨r48, σ47, h46, h⟩ := bd_e h
                            refine g_callVJ X [.ref (w.1 g), .int 20, .int x3, .int (x4 + 1)] (hrb _ _ _ _ _ _ _ h46) my_yX0_runBody mi_yX0_runBody ms_yX0_runBody ml_RX0_23 (by decide) rfl rfl (by omega) rfl dX0_runBody_208 (Nat.le_of_ble_eq_true rfl) rfl rfl ?_
                            refine g_aload_n X dX0_runBody_211 rfl rfl ?_
                            refine g_aload_n X dX0_runBody_212 rfl rfl ?_
                            refine g_aload_n X dX0_runBody_213 rfl rfl ?_
                            refine g_iload_n X dX0_runBody_214 rfl rfl ?_
                            obtain ⟨r51, σ50, h49, h⟩ := bd_e h
                            refine g_callSI X [.ref (w.1 g), .int x3] (ok_Asker_sizeBody X.inj h49) my_yX0_sizeBody mt_yX0_sizeBody ml_RX0_19 (by omega) rfl dX0_runBody_215 (Nat.le_of_ble_eq_true rfl) rfl rfl ?_
                            refine g_iload_n X dX0_runBody_218 rfl rfl ?_
                            refine g_iload X dX0_runBody_219 rfl rfl ?_
                            obtain ⟨r54, σ53, h52, h⟩ := bd_e h
                            refine g_callVJ X [.ref (w.1 g), .int r51, .int x3, .int (x4 + 1)] (hrb _ _ _ _ _ _ _ h52) my_yX0_runBody mi_yX0_runBody ms_yX0_runBody ml_RX0_23 (by decide) rfl rfl (by omega) rfl dX0_runBody_221 (Nat.le_of_ble_eq_true rfl) rfl rfl ?_
                            refine g_ladd X dX0_runBody_224 rfl ?_
                            obtain ⟨rfl, rfl⟩ := rt_e h
                            exact g_lret X Y dX0_runBody_225
                          · replace h := if_f c45 h
                            refine g_tout X dX0_runBody_21 (swo (fun z z1 z2 => ?_)) (tgt := 226) rfl ?_
                            · have zz : z = 11 ∨ z = 12 ∨ z = 13 ∨ z = 14 ∨ z = 15 ∨ z = 16 ∨ z = 17 ∨ z = 18 ∨ z = 19 ∨ z = 20 ∨ z = 21 ∨ z = 22 := by omega
                              rcases zz with rfl | rfl | rfl | rfl | rfl | rfl | rfl | rfl | rfl | rfl | rfl | rfl
                              · exact sw1 c4 rfl
                              · exact sw1 c9 rfl
                              · exact sw1 c19 rfl
                              · exact sw1 c25 rfl
                              · exact sw1 c27 rfl
                              · exact sw1 c31 rfl
                              · exact sw1 c33 rfl
                              · exact sw1 c35 rfl
                              · exact sw1 c37 rfl
                              · exact sw1 c39 rfl
                              · exact sw1 c40 rfl
                              · exact sw1 c45 rfl
                            ·
                              refine g_aload_n X dX0_runBody_226 rfl rfl ?_
                              refine gf_RX0_56 hg X dX0_runBody_227 rfl ?_
                              refine g_iload_n X dX0_runBody_230 rfl rfl ?_
                              obtain ⟨c55, h⟩ := ck_e h
                              refine g_iald X (ga_10 hg).1 (ga_10 hg).2.1 (ga_10 hg).2.2 (ib_e c55) dX0_runBody_231 rfl ?_
                              refine g_i2l X dX0_runBody_232 rfl ?_
                              obtain ⟨rfl, rfl⟩ := rt_e h
                              exact g_lret X Y dX0_runBody_233
  · replace h := if_f c1 h
    refine g_lconst X kL_0 dX0_runBody_7 rfl ?_
    obtain ⟨rfl, rfl⟩ := rt_e h
    exact g_lret X Y dX0_runBody_8
def f_Asker_runBodyR (d : Nat) : Nat → Int32 → Int32 → Int32 → St → Option (Int64 × St) := lp (fun _ _ _ _ _ => none) (fun rb g x2 x3 x4 σ => f_Asker_runBody rb g x2 x3 x4 σ) d
theorem ok_Asker_runBodyR {w : wT} (hi : wInj w) {l : Launch} : ∀ (d : Nat) {g : Nat} {x2 x3 x4 : Int32} {σ σ' : St} {r : Int64}, f_Asker_runBodyR d g x2 x3 x4 σ = some (r, σ') → gM w l yX0_runBody cX0_runBody 6 (some .long) (10 + d) [.ref (w.1 8), .ref (w.1 g), .int x2, .int x3, .int x4] σ (some (.long r)) σ'
  | 0, _, _, _, _, _, _, _, h => nn h
  | d + 1, _, _, _, _, _, _, _, h => ok_Asker_runBody (h0 := 10 + d) (by omega) hi (fun _ _ _ _ _ _ _ h1 => ok_Asker_runBodyR hi d h1) h

theorem dX0_askSize_0 : decode cX0_askSize 0 = .ok (.aload_n 0, 1) := by decide +kernel
theorem dX0_askSize_1 : decode cX0_askSize 1 = .ok (.iconst 0, 1) := by decide +kernel
theorem dX0_askSize_2 : decode cX0_askSize 2 = .ok (.putfield 15, 3) := by decide +kernel
theorem dX0_askSize_5 : decode cX0_askSize 5 = .ok (.aload_n 0, 1) := by decide +kernel
theorem dX0_askSize_6 : decode cX0_askSize 6 = .ok (.aload_n 1, 1) := by decide +kernel
theorem dX0_askSize_7 : decode cX0_askSize 7 = .ok (.aload_n 1, 1) := by decide +kernel
theorem dX0_askSize_8 : decode cX0_askSize 8 = .ok (.iload_n 2, 1) := by decide +kernel
theorem dX0_askSize_9 : decode cX0_askSize 9 = .ok (.invokestatic 19, 3) := by decide +kernel
theorem dX0_askSize_12 : decode cX0_askSize 12 = .ok (.iload_n 2, 1) := by decide +kernel
theorem dX0_askSize_13 : decode cX0_askSize 13 = .ok (.iconst 0, 1) := by decide +kernel
theorem dX0_askSize_14 : decode cX0_askSize 14 = .ok (.invokevirtual 23, 3) := by decide +kernel
theorem dX0_askSize_17 : decode cX0_askSize 17 = .ok (.lreturn, 1) := by decide +kernel
def f_Asker_askSize (g : Nat) (x2 : Int32) (σ : St) : Option (Int64 × St) :=
  ck (isG g) <| lE (stF σ 12 0) fun σ1 => bd (f_Asker_sizeBody g x2 σ1) fun r5 σ4 => bd (f_Asker_runBodyR 12 g r5 x2 0 σ4) fun r8 σ7 => some (r8, σ7)
set_option maxRecDepth 4000 in
theorem ok_Asker_askSize {w : wT} (hi : wInj w) {l : Launch} {g : Nat} {x2 : Int32} {σ σ' : St} {r : Int64} (h : f_Asker_askSize g x2 σ = some (r, σ')) : gM w l yX0_askSize cX0_askSize 3 (some .long) 23 [.ref (w.1 8), .ref (w.1 g), .int x2] σ (some (.long r)) σ' := by
  unfold f_Asker_askSize at h
  obtain ⟨hg, h⟩ := ck_e h
  refine gM_of hi (by decide) [some (.ref (w.1 8)), some (.ref (w.1 g)), some (.int x2)] rfl (Nat.le_of_ble_eq_true rfl) (fun E hl X Y => ?_)
  refine g_aload_n X dX0_askSize_0 rfl rfl ?_
  refine g_iconst X kI_0 dX0_askSize_1 rfl ?_
  refine gp_RX0_15 X dX0_askSize_2 rfl (fun σ1 e2 => ?_)
  replace h := lE_c e2 h
  refine g_aload_n X dX0_askSize_5 rfl rfl ?_
  refine g_aload_n X dX0_askSize_6 rfl rfl ?_
  refine g_aload_n X dX0_askSize_7 rfl rfl ?_
  refine g_iload_n X dX0_askSize_8 rfl rfl ?_
  obtain ⟨r5, σ4, h3, h⟩ := bd_e h
  refine g_callSI X [.ref (w.1 g), .int x2] (ok_Asker_sizeBody X.inj h3) my_yX0_sizeBody mt_yX0_sizeBody ml_RX0_19 (by decide) rfl dX0_askSize_9 (Nat.le_of_ble_eq_true rfl) rfl rfl ?_
  refine g_iload_n X dX0_askSize_12 rfl rfl ?_
  refine g_iconst X kI_0 dX0_askSize_13 rfl ?_
  obtain ⟨r8, σ7, h6, h⟩ := bd_e h
  refine g_callVJ X [.ref (w.1 g), .int r5, .int x2, .int 0] (ok_Asker_runBodyR X.inj 12 h6) my_yX0_runBody mi_yX0_runBody ms_yX0_runBody ml_RX0_23 (by decide) rfl rfl (by decide) rfl dX0_askSize_14 (Nat.le_of_ble_eq_true rfl) rfl rfl ?_
  obtain ⟨rfl, rfl⟩ := rt_e h
  exact g_lret X Y dX0_askSize_17

theorem dX0_askMark_0 : decode cX0_askMark 0 = .ok (.aload_n 0, 1) := by decide +kernel
theorem dX0_askMark_1 : decode cX0_askMark 1 = .ok (.iconst 0, 1) := by decide +kernel
theorem dX0_askMark_2 : decode cX0_askMark 2 = .ok (.putfield 15, 3) := by decide +kernel
theorem dX0_askMark_5 : decode cX0_askMark 5 = .ok (.aload_n 0, 1) := by decide +kernel
theorem dX0_askMark_6 : decode cX0_askMark 6 = .ok (.aload_n 1, 1) := by decide +kernel
theorem dX0_askMark_7 : decode cX0_askMark 7 = .ok (.aload_n 1, 1) := by decide +kernel
theorem dX0_askMark_8 : decode cX0_askMark 8 = .ok (.iload_n 2, 1) := by decide +kernel
theorem dX0_askMark_9 : decode cX0_askMark 9 = .ok (.invokestatic 27, 3) := by decide +kernel
theorem dX0_askMark_12 : decode cX0_askMark 12 = .ok (.iload_n 2, 1) := by decide +kernel
theorem dX0_askMark_13 : decode cX0_askMark 13 = .ok (.iconst 0, 1) := by decide +kernel
theorem dX0_askMark_14 : decode cX0_askMark 14 = .ok (.invokevirtual 23, 3) := by decide +kernel
theorem dX0_askMark_17 : decode cX0_askMark 17 = .ok (.lreturn, 1) := by decide +kernel
def f_Asker_askMark (g : Nat) (x2 : Int32) (σ : St) : Option (Int64 × St) :=
  ck (isG g) <| lE (stF σ 12 0) fun σ1 => bd (f_Asker_markBody g x2 σ1) fun r5 σ4 => bd (f_Asker_runBodyR 12 g r5 x2 0 σ4) fun r8 σ7 => some (r8, σ7)
set_option maxRecDepth 4000 in
theorem ok_Asker_askMark {w : wT} (hi : wInj w) {l : Launch} {g : Nat} {x2 : Int32} {σ σ' : St} {r : Int64} (h : f_Asker_askMark g x2 σ = some (r, σ')) : gM w l yX0_askMark cX0_askMark 3 (some .long) 23 [.ref (w.1 8), .ref (w.1 g), .int x2] σ (some (.long r)) σ' := by
  unfold f_Asker_askMark at h
  obtain ⟨hg, h⟩ := ck_e h
  refine gM_of hi (by decide) [some (.ref (w.1 8)), some (.ref (w.1 g)), some (.int x2)] rfl (Nat.le_of_ble_eq_true rfl) (fun E hl X Y => ?_)
  refine g_aload_n X dX0_askMark_0 rfl rfl ?_
  refine g_iconst X kI_0 dX0_askMark_1 rfl ?_
  refine gp_RX0_15 X dX0_askMark_2 rfl (fun σ1 e2 => ?_)
  replace h := lE_c e2 h
  refine g_aload_n X dX0_askMark_5 rfl rfl ?_
  refine g_aload_n X dX0_askMark_6 rfl rfl ?_
  refine g_aload_n X dX0_askMark_7 rfl rfl ?_
  refine g_iload_n X dX0_askMark_8 rfl rfl ?_
  obtain ⟨r5, σ4, h3, h⟩ := bd_e h
  refine g_callSI X [.ref (w.1 g), .int x2] (ok_Asker_markBody X.inj h3) my_yX0_markBody mt_yX0_markBody ml_RX0_27 (by decide) rfl dX0_askMark_9 (Nat.le_of_ble_eq_true rfl) rfl rfl ?_
  refine g_iload_n X dX0_askMark_12 rfl rfl ?_
  refine g_iconst X kI_0 dX0_askMark_13 rfl ?_
  obtain ⟨r8, σ7, h6, h⟩ := bd_e h
  refine g_callVJ X [.ref (w.1 g), .int r5, .int x2, .int 0] (ok_Asker_runBodyR X.inj 12 h6) my_yX0_runBody mi_yX0_runBody ms_yX0_runBody ml_RX0_23 (by decide) rfl rfl (by decide) rfl dX0_askMark_14 (Nat.le_of_ble_eq_true rfl) rfl rfl ?_
  obtain ⟨rfl, rfl⟩ := rt_e h
  exact g_lret X Y dX0_askMark_17

theorem dX8_ask_0 : decode cX8_ask 0 = .ok (.aload_n 0, 1) := by decide +kernel
theorem dX8_ask_1 : decode cX8_ask 1 = .ok (.iload_n 1, 1) := by decide +kernel
theorem dX8_ask_2 : decode cX8_ask 2 = .ok (.invokevirtual 148, 3) := by decide +kernel
theorem dX8_ask_5 : decode cX8_ask 5 = .ok (.ifCond .eq 12, 3) := by decide +kernel
theorem dX8_ask_8 : decode cX8_ask 8 = .ok (.iload_n 2, 1) := by decide +kernel
theorem dX8_ask_9 : decode cX8_ask 9 = .ok (.ifCond .lt 8, 3) := by decide +kernel
theorem dX8_ask_12 : decode cX8_ask 12 = .ok (.iload_n 2, 1) := by decide +kernel
theorem dX8_ask_13 : decode cX8_ask 13 = .ok (.iconst 1, 1) := by decide +kernel
theorem dX8_ask_14 : decode cX8_ask 14 = .ok (.if_icmp .le 7, 3) := by decide +kernel
theorem dX8_ask_17 : decode cX8_ask 17 = .ok (.ldc2_w 83, 3) := by decide +kernel
theorem dX8_ask_20 : decode cX8_ask 20 = .ok (.lreturn, 1) := by decide +kernel
theorem dX8_ask_21 : decode cX8_ask 21 = .ok (.iload_n 2, 1) := by decide +kernel
theorem dX8_ask_22 : decode cX8_ask 22 = .ok (.ifCond .ne 18, 3) := by decide +kernel
theorem dX8_ask_25 : decode cX8_ask 25 = .ok (.aload_n 0, 1) := by decide +kernel
theorem dX8_ask_26 : decode cX8_ask 26 = .ok (.getfield 54, 3) := by decide +kernel
theorem dX8_ask_29 : decode cX8_ask 29 = .ok (.aload_n 0, 1) := by decide +kernel
theorem dX8_ask_30 : decode cX8_ask 30 = .ok (.getfield 65, 3) := by decide +kernel
theorem dX8_ask_33 : decode cX8_ask 33 = .ok (.iload_n 1, 1) := by decide +kernel
theorem dX8_ask_34 : decode cX8_ask 34 = .ok (.invokevirtual 269, 3) := by decide +kernel
theorem dX8_ask_37 : decode cX8_ask 37 = .ok (.goto 15, 3) := by decide +kernel
theorem dX8_ask_40 : decode cX8_ask 40 = .ok (.aload_n 0, 1) := by decide +kernel
theorem dX8_ask_41 : decode cX8_ask 41 = .ok (.getfield 54, 3) := by decide +kernel
theorem dX8_ask_44 : decode cX8_ask 44 = .ok (.aload_n 0, 1) := by decide +kernel
theorem dX8_ask_45 : decode cX8_ask 45 = .ok (.getfield 65, 3) := by decide +kernel
theorem dX8_ask_48 : decode cX8_ask 48 = .ok (.iload_n 1, 1) := by decide +kernel
theorem dX8_ask_49 : decode cX8_ask 49 = .ok (.invokevirtual 273, 3) := by decide +kernel
theorem dX8_ask_52 : decode cX8_ask 52 = .ok (.lreturn, 1) := by decide +kernel
def f_HG_ask (x1 : Int32) (x2 : Int32) (σ : St) : Option (Int64 × St) :=
  bd (f_HG_isPlace x1 σ) fun r3 σ2 => if r3 = 0 then (some ((-9000000000000000001), σ2)) else (if x2 < 0 then (some ((-9000000000000000001), σ2)) else (if x2 ≤ 1 then (if x2 = 0 then (bd (f_Asker_askSize (rR σ2 0) x1 σ2) fun r13 σ12 => some (r13, σ12)) else (bd (f_Asker_askMark (rR σ2 0) x1 σ2) fun r10 σ9 => some (r10, σ9))) else (some ((-9000000000000000001), σ2))))
set_option maxRecDepth 4000 in
theorem ok_HG_ask {w : wT} (hi : wInj w) {l : Launch} {x1 : Int32} {x2 : Int32} {σ σ' : St} {r : Int64} (h : f_HG_ask x1 x2 σ = some (r, σ')) : gM w l yX8_ask cX8_ask 3 (some .long) 24 [.ref (w.1 0), .int x1, .int x2] σ (some (.long r)) σ' := by
  unfold f_HG_ask at h
  refine gM_of hi (by decide) [some (.ref (w.1 0)), some (.int x1), some (.int x2)] rfl (Nat.le_of_ble_eq_true rfl) (fun E hl X Y => ?_)
  refine g_aload_n X dX8_ask_0 rfl rfl ?_
  refine g_iload_n X dX8_ask_1 rfl rfl ?_
  obtain ⟨r3, σ2, h1, h⟩ := bd_e h
  refine g_callVI X [.int x1] (ok_HG_isPlace X.inj h1) my_yX8_isPlace mi_yX8_isPlace ms_yX8_isPlace ml_RX8_148 (by decide) rfl rfl (by decide) rfl dX8_ask_2 (Nat.le_of_ble_eq_true rfl) rfl rfl ?_
  refine g_if_eq X dX8_ask_5 (tgt := 17) rfl rfl (fun c4 => ?_) (fun c4 => ?_)
  · replace h := if_t c4 h
    refine g_ldc2 X dX8_ask_17 kc_RX8_83 rfl ?_
    obtain ⟨rfl, rfl⟩ := rt_e h
    exact g_lret X Y dX8_ask_20
  · replace h := if_f c4 h
    refine g_iload_n X dX8_ask_8 rfl rfl ?_
    refine g_if_lt X dX8_ask_9 (tgt := 17) rfl rfl (fun c5 => ?_) (fun c5 => ?_)
    · replace h := if_t c5 h
      refine g_ldc2 X dX8_ask_17 kc_RX8_83 rfl ?_
      obtain ⟨rfl, rfl⟩ := rt_e h
      exact g_lret X Y dX8_ask_20
    · replace h := if_f c5 h
      refine g_iload_n X dX8_ask_12 rfl rfl ?_
      refine g_iconst X kI_1 dX8_ask_13 rfl ?_
      refine g_icmp_le X dX8_ask_14 (tgt := 21) rfl rfl (fun c6 => ?_) (fun c6 => ?_)
      · replace h := if_t c6 h
        refine g_iload_n X dX8_ask_21 rfl rfl ?_
        refine g_if_ne X dX8_ask_22 (tgt := 40) rfl rfl (fun c7 => ?_) (fun c7 => ?_)
        · replace h := if_f c7 h
          refine g_aload_n X dX8_ask_40 rfl rfl ?_
          refine gf_RX8_54 X dX8_ask_41 rfl ?_
          refine g_aload_n X dX8_ask_44 rfl rfl ?_
          refine gf_RX8_65 X dX8_ask_45 rfl ?_
          refine g_iload_n X dX8_ask_48 rfl rfl ?_
          obtain ⟨r10, σ9, h8, h⟩ := bd_e h
          refine g_callVJ X [.ref (w.1 (rR σ2 0)), .int x1] (ok_Asker_askMark X.inj h8) my_yX0_askMark mi_yX0_askMark ms_yX0_askMark ml_RX8_273 (by decide) rfl rfl (by decide) rfl dX8_ask_49 (Nat.le_of_ble_eq_true rfl) rfl rfl ?_
          obtain ⟨rfl, rfl⟩ := rt_e h
          exact g_lret X Y dX8_ask_52
        · replace h := if_t c7 h
          refine g_aload_n X dX8_ask_25 rfl rfl ?_
          refine gf_RX8_54 X dX8_ask_26 rfl ?_
          refine g_aload_n X dX8_ask_29 rfl rfl ?_
          refine gf_RX8_65 X dX8_ask_30 rfl ?_
          refine g_iload_n X dX8_ask_33 rfl rfl ?_
          obtain ⟨r13, σ12, h11, h⟩ := bd_e h
          refine g_callVJ X [.ref (w.1 (rR σ2 0)), .int x1] (ok_Asker_askSize X.inj h11) my_yX0_askSize mi_yX0_askSize ms_yX0_askSize ml_RX8_269 (by decide) rfl rfl (by decide) rfl dX8_ask_34 (Nat.le_of_ble_eq_true rfl) rfl rfl ?_
          refine g_goto X dX8_ask_37 (tgt := 52) rfl ?_
          obtain ⟨rfl, rfl⟩ := rt_e h
          exact g_lret X Y dX8_ask_52
      · replace h := if_f c6 h
        refine g_ldc2 X dX8_ask_17 kc_RX8_83 rfl ?_
        obtain ⟨rfl, rfl⟩ := rt_e h
        exact g_lret X Y dX8_ask_20

theorem dX8_trace_0 : decode cX8_trace 0 = .ok (.iload_n 1, 1) := by decide +kernel
theorem dX8_trace_1 : decode cX8_trace 1 = .ok (.ifCond .lt 14, 3) := by decide +kernel
theorem dX8_trace_4 : decode cX8_trace 4 = .ok (.iload_n 1, 1) := by decide +kernel
theorem dX8_trace_5 : decode cX8_trace 5 = .ok (.aload_n 0, 1) := by decide +kernel
theorem dX8_trace_6 : decode cX8_trace 6 = .ok (.getfield 54, 3) := by decide +kernel
theorem dX8_trace_9 : decode cX8_trace 9 = .ok (.getfield 276, 3) := by decide +kernel
theorem dX8_trace_12 : decode cX8_trace 12 = .ok (.if_icmp .lt 8, 3) := by decide +kernel
theorem dX8_trace_15 : decode cX8_trace 15 = .ok (.ldc 215, 2) := by decide +kernel
theorem dX8_trace_17 : decode cX8_trace 17 = .ok (.goto 12, 3) := by decide +kernel
theorem dX8_trace_20 : decode cX8_trace 20 = .ok (.aload_n 0, 1) := by decide +kernel
theorem dX8_trace_21 : decode cX8_trace 21 = .ok (.getfield 54, 3) := by decide +kernel
theorem dX8_trace_24 : decode cX8_trace 24 = .ok (.getfield 279, 3) := by decide +kernel
theorem dX8_trace_27 : decode cX8_trace 27 = .ok (.iload_n 1, 1) := by decide +kernel
theorem dX8_trace_28 : decode cX8_trace 28 = .ok (.iaload, 1) := by decide +kernel
theorem dX8_trace_29 : decode cX8_trace 29 = .ok (.ireturn, 1) := by decide +kernel
def f_HG_trace_b15 (σ : St) : Option (Int32 × St) :=
  some ((-1000000), σ)
set_option maxRecDepth 4000 in
theorem ok_HG_trace_b15 {E : gE} {w : wT} {σ' : St} {r : Int32} (X : gC E w cX8_trace 2 RX8 1) (Y : gQ E w (some .int) (some (.int r)) σ') (σ : St) (h : f_HG_trace_b15 σ = some (r, σ')) : gW E w 2 σ 15 [] [] := by
  unfold f_HG_trace_b15 at h
  refine g_ldc X dX8_trace_15 kc_RX8_215 rfl ?_
  refine g_goto X dX8_trace_17 (tgt := 29) rfl ?_
  obtain ⟨rfl, rfl⟩ := rt_e h
  exact g_iret X Y dX8_trace_29

def f_HG_trace (x1 : Int32) (σ : St) : Option (Int32 × St) :=
  if x1 < 0 then (f_HG_trace_b15 σ) else (if x1 < (rF σ 12) then (ck (ib x1 16) <| some (rI σ 62 x1, σ)) else (f_HG_trace_b15 σ))
set_option maxRecDepth 4000 in
theorem ok_HG_trace {w : wT} (hi : wInj w) {l : Launch} {x1 : Int32} {σ σ' : St} {r : Int32} (h : f_HG_trace x1 σ = some (r, σ')) : gM w l yX8_trace cX8_trace 2 (some .int) 1 [.ref (w.1 0), .int x1] σ (some (.int r)) σ' := by
  unfold f_HG_trace at h
  refine gM_of hi (by decide) [some (.ref (w.1 0)), some (.int x1)] rfl (Nat.le_of_ble_eq_true rfl) (fun E hl X Y => ?_)
  refine g_iload_n X dX8_trace_0 rfl rfl ?_
  refine g_if_lt X dX8_trace_1 (tgt := 15) rfl rfl (fun c1 => ?_) (fun c1 => ?_)
  · replace h := if_t c1 h
    exact g_le (lle_0) (ok_HG_trace_b15 X Y σ h)
  · replace h := if_f c1 h
    refine g_iload_n X dX8_trace_4 rfl rfl ?_
    refine g_aload_n X dX8_trace_5 rfl rfl ?_
    refine gf_RX8_54 X dX8_trace_6 rfl ?_
    refine gf_RX8_276 X dX8_trace_9 rfl ?_
    refine g_icmp_lt X dX8_trace_12 (tgt := 20) rfl rfl (fun c2 => ?_) (fun c2 => ?_)
    · replace h := if_t c2 h
      refine g_aload_n X dX8_trace_20 rfl rfl ?_
      refine gf_RX8_54 X dX8_trace_21 rfl ?_
      refine gf_RX8_279 X dX8_trace_24 rfl ?_
      refine g_iload_n X dX8_trace_27 rfl rfl ?_
      obtain ⟨c3, h⟩ := ck_e h
      refine g_iald X ar_62.1 ar_62.2.1 ar_62.2.2 (ib_e c3) dX8_trace_28 rfl ?_
      obtain ⟨rfl, rfl⟩ := rt_e h
      exact g_iret X Y dX8_trace_29
    · replace h := if_f c2 h
      exact g_le (lle_0) (ok_HG_trace_b15 X Y σ h)

theorem dX5_countRows_0 : decode cX5_countRows 0 = .ok (.iconst 0, 1) := by decide +kernel
theorem dX5_countRows_1 : decode cX5_countRows 1 = .ok (.istore_n 1, 1) := by decide +kernel
theorem dX5_countRows_2 : decode cX5_countRows 2 = .ok (.iconst 0, 1) := by decide +kernel
theorem dX5_countRows_3 : decode cX5_countRows 3 = .ok (.istore_n 2, 1) := by decide +kernel
theorem dX5_countRows_4 : decode cX5_countRows 4 = .ok (.iload_n 2, 1) := by decide +kernel
theorem dX5_countRows_5 : decode cX5_countRows 5 = .ok (.bipush 8, 2) := by decide +kernel
theorem dX5_countRows_7 : decode cX5_countRows 7 = .ok (.if_icmp .ge 20, 3) := by decide +kernel
theorem dX5_countRows_10 : decode cX5_countRows 10 = .ok (.aload_n 0, 1) := by decide +kernel
theorem dX5_countRows_11 : decode cX5_countRows 11 = .ok (.iload_n 2, 1) := by decide +kernel
theorem dX5_countRows_12 : decode cX5_countRows 12 = .ok (.invokevirtual 34, 3) := by decide +kernel
theorem dX5_countRows_15 : decode cX5_countRows 15 = .ok (.ifCond .ne 6, 3) := by decide +kernel
theorem dX5_countRows_18 : decode cX5_countRows 18 = .ok (.iinc 1 1, 3) := by decide +kernel
theorem dX5_countRows_21 : decode cX5_countRows 21 = .ok (.iinc 2 1, 3) := by decide +kernel
theorem dX5_countRows_24 : decode cX5_countRows 24 = .ok (.goto (-20), 3) := by decide +kernel
theorem dX5_countRows_27 : decode cX5_countRows 27 = .ok (.iload_n 1, 1) := by decide +kernel
theorem dX5_countRows_28 : decode cX5_countRows 28 = .ok (.ireturn, 1) := by decide +kernel
def f_Shelf_countRows_b21 (k4 : Int32 → Int32 → St → Option (Int32 × St)) (x1 : Int32) (x2 : Int32) (σ : St) : Option (Int32 × St) :=
  k4 x1 (x2 + 1) σ
set_option maxRecDepth 4000 in
theorem ok_Shelf_countRows_b21 {E : gE} {w : wT} {σ' : St} {r : Int32} (X : gC E w cX5_countRows 3 RX5 2) (Y : gQ E w (some .int) (some (.int r)) σ') {k4 : Int32 → Int32 → St → Option (Int32 × St)} (hk4 : ∀ (x1 : Int32) (x2 : Int32) (σ : St), k4 x1 x2 σ = some (r, σ') → gW E w 3 σ 4 [some (.ref (w.1 1)), some (.int x1), some (.int x2)] []) {x1 : Int32} {x2 : Int32} (σ : St) (h : f_Shelf_countRows_b21 k4 x1 x2 σ = some (r, σ')) : gW E w 3 σ 21 [some (.ref (w.1 1)), some (.int x1), some (.int x2)] [] := by
  unfold f_Shelf_countRows_b21 at h
  refine g_iinc X [some (.ref (w.1 1)), some (.int x1), some (.int (x2 + 1))] dX5_countRows_21 rfl (ii_1 x2) (Nat.le_of_ble_eq_true rfl) rfl rfl rfl ?_
  refine g_goto X dX5_countRows_24 (tgt := 4) rfl ?_
  exact hk4 x1 (x2 + 1) σ h

def f_Shelf_countRows_b4 (k4 : Int32 → Int32 → St → Option (Int32 × St)) (x1 : Int32) (x2 : Int32) (σ : St) : Option (Int32 × St) :=
  if (8 : Int32) ≤ x2 then (some (x1, σ)) else (bd (f_Shelf_isMissing x2 σ) fun r4 σ3 => if r4 = 0 then (f_Shelf_countRows_b21 k4 (x1 + 1) x2 σ3) else (f_Shelf_countRows_b21 k4 x1 x2 σ3))
set_option maxRecDepth 4000 in
theorem ok_Shelf_countRows_b4 {E : gE} {w : wT} {σ' : St} {r : Int32} (X : gC E w cX5_countRows 3 RX5 2) (Y : gQ E w (some .int) (some (.int r)) σ') {k4 : Int32 → Int32 → St → Option (Int32 × St)} (hk4 : ∀ (x1 : Int32) (x2 : Int32) (σ : St), k4 x1 x2 σ = some (r, σ') → gW E w 3 σ 4 [some (.ref (w.1 1)), some (.int x1), some (.int x2)] []) {x1 : Int32} {x2 : Int32} (σ : St) (h : f_Shelf_countRows_b4 k4 x1 x2 σ = some (r, σ')) : gW E w 3 σ 4 [some (.ref (w.1 1)), some (.int x1), some (.int x2)] [] := by
  unfold f_Shelf_countRows_b4 at h
  refine g_iload_n X dX5_countRows_4 rfl rfl ?_
  refine g_bipush X kB_8 dX5_countRows_5 rfl ?_
  refine g_icmp_ge X dX5_countRows_7 (tgt := 27) rfl rfl (fun c1 => ?_) (fun c1 => ?_)
  · replace h := if_t c1 h
    refine g_iload_n X dX5_countRows_27 rfl rfl ?_
    obtain ⟨rfl, rfl⟩ := rt_e h
    exact g_iret X Y dX5_countRows_28
  · replace h := if_f c1 h
    refine g_aload_n X dX5_countRows_10 rfl rfl ?_
    refine g_iload_n X dX5_countRows_11 rfl rfl ?_
    obtain ⟨r4, σ3, h2, h⟩ := bd_e h
    refine g_callVI X [.int x2] (ok_Shelf_isMissing X.inj h2) my_yX5_isMissing mi_yX5_isMissing ms_yX5_isMissing ml_RX5_34 (by decide) rfl rfl (by decide) rfl dX5_countRows_12 (Nat.le_of_ble_eq_true rfl) rfl rfl ?_
    refine g_if_ne X dX5_countRows_15 (tgt := 21) rfl rfl (fun c5 => ?_) (fun c5 => ?_)
    · replace h := if_f c5 h
      exact ok_Shelf_countRows_b21 X Y hk4 σ3 h
    · replace h := if_t c5 h
      refine g_iinc X [some (.ref (w.1 1)), some (.int (x1 + 1)), some (.int x2)] dX5_countRows_18 rfl (ii_1 x1) (Nat.le_of_ble_eq_true rfl) rfl rfl rfl ?_
      exact ok_Shelf_countRows_b21 X Y hk4 σ3 h
def f_Shelf_countRows_l4 : Int32 → Int32 → St → Option (Int32 × St) := lp (fun _ _ _ => none) (f_Shelf_countRows_b4) FU
theorem ok_Shelf_countRows_l4 {E : gE} {w : wT} {σ' : St} {r : Int32} (X : gC E w cX5_countRows 3 RX5 2) (Y : gQ E w (some .int) (some (.int r)) σ') {x1 : Int32} {x2 : Int32} (σ : St) (h : f_Shelf_countRows_l4 x1 x2 σ = some (r, σ')) : gW E w 3 σ 4 [some (.ref (w.1 1)), some (.int x1), some (.int x2)] [] :=
  lp_ind (P := fun (k : Int32 → Int32 → St → Option (Int32 × St)) => ∀ (x1 : Int32) (x2 : Int32) (σ : St), k x1 x2 σ = some (r, σ') → gW E w 3 σ 4 [some (.ref (w.1 1)), some (.int x1), some (.int x2)] []) (fun _ _ _ hh => nn hh) (fun k hk x1 x2 σ  hh => ok_Shelf_countRows_b4 X Y hk σ hh) FU x1 x2 σ  h

def f_Shelf_countRows (σ : St) : Option (Int32 × St) :=
  f_Shelf_countRows_l4 0 0 σ
set_option maxRecDepth 4000 in
theorem ok_Shelf_countRows {w : wT} (hi : wInj w) {l : Launch} {σ σ' : St} {r : Int32} (h : f_Shelf_countRows σ = some (r, σ')) : gM w l yX5_countRows cX5_countRows 3 (some .int) 2 [.ref (w.1 1)] σ (some (.int r)) σ' := by
  unfold f_Shelf_countRows at h
  refine gM_of hi (by decide) [some (.ref (w.1 1))] rfl (Nat.le_of_ble_eq_true rfl) (fun E hl X Y => ?_)
  refine g_iconst X kI_0 dX5_countRows_0 rfl ?_
  refine g_istore_n X [some (.ref (w.1 1)), some (.int 0)] dX5_countRows_1 (Nat.le_of_ble_eq_true rfl) rfl rfl rfl ?_
  refine g_iconst X kI_0 dX5_countRows_2 rfl ?_
  refine g_istore_n X [some (.ref (w.1 1)), some (.int 0), some (.int 0)] dX5_countRows_3 (Nat.le_of_ble_eq_true rfl) rfl rfl rfl ?_
  exact ok_Shelf_countRows_l4 X Y σ h

theorem dX1_countOf_0 : decode cX1_countOf 0 = .ok (.iconst 0, 1) := by decide +kernel
theorem dX1_countOf_1 : decode cX1_countOf 1 = .ok (.istore_n 2, 1) := by decide +kernel
theorem dX1_countOf_2 : decode cX1_countOf 2 = .ok (.iconst 0, 1) := by decide +kernel
theorem dX1_countOf_3 : decode cX1_countOf 3 = .ok (.istore_n 3, 1) := by decide +kernel
theorem dX1_countOf_4 : decode cX1_countOf 4 = .ok (.iload_n 3, 1) := by decide +kernel
theorem dX1_countOf_5 : decode cX1_countOf 5 = .ok (.aload_n 0, 1) := by decide +kernel
theorem dX1_countOf_6 : decode cX1_countOf 6 = .ok (.getfield 9, 3) := by decide +kernel
theorem dX1_countOf_9 : decode cX1_countOf 9 = .ok (.if_icmp .ge 22, 3) := by decide +kernel
theorem dX1_countOf_12 : decode cX1_countOf 12 = .ok (.aload_n 0, 1) := by decide +kernel
theorem dX1_countOf_13 : decode cX1_countOf 13 = .ok (.getfield 15, 3) := by decide +kernel
theorem dX1_countOf_16 : decode cX1_countOf 16 = .ok (.iload_n 3, 1) := by decide +kernel
theorem dX1_countOf_17 : decode cX1_countOf 17 = .ok (.iaload, 1) := by decide +kernel
theorem dX1_countOf_18 : decode cX1_countOf 18 = .ok (.iload_n 1, 1) := by decide +kernel
theorem dX1_countOf_19 : decode cX1_countOf 19 = .ok (.if_icmp .ne 6, 3) := by decide +kernel
theorem dX1_countOf_22 : decode cX1_countOf 22 = .ok (.iinc 2 1, 3) := by decide +kernel
theorem dX1_countOf_25 : decode cX1_countOf 25 = .ok (.iinc 3 1, 3) := by decide +kernel
theorem dX1_countOf_28 : decode cX1_countOf 28 = .ok (.goto (-24), 3) := by decide +kernel
theorem dX1_countOf_31 : decode cX1_countOf 31 = .ok (.iload_n 2, 1) := by decide +kernel
theorem dX1_countOf_32 : decode cX1_countOf 32 = .ok (.ireturn, 1) := by decide +kernel
def f_Game_countOf_b25 (g : Nat) (k4 : Int32 → Int32 → Int32 → St → Option (Int32 × St)) (x1 : Int32) (x2 : Int32) (x3 : Int32) (σ : St) : Option (Int32 × St) :=
  k4 x1 x2 (x3 + 1) σ
set_option maxRecDepth 4000 in
theorem ok_Game_countOf_b25 {E : gE} {w : wT} {σ' : St} {r : Int32} (X : gC E w cX1_countOf 4 RX1 1) (Y : gQ E w (some .int) (some (.int r)) σ') {g : Nat} (hg : isG g = true) {k4 : Int32 → Int32 → Int32 → St → Option (Int32 × St)} (hk4 : ∀ (x1 : Int32) (x2 : Int32) (x3 : Int32) (σ : St), k4 x1 x2 x3 σ = some (r, σ') → gW E w 4 σ 4 [some (.ref (w.1 g)), some (.int x1), some (.int x2), some (.int x3)] []) {x1 : Int32} {x2 : Int32} {x3 : Int32} (σ : St) (h : f_Game_countOf_b25 g k4 x1 x2 x3 σ = some (r, σ')) : gW E w 4 σ 25 [some (.ref (w.1 g)), some (.int x1), some (.int x2), some (.int x3)] [] := by
  unfold f_Game_countOf_b25 at h
  refine g_iinc X [some (.ref (w.1 g)), some (.int x1), some (.int x2), some (.int (x3 + 1))] dX1_countOf_25 rfl (ii_1 x3) (Nat.le_of_ble_eq_true rfl) rfl rfl rfl ?_
  refine g_goto X dX1_countOf_28 (tgt := 4) rfl ?_
  exact hk4 x1 x2 (x3 + 1) σ h

def f_Game_countOf_b4 (g : Nat) (k4 : Int32 → Int32 → Int32 → St → Option (Int32 × St)) (x1 : Int32) (x2 : Int32) (x3 : Int32) (σ : St) : Option (Int32 × St) :=
  if (rF σ (g + 10)) ≤ x3 then (some (x2, σ)) else (ck (ib x3 60) <| if (rI σ (g + 1) x3) = x1 then (f_Game_countOf_b25 g k4 x1 (x2 + 1) x3 σ) else (f_Game_countOf_b25 g k4 x1 x2 x3 σ))
set_option maxRecDepth 4000 in
theorem ok_Game_countOf_b4 {E : gE} {w : wT} {σ' : St} {r : Int32} (X : gC E w cX1_countOf 4 RX1 1) (Y : gQ E w (some .int) (some (.int r)) σ') {g : Nat} (hg : isG g = true) {k4 : Int32 → Int32 → Int32 → St → Option (Int32 × St)} (hk4 : ∀ (x1 : Int32) (x2 : Int32) (x3 : Int32) (σ : St), k4 x1 x2 x3 σ = some (r, σ') → gW E w 4 σ 4 [some (.ref (w.1 g)), some (.int x1), some (.int x2), some (.int x3)] []) {x1 : Int32} {x2 : Int32} {x3 : Int32} (σ : St) (h : f_Game_countOf_b4 g k4 x1 x2 x3 σ = some (r, σ')) : gW E w 4 σ 4 [some (.ref (w.1 g)), some (.int x1), some (.int x2), some (.int x3)] [] := by
  unfold f_Game_countOf_b4 at h
  refine g_iload_n X dX1_countOf_4 rfl rfl ?_
  refine g_aload_n X dX1_countOf_5 rfl rfl ?_
  refine gf_RX1_9 hg X dX1_countOf_6 rfl ?_
  refine g_icmp_ge X dX1_countOf_9 (tgt := 31) rfl rfl (fun c1 => ?_) (fun c1 => ?_)
  · replace h := if_t c1 h
    refine g_iload_n X dX1_countOf_31 rfl rfl ?_
    obtain ⟨rfl, rfl⟩ := rt_e h
    exact g_iret X Y dX1_countOf_32
  · replace h := if_f c1 h
    refine g_aload_n X dX1_countOf_12 rfl rfl ?_
    refine gf_RX1_15 hg X dX1_countOf_13 rfl ?_
    refine g_iload_n X dX1_countOf_16 rfl rfl ?_
    obtain ⟨c2, h⟩ := ck_e h
    refine g_iald X (ga_1 hg).1 (ga_1 hg).2.1 (ga_1 hg).2.2 (ib_e c2) dX1_countOf_17 rfl ?_
    refine g_iload_n X dX1_countOf_18 rfl rfl ?_
    refine g_icmp_ne X dX1_countOf_19 (tgt := 25) rfl rfl (fun c3 => ?_) (fun c3 => ?_)
    · replace h := if_f c3 h
      exact ok_Game_countOf_b25 X Y hg hk4 σ h
    · replace h := if_t c3 h
      refine g_iinc X [some (.ref (w.1 g)), some (.int x1), some (.int (x2 + 1)), some (.int x3)] dX1_countOf_22 rfl (ii_1 x2) (Nat.le_of_ble_eq_true rfl) rfl rfl rfl ?_
      exact ok_Game_countOf_b25 X Y hg hk4 σ h
def f_Game_countOf_l4 (g : Nat) : Int32 → Int32 → Int32 → St → Option (Int32 × St) := lp (fun _ _ _ _ => none) (f_Game_countOf_b4 g) FU
theorem ok_Game_countOf_l4 {E : gE} {w : wT} {σ' : St} {r : Int32} (X : gC E w cX1_countOf 4 RX1 1) (Y : gQ E w (some .int) (some (.int r)) σ') {g : Nat} (hg : isG g = true) {x1 : Int32} {x2 : Int32} {x3 : Int32} (σ : St) (h : f_Game_countOf_l4 g x1 x2 x3 σ = some (r, σ')) : gW E w 4 σ 4 [some (.ref (w.1 g)), some (.int x1), some (.int x2), some (.int x3)] [] :=
  lp_ind (P := fun (k : Int32 → Int32 → Int32 → St → Option (Int32 × St)) => ∀ (x1 : Int32) (x2 : Int32) (x3 : Int32) (σ : St), k x1 x2 x3 σ = some (r, σ') → gW E w 4 σ 4 [some (.ref (w.1 g)), some (.int x1), some (.int x2), some (.int x3)] []) (fun _ _ _ _ hh => nn hh) (fun k hk x1 x2 x3 σ  hh => ok_Game_countOf_b4 X Y hg hk σ hh) FU x1 x2 x3 σ  h

def f_Game_countOf (g : Nat) (x1 : Int32) (σ : St) : Option (Int32 × St) :=
  ck (isG g) <| f_Game_countOf_l4 g x1 0 0 σ
set_option maxRecDepth 4000 in
theorem ok_Game_countOf {w : wT} (hi : wInj w) {l : Launch} {g : Nat} {x1 : Int32} {σ σ' : St} {r : Int32} (h : f_Game_countOf g x1 σ = some (r, σ')) : gM w l yX1_countOf cX1_countOf 4 (some .int) 1 [.ref (w.1 g), .int x1] σ (some (.int r)) σ' := by
  unfold f_Game_countOf at h
  obtain ⟨hg, h⟩ := ck_e h
  refine gM_of hi (by decide) [some (.ref (w.1 g)), some (.int x1)] rfl (Nat.le_of_ble_eq_true rfl) (fun E hl X Y => ?_)
  refine g_iconst X kI_0 dX1_countOf_0 rfl ?_
  refine g_istore_n X [some (.ref (w.1 g)), some (.int x1), some (.int 0)] dX1_countOf_1 (Nat.le_of_ble_eq_true rfl) rfl rfl rfl ?_
  refine g_iconst X kI_0 dX1_countOf_2 rfl ?_
  refine g_istore_n X [some (.ref (w.1 g)), some (.int x1), some (.int 0), some (.int 0)] dX1_countOf_3 (Nat.le_of_ble_eq_true rfl) rfl rfl rfl ?_
  exact ok_Game_countOf_l4 X Y hg σ h

theorem dX1_countSets_0 : decode cX1_countSets 0 = .ok (.iconst 0, 1) := by decide +kernel
theorem dX1_countSets_1 : decode cX1_countSets 1 = .ok (.istore_n 1, 1) := by decide +kernel
theorem dX1_countSets_2 : decode cX1_countSets 2 = .ok (.iconst 0, 1) := by decide +kernel
theorem dX1_countSets_3 : decode cX1_countSets 3 = .ok (.istore_n 2, 1) := by decide +kernel
theorem dX1_countSets_4 : decode cX1_countSets 4 = .ok (.iload_n 2, 1) := by decide +kernel
theorem dX1_countSets_5 : decode cX1_countSets 5 = .ok (.bipush 10, 2) := by decide +kernel
theorem dX1_countSets_7 : decode cX1_countSets 7 = .ok (.if_icmp .ge 21, 3) := by decide +kernel
theorem dX1_countSets_10 : decode cX1_countSets 10 = .ok (.aload_n 0, 1) := by decide +kernel
theorem dX1_countSets_11 : decode cX1_countSets 11 = .ok (.getfield 59, 3) := by decide +kernel
theorem dX1_countSets_14 : decode cX1_countSets 14 = .ok (.iload_n 2, 1) := by decide +kernel
theorem dX1_countSets_15 : decode cX1_countSets 15 = .ok (.iaload, 1) := by decide +kernel
theorem dX1_countSets_16 : decode cX1_countSets 16 = .ok (.ifCond .le 6, 3) := by decide +kernel
theorem dX1_countSets_19 : decode cX1_countSets 19 = .ok (.iinc 1 1, 3) := by decide +kernel
theorem dX1_countSets_22 : decode cX1_countSets 22 = .ok (.iinc 2 1, 3) := by decide +kernel
theorem dX1_countSets_25 : decode cX1_countSets 25 = .ok (.goto (-21), 3) := by decide +kernel
theorem dX1_countSets_28 : decode cX1_countSets 28 = .ok (.iload_n 1, 1) := by decide +kernel
theorem dX1_countSets_29 : decode cX1_countSets 29 = .ok (.ireturn, 1) := by decide +kernel
def f_Game_countSets_b22 (g : Nat) (k4 : Int32 → Int32 → St → Option (Int32 × St)) (x1 : Int32) (x2 : Int32) (σ : St) : Option (Int32 × St) :=
  k4 x1 (x2 + 1) σ
set_option maxRecDepth 4000 in
theorem ok_Game_countSets_b22 {E : gE} {w : wT} {σ' : St} {r : Int32} (X : gC E w cX1_countSets 3 RX1 1) (Y : gQ E w (some .int) (some (.int r)) σ') {g : Nat} (hg : isG g = true) {k4 : Int32 → Int32 → St → Option (Int32 × St)} (hk4 : ∀ (x1 : Int32) (x2 : Int32) (σ : St), k4 x1 x2 σ = some (r, σ') → gW E w 3 σ 4 [some (.ref (w.1 g)), some (.int x1), some (.int x2)] []) {x1 : Int32} {x2 : Int32} (σ : St) (h : f_Game_countSets_b22 g k4 x1 x2 σ = some (r, σ')) : gW E w 3 σ 22 [some (.ref (w.1 g)), some (.int x1), some (.int x2)] [] := by
  unfold f_Game_countSets_b22 at h
  refine g_iinc X [some (.ref (w.1 g)), some (.int x1), some (.int (x2 + 1))] dX1_countSets_22 rfl (ii_1 x2) (Nat.le_of_ble_eq_true rfl) rfl rfl rfl ?_
  refine g_goto X dX1_countSets_25 (tgt := 4) rfl ?_
  exact hk4 x1 (x2 + 1) σ h

def f_Game_countSets_b4 (g : Nat) (k4 : Int32 → Int32 → St → Option (Int32 × St)) (x1 : Int32) (x2 : Int32) (σ : St) : Option (Int32 × St) :=
  if (10 : Int32) ≤ x2 then (some (x1, σ)) else (ck (ib x2 10) <| if (rI σ (g + 15) x2) ≤ 0 then (f_Game_countSets_b22 g k4 x1 x2 σ) else (f_Game_countSets_b22 g k4 (x1 + 1) x2 σ))
set_option maxRecDepth 4000 in
theorem ok_Game_countSets_b4 {E : gE} {w : wT} {σ' : St} {r : Int32} (X : gC E w cX1_countSets 3 RX1 1) (Y : gQ E w (some .int) (some (.int r)) σ') {g : Nat} (hg : isG g = true) {k4 : Int32 → Int32 → St → Option (Int32 × St)} (hk4 : ∀ (x1 : Int32) (x2 : Int32) (σ : St), k4 x1 x2 σ = some (r, σ') → gW E w 3 σ 4 [some (.ref (w.1 g)), some (.int x1), some (.int x2)] []) {x1 : Int32} {x2 : Int32} (σ : St) (h : f_Game_countSets_b4 g k4 x1 x2 σ = some (r, σ')) : gW E w 3 σ 4 [some (.ref (w.1 g)), some (.int x1), some (.int x2)] [] := by
  unfold f_Game_countSets_b4 at h
  refine g_iload_n X dX1_countSets_4 rfl rfl ?_
  refine g_bipush X kB_10 dX1_countSets_5 rfl ?_
  refine g_icmp_ge X dX1_countSets_7 (tgt := 28) rfl rfl (fun c1 => ?_) (fun c1 => ?_)
  · replace h := if_t c1 h
    refine g_iload_n X dX1_countSets_28 rfl rfl ?_
    obtain ⟨rfl, rfl⟩ := rt_e h
    exact g_iret X Y dX1_countSets_29
  · replace h := if_f c1 h
    refine g_aload_n X dX1_countSets_10 rfl rfl ?_
    refine gf_RX1_59 hg X dX1_countSets_11 rfl ?_
    refine g_iload_n X dX1_countSets_14 rfl rfl ?_
    obtain ⟨c2, h⟩ := ck_e h
    refine g_iald X (ga_15 hg).1 (ga_15 hg).2.1 (ga_15 hg).2.2 (ib_e c2) dX1_countSets_15 rfl ?_
    refine g_if_le X dX1_countSets_16 (tgt := 22) rfl rfl (fun c3 => ?_) (fun c3 => ?_)
    · replace h := if_t c3 h
      exact ok_Game_countSets_b22 X Y hg hk4 σ h
    · replace h := if_f c3 h
      refine g_iinc X [some (.ref (w.1 g)), some (.int (x1 + 1)), some (.int x2)] dX1_countSets_19 rfl (ii_1 x1) (Nat.le_of_ble_eq_true rfl) rfl rfl rfl ?_
      exact ok_Game_countSets_b22 X Y hg hk4 σ h
def f_Game_countSets_l4 (g : Nat) : Int32 → Int32 → St → Option (Int32 × St) := lp (fun _ _ _ => none) (f_Game_countSets_b4 g) FU
theorem ok_Game_countSets_l4 {E : gE} {w : wT} {σ' : St} {r : Int32} (X : gC E w cX1_countSets 3 RX1 1) (Y : gQ E w (some .int) (some (.int r)) σ') {g : Nat} (hg : isG g = true) {x1 : Int32} {x2 : Int32} (σ : St) (h : f_Game_countSets_l4 g x1 x2 σ = some (r, σ')) : gW E w 3 σ 4 [some (.ref (w.1 g)), some (.int x1), some (.int x2)] [] :=
  lp_ind (P := fun (k : Int32 → Int32 → St → Option (Int32 × St)) => ∀ (x1 : Int32) (x2 : Int32) (σ : St), k x1 x2 σ = some (r, σ') → gW E w 3 σ 4 [some (.ref (w.1 g)), some (.int x1), some (.int x2)] []) (fun _ _ _ hh => nn hh) (fun k hk x1 x2 σ  hh => ok_Game_countSets_b4 X Y hg hk σ hh) FU x1 x2 σ  h

def f_Game_countSets (g : Nat) (σ : St) : Option (Int32 × St) :=
  ck (isG g) <| f_Game_countSets_l4 g 0 0 σ
set_option maxRecDepth 4000 in
theorem ok_Game_countSets {w : wT} (hi : wInj w) {l : Launch} {g : Nat} {σ σ' : St} {r : Int32} (h : f_Game_countSets g σ = some (r, σ')) : gM w l yX1_countSets cX1_countSets 3 (some .int) 1 [.ref (w.1 g)] σ (some (.int r)) σ' := by
  unfold f_Game_countSets at h
  obtain ⟨hg, h⟩ := ck_e h
  refine gM_of hi (by decide) [some (.ref (w.1 g))] rfl (Nat.le_of_ble_eq_true rfl) (fun E hl X Y => ?_)
  refine g_iconst X kI_0 dX1_countSets_0 rfl ?_
  refine g_istore_n X [some (.ref (w.1 g)), some (.int 0)] dX1_countSets_1 (Nat.le_of_ble_eq_true rfl) rfl rfl rfl ?_
  refine g_iconst X kI_0 dX1_countSets_2 rfl ?_
  refine g_istore_n X [some (.ref (w.1 g)), some (.int 0), some (.int 0)] dX1_countSets_3 (Nat.le_of_ble_eq_true rfl) rfl rfl rfl ?_
  exact ok_Game_countSets_l4 X Y hg σ h

theorem dX8_count_0 : decode cX8_count 0 = .ok (.iload_n 1, 1) := by decide +kernel
theorem dX8_count_1 : decode cX8_count 1 = .ok (.tableswitch 108 0 6 #[43, 52, 61, 71, 81, 90, 99], 43) := by decide +kernel
theorem dX8_count_44 : decode cX8_count 44 = .ok (.aload_n 0, 1) := by decide +kernel
theorem dX8_count_45 : decode cX8_count 45 = .ok (.getfield 12, 3) := by decide +kernel
theorem dX8_count_48 : decode cX8_count 48 = .ok (.invokevirtual 282, 3) := by decide +kernel
theorem dX8_count_51 : decode cX8_count 51 = .ok (.i2l, 1) := by decide +kernel
theorem dX8_count_52 : decode cX8_count 52 = .ok (.lreturn, 1) := by decide +kernel
theorem dX8_count_53 : decode cX8_count 53 = .ok (.aload_n 0, 1) := by decide +kernel
theorem dX8_count_54 : decode cX8_count 54 = .ok (.getfield 65, 3) := by decide +kernel
theorem dX8_count_57 : decode cX8_count 57 = .ok (.getfield 145, 3) := by decide +kernel
theorem dX8_count_60 : decode cX8_count 60 = .ok (.i2l, 1) := by decide +kernel
theorem dX8_count_61 : decode cX8_count 61 = .ok (.lreturn, 1) := by decide +kernel
theorem dX8_count_62 : decode cX8_count 62 = .ok (.aload_n 0, 1) := by decide +kernel
theorem dX8_count_63 : decode cX8_count 63 = .ok (.getfield 65, 3) := by decide +kernel
theorem dX8_count_66 : decode cX8_count 66 = .ok (.iconst 0, 1) := by decide +kernel
theorem dX8_count_67 : decode cX8_count 67 = .ok (.invokevirtual 286, 3) := by decide +kernel
theorem dX8_count_70 : decode cX8_count 70 = .ok (.i2l, 1) := by decide +kernel
theorem dX8_count_71 : decode cX8_count 71 = .ok (.lreturn, 1) := by decide +kernel
theorem dX8_count_72 : decode cX8_count 72 = .ok (.aload_n 0, 1) := by decide +kernel
theorem dX8_count_73 : decode cX8_count 73 = .ok (.getfield 65, 3) := by decide +kernel
theorem dX8_count_76 : decode cX8_count 76 = .ok (.iconst 1, 1) := by decide +kernel
theorem dX8_count_77 : decode cX8_count 77 = .ok (.invokevirtual 286, 3) := by decide +kernel
theorem dX8_count_80 : decode cX8_count 80 = .ok (.i2l, 1) := by decide +kernel
theorem dX8_count_81 : decode cX8_count 81 = .ok (.lreturn, 1) := by decide +kernel
theorem dX8_count_82 : decode cX8_count 82 = .ok (.aload_n 0, 1) := by decide +kernel
theorem dX8_count_83 : decode cX8_count 83 = .ok (.getfield 65, 3) := by decide +kernel
theorem dX8_count_86 : decode cX8_count 86 = .ok (.invokevirtual 289, 3) := by decide +kernel
theorem dX8_count_89 : decode cX8_count 89 = .ok (.i2l, 1) := by decide +kernel
theorem dX8_count_90 : decode cX8_count 90 = .ok (.lreturn, 1) := by decide +kernel
theorem dX8_count_91 : decode cX8_count 91 = .ok (.aload_n 0, 1) := by decide +kernel
theorem dX8_count_92 : decode cX8_count 92 = .ok (.getfield 47, 3) := by decide +kernel
theorem dX8_count_95 : decode cX8_count 95 = .ok (.getfield 242, 3) := by decide +kernel
theorem dX8_count_98 : decode cX8_count 98 = .ok (.i2l, 1) := by decide +kernel
theorem dX8_count_99 : decode cX8_count 99 = .ok (.lreturn, 1) := by decide +kernel
theorem dX8_count_100 : decode cX8_count 100 = .ok (.aload_n 0, 1) := by decide +kernel
theorem dX8_count_101 : decode cX8_count 101 = .ok (.getfield 19, 3) := by decide +kernel
theorem dX8_count_104 : decode cX8_count 104 = .ok (.getfield 120, 3) := by decide +kernel
theorem dX8_count_107 : decode cX8_count 107 = .ok (.i2l, 1) := by decide +kernel
theorem dX8_count_108 : decode cX8_count 108 = .ok (.lreturn, 1) := by decide +kernel
theorem dX8_count_109 : decode cX8_count 109 = .ok (.ldc2_w 83, 3) := by decide +kernel
theorem dX8_count_112 : decode cX8_count 112 = .ok (.lreturn, 1) := by decide +kernel
def f_HG_count (x1 : Int32) (σ : St) : Option (Int64 × St) :=
  if x1 = 0 then (bd (f_Shelf_countRows σ) fun r4 σ3 => some (r4.toInt64, σ3)) else if x1 = 1 then (ck (isG (rR σ 0)) <| some ((rF σ ((rR σ 0) + 10)).toInt64, σ)) else if x1 = 2 then (ck (isG (rR σ 0)) <| bd (f_Game_countOf (rR σ 0) 0 σ) fun r10 σ9 => some (r10.toInt64, σ9)) else if x1 = 3 then (ck (isG (rR σ 0)) <| bd (f_Game_countOf (rR σ 0) 1 σ) fun r15 σ14 => some (r15.toInt64, σ14)) else if x1 = 4 then (ck (isG (rR σ 0)) <| bd (f_Game_countSets (rR σ 0) σ) fun r20 σ19 => some (r20.toInt64, σ19)) else if x1 = 5 then (some ((rF σ 11).toInt64, σ)) else if x1 = 6 then (some ((rF σ 2).toInt64, σ)) else (some ((-9000000000000000001), σ))
set_option maxRecDepth 4000 in
theorem ok_HG_count {w : wT} (hi : wInj w) {l : Launch} {x1 : Int32} {σ σ' : St} {r : Int64} (h : f_HG_count x1 σ = some (r, σ')) : gM w l yX8_count cX8_count 2 (some .long) 3 [.ref (w.1 0), .int x1] σ (some (.long r)) σ' := by
  unfold f_HG_count at h
  refine gM_of hi (by decide) [some (.ref (w.1 0)), some (.int x1)] rfl (Nat.le_of_ble_eq_true rfl) (fun E hl X Y => ?_)
  refine g_iload_n X dX8_count_0 rfl rfl ?_
  by_cases c1 : x1 = 0
  · replace h := if_t c1 h
    refine g_tin X dX8_count_1 (by rw [c1]; decide) (by rw [c1]; decide) (off := 43) (by rw [c1]; rfl) (tgt := 44) rfl ?_
    refine g_aload_n X dX8_count_44 rfl rfl ?_
    refine gf_RX8_12 X dX8_count_45 rfl ?_
    obtain ⟨r4, σ3, h2, h⟩ := bd_e h
    refine g_callVI X [] (ok_Shelf_countRows X.inj h2) my_yX5_countRows mi_yX5_countRows ms_yX5_countRows ml_RX8_282 (by decide) rfl rfl (by decide) rfl dX8_count_48 (Nat.le_of_ble_eq_true rfl) rfl rfl ?_
    refine g_i2l X dX8_count_51 rfl ?_
    obtain ⟨rfl, rfl⟩ := rt_e h
    exact g_lret X Y dX8_count_52
  · replace h := if_f c1 h
    by_cases c5 : x1 = 1
    · replace h := if_t c5 h
      refine g_tin X dX8_count_1 (by rw [c5]; decide) (by rw [c5]; decide) (off := 52) (by rw [c5]; rfl) (tgt := 53) rfl ?_
      refine g_aload_n X dX8_count_53 rfl rfl ?_
      refine gf_RX8_65 X dX8_count_54 rfl ?_
      obtain ⟨c6, h⟩ := ck_e h
      refine gf_RX8_145 c6 X dX8_count_57 rfl ?_
      refine g_i2l X dX8_count_60 rfl ?_
      obtain ⟨rfl, rfl⟩ := rt_e h
      exact g_lret X Y dX8_count_61
    · replace h := if_f c5 h
      by_cases c7 : x1 = 2
      · replace h := if_t c7 h
        refine g_tin X dX8_count_1 (by rw [c7]; decide) (by rw [c7]; decide) (off := 61) (by rw [c7]; rfl) (tgt := 62) rfl ?_
        refine g_aload_n X dX8_count_62 rfl rfl ?_
        refine gf_RX8_65 X dX8_count_63 rfl ?_
        refine g_iconst X kI_0 dX8_count_66 rfl ?_
        obtain ⟨c11, h⟩ := ck_e h
        obtain ⟨r10, σ9, h8, h⟩ := bd_e h
        refine g_callVI X [.int 0] (ok_Game_countOf X.inj h8) my_yX1_countOf mi_yX1_countOf ms_yX1_countOf ml_RX8_286 (go_ c11).1 (go_ c11).2.1 (go_ c11).2.2 (by decide) rfl dX8_count_67 (Nat.le_of_ble_eq_true rfl) rfl rfl ?_
        refine g_i2l X dX8_count_70 rfl ?_
        obtain ⟨rfl, rfl⟩ := rt_e h
        exact g_lret X Y dX8_count_71
      · replace h := if_f c7 h
        by_cases c12 : x1 = 3
        · replace h := if_t c12 h
          refine g_tin X dX8_count_1 (by rw [c12]; decide) (by rw [c12]; decide) (off := 71) (by rw [c12]; rfl) (tgt := 72) rfl ?_
          refine g_aload_n X dX8_count_72 rfl rfl ?_
          refine gf_RX8_65 X dX8_count_73 rfl ?_
          refine g_iconst X kI_1 dX8_count_76 rfl ?_
          obtain ⟨c16, h⟩ := ck_e h
          obtain ⟨r15, σ14, h13, h⟩ := bd_e h
          refine g_callVI X [.int 1] (ok_Game_countOf X.inj h13) my_yX1_countOf mi_yX1_countOf ms_yX1_countOf ml_RX8_286 (go_ c16).1 (go_ c16).2.1 (go_ c16).2.2 (by decide) rfl dX8_count_77 (Nat.le_of_ble_eq_true rfl) rfl rfl ?_
          refine g_i2l X dX8_count_80 rfl ?_
          obtain ⟨rfl, rfl⟩ := rt_e h
          exact g_lret X Y dX8_count_81
        · replace h := if_f c12 h
          by_cases c17 : x1 = 4
          · replace h := if_t c17 h
            refine g_tin X dX8_count_1 (by rw [c17]; decide) (by rw [c17]; decide) (off := 81) (by rw [c17]; rfl) (tgt := 82) rfl ?_
            refine g_aload_n X dX8_count_82 rfl rfl ?_
            refine gf_RX8_65 X dX8_count_83 rfl ?_
            obtain ⟨c21, h⟩ := ck_e h
            obtain ⟨r20, σ19, h18, h⟩ := bd_e h
            refine g_callVI X [] (ok_Game_countSets X.inj h18) my_yX1_countSets mi_yX1_countSets ms_yX1_countSets ml_RX8_289 (go_ c21).1 (go_ c21).2.1 (go_ c21).2.2 (by decide) rfl dX8_count_86 (Nat.le_of_ble_eq_true rfl) rfl rfl ?_
            refine g_i2l X dX8_count_89 rfl ?_
            obtain ⟨rfl, rfl⟩ := rt_e h
            exact g_lret X Y dX8_count_90
          · replace h := if_f c17 h
            by_cases c22 : x1 = 5
            · replace h := if_t c22 h
              refine g_tin X dX8_count_1 (by rw [c22]; decide) (by rw [c22]; decide) (off := 90) (by rw [c22]; rfl) (tgt := 91) rfl ?_
              refine g_aload_n X dX8_count_91 rfl rfl ?_
              refine gf_RX8_47 X dX8_count_92 rfl ?_
              refine gf_RX8_242 X dX8_count_95 rfl ?_
              refine g_i2l X dX8_count_98 rfl ?_
              obtain ⟨rfl, rfl⟩ := rt_e h
              exact g_lret X Y dX8_count_99
            · replace h := if_f c22 h
              by_cases c23 : x1 = 6
              · replace h := if_t c23 h
                refine g_tin X dX8_count_1 (by rw [c23]; decide) (by rw [c23]; decide) (off := 99) (by rw [c23]; rfl) (tgt := 100) rfl ?_
                refine g_aload_n X dX8_count_100 rfl rfl ?_
                refine gf_RX8_19 X dX8_count_101 rfl ?_
                refine gf_RX8_120 X dX8_count_104 rfl ?_
                refine g_i2l X dX8_count_107 rfl ?_
                obtain ⟨rfl, rfl⟩ := rt_e h
                exact g_lret X Y dX8_count_108
              · replace h := if_f c23 h
                refine g_tout X dX8_count_1 (swo (fun z z1 z2 => ?_)) (tgt := 109) rfl ?_
                · have zz : z = 0 ∨ z = 1 ∨ z = 2 ∨ z = 3 ∨ z = 4 ∨ z = 5 ∨ z = 6 := by omega
                  rcases zz with rfl | rfl | rfl | rfl | rfl | rfl | rfl
                  · exact sw1 c1 rfl
                  · exact sw1 c5 rfl
                  · exact sw1 c7 rfl
                  · exact sw1 c12 rfl
                  · exact sw1 c17 rfl
                  · exact sw1 c22 rfl
                  · exact sw1 c23 rfl
                ·
                  refine g_ldc2 X dX8_count_109 kc_RX8_83 rfl ?_
                  obtain ⟨rfl, rfl⟩ := rt_e h
                  exact g_lret X Y dX8_count_112

theorem dX8_status_0 : decode cX8_status 0 = .ok (.aload_n 0, 1) := by decide +kernel
theorem dX8_status_1 : decode cX8_status 1 = .ok (.getfield 76, 3) := by decide +kernel
theorem dX8_status_4 : decode cX8_status 4 = .ok (.ireturn, 1) := by decide +kernel
def f_HG_status (σ : St) : Option (Int32 × St) :=
  some (rF σ 1, σ)
set_option maxRecDepth 4000 in
theorem ok_HG_status {w : wT} (hi : wInj w) {l : Launch} {σ σ' : St} {r : Int32} (h : f_HG_status σ = some (r, σ')) : gM w l yX8_status cX8_status 1 (some .int) 1 [.ref (w.1 0)] σ (some (.int r)) σ' := by
  unfold f_HG_status at h
  refine gM_of hi (by decide) [some (.ref (w.1 0))] rfl (Nat.le_of_ble_eq_true rfl) (fun E hl X Y => ?_)
  refine g_aload_n X dX8_status_0 rfl rfl ?_
  refine gf_RX8_76 X dX8_status_1 rfl ?_
  obtain ⟨rfl, rfl⟩ := rt_e h
  exact g_iret X Y dX8_status_4

theorem dX9_in_0 : decode cX9_in 0 = .ok (.lload_n 0, 1) := by decide +kernel
theorem dX9_in_1 : decode cX9_in 1 = .ok (.lload_n 2, 1) := by decide +kernel
theorem dX9_in_2 : decode cX9_in 2 = .ok (.lcmp, 1) := by decide +kernel
theorem dX9_in_3 : decode cX9_in 3 = .ok (.ifCond .lt 14, 3) := by decide +kernel
theorem dX9_in_6 : decode cX9_in 6 = .ok (.lload_n 0, 1) := by decide +kernel
theorem dX9_in_7 : decode cX9_in 7 = .ok (.lload 4, 2) := by decide +kernel
theorem dX9_in_9 : decode cX9_in 9 = .ok (.lcmp, 1) := by decide +kernel
theorem dX9_in_10 : decode cX9_in 10 = .ok (.ifCond .gt 7, 3) := by decide +kernel
theorem dX9_in_13 : decode cX9_in 13 = .ok (.iconst 1, 1) := by decide +kernel
theorem dX9_in_14 : decode cX9_in 14 = .ok (.goto 4, 3) := by decide +kernel
theorem dX9_in_17 : decode cX9_in 17 = .ok (.iconst 0, 1) := by decide +kernel
theorem dX9_in_18 : decode cX9_in 18 = .ok (.ireturn, 1) := by decide +kernel
def f_HM_in (x0 : Int64) (x2 : Int64) (x4 : Int64) (σ : St) : Option (Int32 × St) :=
  if x0 < x2 then (some (0, σ)) else (if x4 < x0 then (some (0, σ)) else (some (1, σ)))
set_option maxRecDepth 4000 in
theorem ok_HM_in {w : wT} (hi : wInj w) {l : Launch} {x0 : Int64} {x2 : Int64} {x4 : Int64} {σ σ' : St} {r : Int32} (h : f_HM_in x0 x2 x4 σ = some (r, σ')) : gM w l yX9_in cX9_in 6 (some .boolean) 1 [.long x0, .long x2, .long x4] σ (some (.int r)) σ' := by
  unfold f_HM_in at h
  refine gM_of hi (by decide) [some (.long x0), none, some (.long x2), none, some (.long x4), none] rfl (Nat.le_of_ble_eq_true rfl) (fun E hl X Y => ?_)
  refine g_lload_n X dX9_in_0 rfl rfl ?_
  refine g_lload_n X dX9_in_1 rfl rfl ?_
  refine g_lcmp_lt X dX9_in_2 rfl dX9_in_3 (tgt := 17) rfl rfl (fun c1 => ?_) (fun c1 => ?_)
  · replace h := if_t c1 h
    refine g_iconst X kI_0 dX9_in_17 rfl ?_
    obtain ⟨rfl, rfl⟩ := rt_e h
    exact g_zret X Y rfl dX9_in_18
  · replace h := if_f c1 h
    refine g_lload_n X dX9_in_6 rfl rfl ?_
    refine g_lload X dX9_in_7 rfl rfl ?_
    refine g_lcmp_gt X dX9_in_9 rfl dX9_in_10 (tgt := 17) rfl rfl (fun c2 => ?_) (fun c2 => ?_)
    · replace h := if_t c2 h
      refine g_iconst X kI_0 dX9_in_17 rfl ?_
      obtain ⟨rfl, rfl⟩ := rt_e h
      exact g_zret X Y rfl dX9_in_18
    · replace h := if_f c2 h
      refine g_iconst X kI_1 dX9_in_13 rfl ?_
      refine g_goto X dX9_in_14 (tgt := 18) rfl ?_
      obtain ⟨rfl, rfl⟩ := rt_e h
      exact g_zret X Y rfl dX9_in_18

theorem dX9_isRow_0 : decode cX9_isRow 0 = .ok (.iload_n 0, 1) := by decide +kernel
theorem dX9_isRow_1 : decode cX9_isRow 1 = .ok (.i2l, 1) := by decide +kernel
theorem dX9_isRow_2 : decode cX9_isRow 2 = .ok (.lconst 0, 1) := by decide +kernel
theorem dX9_isRow_3 : decode cX9_isRow 3 = .ok (.ldc2_w 89, 3) := by decide +kernel
theorem dX9_isRow_6 : decode cX9_isRow 6 = .ok (.invokestatic 91, 3) := by decide +kernel
theorem dX9_isRow_9 : decode cX9_isRow 9 = .ok (.ireturn, 1) := by decide +kernel
def f_HM_isRow (x0 : Int32) (σ : St) : Option (Int32 × St) :=
  bd (f_HM_in x0.toInt64 0 7 σ) fun r3 σ2 => ck (isB r3) <| some (r3, σ2)
set_option maxRecDepth 4000 in
theorem ok_HM_isRow {w : wT} (hi : wInj w) {l : Launch} {x0 : Int32} {σ σ' : St} {r : Int32} (h : f_HM_isRow x0 σ = some (r, σ')) : gM w l yX9_isRow cX9_isRow 1 (some .boolean) 2 [.int x0] σ (some (.int r)) σ' := by
  unfold f_HM_isRow at h
  refine gM_of hi (by decide) [some (.int x0)] rfl (Nat.le_of_ble_eq_true rfl) (fun E hl X Y => ?_)
  refine g_iload_n X dX9_isRow_0 rfl rfl ?_
  refine g_i2l X dX9_isRow_1 rfl ?_
  refine g_lconst X kL_0 dX9_isRow_2 rfl ?_
  refine g_ldc2 X dX9_isRow_3 kc_RX9_89 rfl ?_
  obtain ⟨r3, σ2, h1, h⟩ := bd_e h
  refine g_callSI X [.long x0.toInt64, .long 0, .long 7] (ok_HM_in X.inj h1) my_yX9_in mt_yX9_in ml_RX9_91 (by decide) rfl dX9_isRow_6 (Nat.le_of_ble_eq_true rfl) rfl rfl ?_
  obtain ⟨c4, h⟩ := ck_e h
  obtain ⟨rfl, rfl⟩ := rt_e h
  exact g_zret X Y (isB_e c4) dX9_isRow_9

theorem dX9_found_0 : decode cX9_found 0 = .ok (.aload_n 0, 1) := by decide +kernel
theorem dX9_found_1 : decode cX9_found 1 = .ok (.iload_n 1, 1) := by decide +kernel
theorem dX9_found_2 : decode cX9_found 2 = .ok (.putfield 95, 3) := by decide +kernel
theorem dX9_found_5 : decode cX9_found 5 = .ok (.ldc2_w 99, 3) := by decide +kernel
theorem dX9_found_8 : decode cX9_found 8 = .ok (.iload_n 1, 1) := by decide +kernel
theorem dX9_found_9 : decode cX9_found 9 = .ok (.i2l, 1) := by decide +kernel
theorem dX9_found_10 : decode cX9_found 10 = .ok (.lsub, 1) := by decide +kernel
theorem dX9_found_11 : decode cX9_found 11 = .ok (.lreturn, 1) := by decide +kernel
def f_HM_found (x1 : Int32) (σ : St) : Option (Int64 × St) :=
  lE (stF σ 40 x1) fun σ1 => some (((-9000000000000000010)) - x1.toInt64, σ1)
set_option maxRecDepth 4000 in
theorem ok_HM_found {w : wT} (hi : wInj w) {l : Launch} {x1 : Int32} {σ σ' : St} {r : Int64} (h : f_HM_found x1 σ = some (r, σ')) : gM w l yX9_found cX9_found 2 (some .long) 1 [.ref (w.1 9), .int x1] σ (some (.long r)) σ' := by
  unfold f_HM_found at h
  refine gM_of hi (by decide) [some (.ref (w.1 9)), some (.int x1)] rfl (Nat.le_of_ble_eq_true rfl) (fun E hl X Y => ?_)
  refine g_aload_n X dX9_found_0 rfl rfl ?_
  refine g_iload_n X dX9_found_1 rfl rfl ?_
  refine gp_RX9_95 X dX9_found_2 rfl (fun σ1 e2 => ?_)
  replace h := lE_c e2 h
  refine g_ldc2 X dX9_found_5 kc_RX9_99 rfl ?_
  refine g_iload_n X dX9_found_8 rfl rfl ?_
  refine g_i2l X dX9_found_9 rfl ?_
  refine g_lsub X dX9_found_10 rfl ?_
  obtain ⟨rfl, rfl⟩ := rt_e h
  exact g_lret X Y dX9_found_11

theorem dX9_taken_0 : decode cX9_taken 0 = .ok (.aload_n 0, 1) := by decide +kernel
theorem dX9_taken_1 : decode cX9_taken 1 = .ok (.iconst 0, 1) := by decide +kernel
theorem dX9_taken_2 : decode cX9_taken 2 = .ok (.putfield 95, 3) := by decide +kernel
theorem dX9_taken_5 : decode cX9_taken 5 = .ok (.lload_n 1, 1) := by decide +kernel
theorem dX9_taken_6 : decode cX9_taken 6 = .ok (.lreturn, 1) := by decide +kernel
def f_HM_taken (x1 : Int64) (σ : St) : Option (Int64 × St) :=
  lE (stF σ 40 0) fun σ1 => some (x1, σ1)
set_option maxRecDepth 4000 in
theorem ok_HM_taken {w : wT} (hi : wInj w) {l : Launch} {x1 : Int64} {σ σ' : St} {r : Int64} (h : f_HM_taken x1 σ = some (r, σ')) : gM w l yX9_taken cX9_taken 3 (some .long) 1 [.ref (w.1 9), .long x1] σ (some (.long r)) σ' := by
  unfold f_HM_taken at h
  refine gM_of hi (by decide) [some (.ref (w.1 9)), some (.long x1), none] rfl (Nat.le_of_ble_eq_true rfl) (fun E hl X Y => ?_)
  refine g_aload_n X dX9_taken_0 rfl rfl ?_
  refine g_iconst X kI_0 dX9_taken_1 rfl ?_
  refine gp_RX9_95 X dX9_taken_2 rfl (fun σ1 e2 => ?_)
  replace h := lE_c e2 h
  refine g_lload_n X dX9_taken_5 rfl rfl ?_
  obtain ⟨rfl, rfl⟩ := rt_e h
  exact g_lret X Y dX9_taken_6

theorem dX9_row_0 : decode cX9_row 0 = .ok (.iload_n 1, 1) := by decide +kernel
theorem dX9_row_1 : decode cX9_row 1 = .ok (.invokestatic 101, 3) := by decide +kernel
theorem dX9_row_4 : decode cX9_row 4 = .ok (.ifCond .eq 21, 3) := by decide +kernel
theorem dX9_row_7 : decode cX9_row 7 = .ok (.iload_n 2, 1) := by decide +kernel
theorem dX9_row_8 : decode cX9_row 8 = .ok (.i2l, 1) := by decide +kernel
theorem dX9_row_9 : decode cX9_row 9 = .ok (.lconst 0, 1) := by decide +kernel
theorem dX9_row_10 : decode cX9_row 10 = .ok (.ldc2_w 105, 3) := by decide +kernel
theorem dX9_row_13 : decode cX9_row 13 = .ok (.invokestatic 91, 3) := by decide +kernel
theorem dX9_row_16 : decode cX9_row 16 = .ok (.ifCond .eq 9, 3) := by decide +kernel
theorem dX9_row_19 : decode cX9_row 19 = .ok (.iload_n 3, 1) := by decide +kernel
theorem dX9_row_20 : decode cX9_row 20 = .ok (.bipush 40, 2) := by decide +kernel
theorem dX9_row_22 : decode cX9_row 22 = .ok (.if_icmp .le 7, 3) := by decide +kernel
theorem dX9_row_25 : decode cX9_row 25 = .ok (.ldc2_w 107, 3) := by decide +kernel
theorem dX9_row_28 : decode cX9_row 28 = .ok (.lreturn, 1) := by decide +kernel
theorem dX9_row_29 : decode cX9_row 29 = .ok (.iload_n 3, 1) := by decide +kernel
theorem dX9_row_30 : decode cX9_row 30 = .ok (.ifCond .ge 9, 3) := by decide +kernel
theorem dX9_row_33 : decode cX9_row 33 = .ok (.aload_n 0, 1) := by decide +kernel
theorem dX9_row_34 : decode cX9_row 34 = .ok (.iconst 4, 1) := by decide +kernel
theorem dX9_row_35 : decode cX9_row 35 = .ok (.invokevirtual 109, 3) := by decide +kernel
theorem dX9_row_38 : decode cX9_row 38 = .ok (.lreturn, 1) := by decide +kernel
theorem dX9_row_39 : decode cX9_row 39 = .ok (.aload_n 0, 1) := by decide +kernel
theorem dX9_row_40 : decode cX9_row 40 = .ok (.getfield 7, 3) := by decide +kernel
theorem dX9_row_43 : decode cX9_row 43 = .ok (.iload_n 1, 1) := by decide +kernel
theorem dX9_row_44 : decode cX9_row 44 = .ok (.iload_n 2, 1) := by decide +kernel
theorem dX9_row_45 : decode cX9_row 45 = .ok (.iastore, 1) := by decide +kernel
theorem dX9_row_46 : decode cX9_row 46 = .ok (.aload_n 0, 1) := by decide +kernel
theorem dX9_row_47 : decode cX9_row 47 = .ok (.getfield 13, 3) := by decide +kernel
theorem dX9_row_50 : decode cX9_row 50 = .ok (.iload_n 1, 1) := by decide +kernel
theorem dX9_row_51 : decode cX9_row 51 = .ok (.iload_n 3, 1) := by decide +kernel
theorem dX9_row_52 : decode cX9_row 52 = .ok (.iastore, 1) := by decide +kernel
theorem dX9_row_53 : decode cX9_row 53 = .ok (.iconst 0, 1) := by decide +kernel
theorem dX9_row_54 : decode cX9_row 54 = .ok (.istore 4, 2) := by decide +kernel
theorem dX9_row_56 : decode cX9_row 56 = .ok (.iload 4, 2) := by decide +kernel
theorem dX9_row_58 : decode cX9_row 58 = .ok (.iload_n 3, 1) := by decide +kernel
theorem dX9_row_59 : decode cX9_row 59 = .ok (.if_icmp .ge 22, 3) := by decide +kernel
theorem dX9_row_62 : decode cX9_row 62 = .ok (.aload_n 0, 1) := by decide +kernel
theorem dX9_row_63 : decode cX9_row 63 = .ok (.getfield 16, 3) := by decide +kernel
theorem dX9_row_66 : decode cX9_row 66 = .ok (.bipush 40, 2) := by decide +kernel
theorem dX9_row_68 : decode cX9_row 68 = .ok (.iload_n 1, 1) := by decide +kernel
theorem dX9_row_69 : decode cX9_row 69 = .ok (.imul, 1) := by decide +kernel
theorem dX9_row_70 : decode cX9_row 70 = .ok (.iload 4, 2) := by decide +kernel
theorem dX9_row_72 : decode cX9_row 72 = .ok (.iadd, 1) := by decide +kernel
theorem dX9_row_73 : decode cX9_row 73 = .ok (.iconst 0, 1) := by decide +kernel
theorem dX9_row_74 : decode cX9_row 74 = .ok (.iastore, 1) := by decide +kernel
theorem dX9_row_75 : decode cX9_row 75 = .ok (.iinc 4 1, 3) := by decide +kernel
theorem dX9_row_78 : decode cX9_row 78 = .ok (.goto (-22), 3) := by decide +kernel
theorem dX9_row_81 : decode cX9_row 81 = .ok (.aload_n 0, 1) := by decide +kernel
theorem dX9_row_82 : decode cX9_row 82 = .ok (.iload_n 3, 1) := by decide +kernel
theorem dX9_row_83 : decode cX9_row 83 = .ok (.i2l, 1) := by decide +kernel
theorem dX9_row_84 : decode cX9_row 84 = .ok (.invokevirtual 113, 3) := by decide +kernel
theorem dX9_row_87 : decode cX9_row 87 = .ok (.lreturn, 1) := by decide +kernel
def f_HM_row_b56 (k56 : Int32 → Int32 → Int32 → St → Option (Int64 × St)) (x1 : Int32) (x3 : Int32) (x4 : Int32) (σ : St) : Option (Int64 × St) :=
  if x3 ≤ x4 then (bd (f_HM_taken x3.toInt64 σ) fun r4 σ3 => some (r4, σ3)) else (ck (ib ((40 * x1) + x4) 320) <| lE (stA σ 65 ((40 * x1) + x4).toNatClampNeg 0) fun σ6 => k56 x1 x3 (x4 + 1) σ6)
set_option maxRecDepth 4000 in
theorem ok_HM_row_b56 {E : gE} {w : wT} {σ' : St} {r : Int64} (X : gC E w cX9_row 5 RX9 3) (Y : gQ E w (some .long) (some (.long r)) σ') {k56 : Int32 → Int32 → Int32 → St → Option (Int64 × St)} (hk56 : ∀ (x1 : Int32) (x3 : Int32) (x4 : Int32) (σ : St), k56 x1 x3 x4 σ = some (r, σ') → gW E w 5 σ 56 [some (.ref (w.1 9)), some (.int x1), none, some (.int x3), some (.int x4)] []) {x1 : Int32} {x3 : Int32} {x4 : Int32} (σ : St) (h : f_HM_row_b56 k56 x1 x3 x4 σ = some (r, σ')) : gW E w 5 σ 56 [some (.ref (w.1 9)), some (.int x1), none, some (.int x3), some (.int x4)] [] := by
  unfold f_HM_row_b56 at h
  refine g_iload X dX9_row_56 rfl rfl ?_
  refine g_iload_n X dX9_row_58 rfl rfl ?_
  refine g_icmp_ge X dX9_row_59 (tgt := 81) rfl rfl (fun c1 => ?_) (fun c1 => ?_)
  · replace h := if_t c1 h
    refine g_aload_n X dX9_row_81 rfl rfl ?_
    refine g_iload_n X dX9_row_82 rfl rfl ?_
    refine g_i2l X dX9_row_83 rfl ?_
    obtain ⟨r4, σ3, h2, h⟩ := bd_e h
    refine g_callVJ X [.long x3.toInt64] (ok_HM_taken X.inj h2) my_yX9_taken mi_yX9_taken ms_yX9_taken ml_RX9_113 (by decide) rfl rfl (by decide) rfl dX9_row_84 (Nat.le_of_ble_eq_true rfl) rfl rfl ?_
    obtain ⟨rfl, rfl⟩ := rt_e h
    exact g_lret X Y dX9_row_87
  · replace h := if_f c1 h
    refine g_aload_n X dX9_row_62 rfl rfl ?_
    refine gf_RX9_16 X dX9_row_63 rfl ?_
    refine g_bipush X kB_40 dX9_row_66 rfl ?_
    refine g_iload_n X dX9_row_68 rfl rfl ?_
    refine g_imul X dX9_row_69 rfl ?_
    refine g_iload X dX9_row_70 rfl rfl ?_
    refine g_iadd X dX9_row_72 rfl ?_
    refine g_iconst X kI_0 dX9_row_73 rfl ?_
    obtain ⟨c5, h⟩ := ck_e h
    refine g_iast X ar_65.1 ar_65.2.1 ar_65.2.2 (ib_e c5) dX9_row_74 rfl (fun σ6 e7 => ?_)
    replace h := lE_c e7 h
    refine g_iinc X [some (.ref (w.1 9)), some (.int x1), none, some (.int x3), some (.int (x4 + 1))] dX9_row_75 rfl (ii_1 x4) (Nat.le_of_ble_eq_true rfl) rfl rfl rfl ?_
    refine g_goto X dX9_row_78 (tgt := 56) rfl ?_
    exact hk56 x1 x3 (x4 + 1) σ6 h
def f_HM_row_l56 : Int32 → Int32 → Int32 → St → Option (Int64 × St) := lp (fun _ _ _ _ => none) (f_HM_row_b56) FU
theorem ok_HM_row_l56 {E : gE} {w : wT} {σ' : St} {r : Int64} (X : gC E w cX9_row 5 RX9 3) (Y : gQ E w (some .long) (some (.long r)) σ') {x1 : Int32} {x3 : Int32} {x4 : Int32} (σ : St) (h : f_HM_row_l56 x1 x3 x4 σ = some (r, σ')) : gW E w 5 σ 56 [some (.ref (w.1 9)), some (.int x1), none, some (.int x3), some (.int x4)] [] :=
  lp_ind (P := fun (k : Int32 → Int32 → Int32 → St → Option (Int64 × St)) => ∀ (x1 : Int32) (x3 : Int32) (x4 : Int32) (σ : St), k x1 x3 x4 σ = some (r, σ') → gW E w 5 σ 56 [some (.ref (w.1 9)), some (.int x1), none, some (.int x3), some (.int x4)] []) (fun _ _ _ _ hh => nn hh) (fun k hk x1 x3 x4 σ  hh => ok_HM_row_b56 X Y hk σ hh) FU x1 x3 x4 σ  h

def f_HM_row (x1 : Int32) (x2 : Int32) (x3 : Int32) (σ : St) : Option (Int64 × St) :=
  bd (f_HM_isRow x1 σ) fun r3 σ2 => if r3 = 0 then (some ((-9000000000000000001), σ2)) else (bd (f_HM_in x2.toInt64 0 2 σ2) fun r7 σ6 => if r7 = 0 then (some ((-9000000000000000001), σ6)) else (if x3 ≤ 40 then (if 0 ≤ x3 then (ck (ib x1 8) <| lE (stA σ6 63 x1.toNatClampNeg x2) fun σ12 => ck (ib x1 8) <| lE (stA σ12 64 x1.toNatClampNeg x3) fun σ15 => f_HM_row_l56 x1 x3 0 σ15) else (bd (f_HM_found 4 σ6) fun r19 σ18 => some (r19, σ18))) else (some ((-9000000000000000001), σ6))))
set_option maxRecDepth 4000 in
theorem ok_HM_row {w : wT} (hi : wInj w) {l : Launch} {x1 : Int32} {x2 : Int32} {x3 : Int32} {σ σ' : St} {r : Int64} (h : f_HM_row x1 x2 x3 σ = some (r, σ')) : gM w l yX9_row cX9_row 5 (some .long) 3 [.ref (w.1 9), .int x1, .int x2, .int x3] σ (some (.long r)) σ' := by
  unfold f_HM_row at h
  refine gM_of hi (by decide) [some (.ref (w.1 9)), some (.int x1), some (.int x2), some (.int x3)] rfl (Nat.le_of_ble_eq_true rfl) (fun E hl X Y => ?_)
  refine g_iload_n X dX9_row_0 rfl rfl ?_
  obtain ⟨r3, σ2, h1, h⟩ := bd_e h
  refine g_callSI X [.int x1] (ok_HM_isRow X.inj h1) my_yX9_isRow mt_yX9_isRow ml_RX9_101 (by decide) rfl dX9_row_1 (Nat.le_of_ble_eq_true rfl) rfl rfl ?_
  refine g_if_eq X dX9_row_4 (tgt := 25) rfl rfl (fun c4 => ?_) (fun c4 => ?_)
  · replace h := if_t c4 h
    refine g_ldc2 X dX9_row_25 kc_RX9_107 rfl ?_
    obtain ⟨rfl, rfl⟩ := rt_e h
    exact g_lret X Y dX9_row_28
  · replace h := if_f c4 h
    refine g_iload_n X dX9_row_7 rfl rfl ?_
    refine g_i2l X dX9_row_8 rfl ?_
    refine g_lconst X kL_0 dX9_row_9 rfl ?_
    refine g_ldc2 X dX9_row_10 kc_RX9_105 rfl ?_
    obtain ⟨r7, σ6, h5, h⟩ := bd_e h
    refine g_callSI X [.long x2.toInt64, .long 0, .long 2] (ok_HM_in X.inj h5) my_yX9_in mt_yX9_in ml_RX9_91 (by decide) rfl dX9_row_13 (Nat.le_of_ble_eq_true rfl) rfl rfl ?_
    refine g_if_eq X dX9_row_16 (tgt := 25) rfl rfl (fun c8 => ?_) (fun c8 => ?_)
    · replace h := if_t c8 h
      refine g_ldc2 X dX9_row_25 kc_RX9_107 rfl ?_
      obtain ⟨rfl, rfl⟩ := rt_e h
      exact g_lret X Y dX9_row_28
    · replace h := if_f c8 h
      refine g_iload_n X dX9_row_19 rfl rfl ?_
      refine g_bipush X kB_40 dX9_row_20 rfl ?_
      refine g_icmp_le X dX9_row_22 (tgt := 29) rfl rfl (fun c9 => ?_) (fun c9 => ?_)
      · replace h := if_t c9 h
        refine g_iload_n X dX9_row_29 rfl rfl ?_
        refine g_if_ge X dX9_row_30 (tgt := 39) rfl rfl (fun c10 => ?_) (fun c10 => ?_)
        · replace h := if_t c10 h
          refine g_aload_n X dX9_row_39 rfl rfl ?_
          refine gf_RX9_7 X dX9_row_40 rfl ?_
          refine g_iload_n X dX9_row_43 rfl rfl ?_
          refine g_iload_n X dX9_row_44 rfl rfl ?_
          obtain ⟨c11, h⟩ := ck_e h
          refine g_iast X ar_63.1 ar_63.2.1 ar_63.2.2 (ib_e c11) dX9_row_45 rfl (fun σ12 e13 => ?_)
          replace h := lE_c e13 h
          refine g_aload_n X dX9_row_46 rfl rfl ?_
          refine gf_RX9_13 X dX9_row_47 rfl ?_
          refine g_iload_n X dX9_row_50 rfl rfl ?_
          refine g_iload_n X dX9_row_51 rfl rfl ?_
          obtain ⟨c14, h⟩ := ck_e h
          refine g_iast X ar_64.1 ar_64.2.1 ar_64.2.2 (ib_e c14) dX9_row_52 rfl (fun σ15 e16 => ?_)
          replace h := lE_c e16 h
          refine g_iconst X kI_0 dX9_row_53 rfl ?_
          refine g_istore X [some (.ref (w.1 9)), some (.int x1), some (.int x2), some (.int x3), some (.int 0)] dX9_row_54 (Nat.le_of_ble_eq_true rfl) rfl rfl rfl ?_
          exact g_le (lle_s (lle_s (lle_k (lle_s (lle_s (lle_0)))))) (ok_HM_row_l56 X Y σ15 h)
        · replace h := if_f c10 h
          refine g_aload_n X dX9_row_33 rfl rfl ?_
          refine g_iconst X kI_4 dX9_row_34 rfl ?_
          obtain ⟨r19, σ18, h17, h⟩ := bd_e h
          refine g_callVJ X [.int 4] (ok_HM_found X.inj h17) my_yX9_found mi_yX9_found ms_yX9_found ml_RX9_109 (by decide) rfl rfl (by decide) rfl dX9_row_35 (Nat.le_of_ble_eq_true rfl) rfl rfl ?_
          obtain ⟨rfl, rfl⟩ := rt_e h
          exact g_lret X Y dX9_row_38
      · replace h := if_f c9 h
        refine g_ldc2 X dX9_row_25 kc_RX9_107 rfl ?_
        obtain ⟨rfl, rfl⟩ := rt_e h
        exact g_lret X Y dX9_row_28

theorem dX9_set_0 : decode cX9_set 0 = .ok (.iload_n 1, 1) := by decide +kernel
theorem dX9_set_1 : decode cX9_set 1 = .ok (.invokestatic 101, 3) := by decide +kernel
theorem dX9_set_4 : decode cX9_set 4 = .ok (.ifCond .ne 7, 3) := by decide +kernel
theorem dX9_set_7 : decode cX9_set 7 = .ok (.ldc2_w 107, 3) := by decide +kernel
theorem dX9_set_10 : decode cX9_set 10 = .ok (.lreturn, 1) := by decide +kernel
theorem dX9_set_11 : decode cX9_set 11 = .ok (.aload_n 0, 1) := by decide +kernel
theorem dX9_set_12 : decode cX9_set 12 = .ok (.getfield 7, 3) := by decide +kernel
theorem dX9_set_15 : decode cX9_set 15 = .ok (.iload_n 1, 1) := by decide +kernel
theorem dX9_set_16 : decode cX9_set 16 = .ok (.iaload, 1) := by decide +kernel
theorem dX9_set_17 : decode cX9_set 17 = .ok (.ifCond .ge 9, 3) := by decide +kernel
theorem dX9_set_20 : decode cX9_set 20 = .ok (.aload_n 0, 1) := by decide +kernel
theorem dX9_set_21 : decode cX9_set 21 = .ok (.iconst 1, 1) := by decide +kernel
theorem dX9_set_22 : decode cX9_set 22 = .ok (.invokevirtual 109, 3) := by decide +kernel
theorem dX9_set_25 : decode cX9_set 25 = .ok (.lreturn, 1) := by decide +kernel
theorem dX9_set_26 : decode cX9_set 26 = .ok (.iload_n 2, 1) := by decide +kernel
theorem dX9_set_27 : decode cX9_set 27 = .ok (.i2l, 1) := by decide +kernel
theorem dX9_set_28 : decode cX9_set 28 = .ok (.lconst 0, 1) := by decide +kernel
theorem dX9_set_29 : decode cX9_set 29 = .ok (.aload_n 0, 1) := by decide +kernel
theorem dX9_set_30 : decode cX9_set 30 = .ok (.getfield 13, 3) := by decide +kernel
theorem dX9_set_33 : decode cX9_set 33 = .ok (.iload_n 1, 1) := by decide +kernel
theorem dX9_set_34 : decode cX9_set 34 = .ok (.iaload, 1) := by decide +kernel
theorem dX9_set_35 : decode cX9_set 35 = .ok (.iconst 1, 1) := by decide +kernel
theorem dX9_set_36 : decode cX9_set 36 = .ok (.isub, 1) := by decide +kernel
theorem dX9_set_37 : decode cX9_set 37 = .ok (.i2l, 1) := by decide +kernel
theorem dX9_set_38 : decode cX9_set 38 = .ok (.invokestatic 91, 3) := by decide +kernel
theorem dX9_set_41 : decode cX9_set 41 = .ok (.ifCond .ne 9, 3) := by decide +kernel
theorem dX9_set_44 : decode cX9_set 44 = .ok (.aload_n 0, 1) := by decide +kernel
theorem dX9_set_45 : decode cX9_set 45 = .ok (.iconst 2, 1) := by decide +kernel
theorem dX9_set_46 : decode cX9_set 46 = .ok (.invokevirtual 109, 3) := by decide +kernel
theorem dX9_set_49 : decode cX9_set 49 = .ok (.lreturn, 1) := by decide +kernel
theorem dX9_set_50 : decode cX9_set 50 = .ok (.aload_n 0, 1) := by decide +kernel
theorem dX9_set_51 : decode cX9_set 51 = .ok (.getfield 16, 3) := by decide +kernel
theorem dX9_set_54 : decode cX9_set 54 = .ok (.bipush 40, 2) := by decide +kernel
theorem dX9_set_56 : decode cX9_set 56 = .ok (.iload_n 1, 1) := by decide +kernel
theorem dX9_set_57 : decode cX9_set 57 = .ok (.imul, 1) := by decide +kernel
theorem dX9_set_58 : decode cX9_set 58 = .ok (.iload_n 2, 1) := by decide +kernel
theorem dX9_set_59 : decode cX9_set 59 = .ok (.iadd, 1) := by decide +kernel
theorem dX9_set_60 : decode cX9_set 60 = .ok (.aload_n 0, 1) := by decide +kernel
theorem dX9_set_61 : decode cX9_set 61 = .ok (.getfield 7, 3) := by decide +kernel
theorem dX9_set_64 : decode cX9_set 64 = .ok (.iload_n 1, 1) := by decide +kernel
theorem dX9_set_65 : decode cX9_set 65 = .ok (.iaload, 1) := by decide +kernel
theorem dX9_set_66 : decode cX9_set 66 = .ok (.ifCond .ne 8, 3) := by decide +kernel
theorem dX9_set_69 : decode cX9_set 69 = .ok (.iload_n 3, 1) := by decide +kernel
theorem dX9_set_70 : decode cX9_set 70 = .ok (.i2b, 1) := by decide +kernel
theorem dX9_set_71 : decode cX9_set 71 = .ok (.goto 19, 3) := by decide +kernel
theorem dX9_set_74 : decode cX9_set 74 = .ok (.aload_n 0, 1) := by decide +kernel
theorem dX9_set_75 : decode cX9_set 75 = .ok (.getfield 7, 3) := by decide +kernel
theorem dX9_set_78 : decode cX9_set 78 = .ok (.iload_n 1, 1) := by decide +kernel
theorem dX9_set_79 : decode cX9_set 79 = .ok (.iaload, 1) := by decide +kernel
theorem dX9_set_80 : decode cX9_set 80 = .ok (.iconst 1, 1) := by decide +kernel
theorem dX9_set_81 : decode cX9_set 81 = .ok (.if_icmp .ne 8, 3) := by decide +kernel
theorem dX9_set_84 : decode cX9_set 84 = .ok (.iload_n 3, 1) := by decide +kernel
theorem dX9_set_85 : decode cX9_set 85 = .ok (.i2s, 1) := by decide +kernel
theorem dX9_set_86 : decode cX9_set 86 = .ok (.goto 4, 3) := by decide +kernel
theorem dX9_set_89 : decode cX9_set 89 = .ok (.iload_n 3, 1) := by decide +kernel
theorem dX9_set_90 : decode cX9_set 90 = .ok (.iastore, 1) := by decide +kernel
theorem dX9_set_91 : decode cX9_set 91 = .ok (.aload_n 0, 1) := by decide +kernel
theorem dX9_set_92 : decode cX9_set 92 = .ok (.aload_n 0, 1) := by decide +kernel
theorem dX9_set_93 : decode cX9_set 93 = .ok (.getfield 16, 3) := by decide +kernel
theorem dX9_set_96 : decode cX9_set 96 = .ok (.bipush 40, 2) := by decide +kernel
theorem dX9_set_98 : decode cX9_set 98 = .ok (.iload_n 1, 1) := by decide +kernel
theorem dX9_set_99 : decode cX9_set 99 = .ok (.imul, 1) := by decide +kernel
theorem dX9_set_100 : decode cX9_set 100 = .ok (.iload_n 2, 1) := by decide +kernel
theorem dX9_set_101 : decode cX9_set 101 = .ok (.iadd, 1) := by decide +kernel
theorem dX9_set_102 : decode cX9_set 102 = .ok (.iaload, 1) := by decide +kernel
theorem dX9_set_103 : decode cX9_set 103 = .ok (.i2l, 1) := by decide +kernel
theorem dX9_set_104 : decode cX9_set 104 = .ok (.invokevirtual 113, 3) := by decide +kernel
theorem dX9_set_107 : decode cX9_set 107 = .ok (.lreturn, 1) := by decide +kernel
def f_HM_set_b90 (x1 : Int32) (x2 : Int32) (xs1 : Int32) (xs2 : Int32) (σ : St) : Option (Int64 × St) :=
  ck (ib xs1 320) <| lE (stA σ 65 xs1.toNatClampNeg xs2) fun σ2 => ck (ib ((40 * x1) + x2) 320) <| bd (f_HM_taken ((rI σ2 65 ((40 * x1) + x2)).toInt64) σ2) fun r7 σ6 => some (r7, σ6)
set_option maxRecDepth 4000 in
theorem ok_HM_set_b90 {E : gE} {w : wT} {σ' : St} {r : Int64} (X : gC E w cX9_set 4 RX9 3) (Y : gQ E w (some .long) (some (.long r)) σ') {x1 : Int32} {x2 : Int32} {xs1 : Int32} {xs2 : Int32} (σ : St) (h : f_HM_set_b90 x1 x2 xs1 xs2 σ = some (r, σ')) : gW E w 4 σ 90 [some (.ref (w.1 9)), some (.int x1), some (.int x2)] [.int xs2, .int xs1, .ref (w.1 65)] := by
  unfold f_HM_set_b90 at h
  obtain ⟨c1, h⟩ := ck_e h
  refine g_iast X ar_65.1 ar_65.2.1 ar_65.2.2 (ib_e c1) dX9_set_90 rfl (fun σ2 e3 => ?_)
  replace h := lE_c e3 h
  refine g_aload_n X dX9_set_91 rfl rfl ?_
  refine g_aload_n X dX9_set_92 rfl rfl ?_
  refine gf_RX9_16 X dX9_set_93 rfl ?_
  refine g_bipush X kB_40 dX9_set_96 rfl ?_
  refine g_iload_n X dX9_set_98 rfl rfl ?_
  refine g_imul X dX9_set_99 rfl ?_
  refine g_iload_n X dX9_set_100 rfl rfl ?_
  refine g_iadd X dX9_set_101 rfl ?_
  obtain ⟨c4, h⟩ := ck_e h
  refine g_iald X ar_65.1 ar_65.2.1 ar_65.2.2 (ib_e c4) dX9_set_102 rfl ?_
  refine g_i2l X dX9_set_103 rfl ?_
  obtain ⟨r7, σ6, h5, h⟩ := bd_e h
  refine g_callVJ X [.long ((rI σ2 65 ((40 * x1) + x2)).toInt64)] (ok_HM_taken X.inj h5) my_yX9_taken mi_yX9_taken ms_yX9_taken ml_RX9_113 (by decide) rfl rfl (by decide) rfl dX9_set_104 (Nat.le_of_ble_eq_true rfl) rfl rfl ?_
  obtain ⟨rfl, rfl⟩ := rt_e h
  exact g_lret X Y dX9_set_107

def f_HM_set (x1 : Int32) (x2 : Int32) (x3 : Int32) (σ : St) : Option (Int64 × St) :=
  bd (f_HM_isRow x1 σ) fun r3 σ2 => if r3 = 0 then (some ((-9000000000000000001), σ2)) else (ck (ib x1 8) <| if 0 ≤ (rI σ2 63 x1) then (ck (ib x1 8) <| bd (f_HM_in x2.toInt64 0 (((rI σ2 64 x1) - 1).toInt64) σ2) fun r10 σ9 => if r10 = 0 then (bd (f_HM_found 2 σ9) fun r18 σ17 => some (r18, σ17)) else (ck (ib x1 8) <| if (rI σ9 63 x1) = 0 then (f_HM_set_b90 x1 x2 ((40 * x1) + x2) x3.toInt8.toInt32 σ9) else (ck (ib x1 8) <| if (rI σ9 63 x1) = 1 then (f_HM_set_b90 x1 x2 ((40 * x1) + x2) x3.toInt16.toInt32 σ9) else (f_HM_set_b90 x1 x2 ((40 * x1) + x2) x3 σ9)))) else (bd (f_HM_found 1 σ2) fun r21 σ20 => some (r21, σ20)))
set_option maxRecDepth 4000 in
theorem ok_HM_set {w : wT} (hi : wInj w) {l : Launch} {x1 : Int32} {x2 : Int32} {x3 : Int32} {σ σ' : St} {r : Int64} (h : f_HM_set x1 x2 x3 σ = some (r, σ')) : gM w l yX9_set cX9_set 4 (some .long) 3 [.ref (w.1 9), .int x1, .int x2, .int x3] σ (some (.long r)) σ' := by
  unfold f_HM_set at h
  refine gM_of hi (by decide) [some (.ref (w.1 9)), some (.int x1), some (.int x2), some (.int x3)] rfl (Nat.le_of_ble_eq_true rfl) (fun E hl X Y => ?_)
  refine g_iload_n X dX9_set_0 rfl rfl ?_
  obtain ⟨r3, σ2, h1, h⟩ := bd_e h
  refine g_callSI X [.int x1] (ok_HM_isRow X.inj h1) my_yX9_isRow mt_yX9_isRow ml_RX9_101 (by decide) rfl dX9_set_1 (Nat.le_of_ble_eq_true rfl) rfl rfl ?_
  refine g_if_ne X dX9_set_4 (tgt := 11) rfl rfl (fun c4 => ?_) (fun c4 => ?_)
  · replace h := if_f c4 h
    refine g_aload_n X dX9_set_11 rfl rfl ?_
    refine gf_RX9_7 X dX9_set_12 rfl ?_
    refine g_iload_n X dX9_set_15 rfl rfl ?_
    obtain ⟨c5, h⟩ := ck_e h
    refine g_iald X ar_63.1 ar_63.2.1 ar_63.2.2 (ib_e c5) dX9_set_16 rfl ?_
    refine g_if_ge X dX9_set_17 (tgt := 26) rfl rfl (fun c6 => ?_) (fun c6 => ?_)
    · replace h := if_t c6 h
      refine g_iload_n X dX9_set_26 rfl rfl ?_
      refine g_i2l X dX9_set_27 rfl ?_
      refine g_lconst X kL_0 dX9_set_28 rfl ?_
      refine g_aload_n X dX9_set_29 rfl rfl ?_
      refine gf_RX9_13 X dX9_set_30 rfl ?_
      refine g_iload_n X dX9_set_33 rfl rfl ?_
      obtain ⟨c7, h⟩ := ck_e h
      refine g_iald X ar_64.1 ar_64.2.1 ar_64.2.2 (ib_e c7) dX9_set_34 rfl ?_
      refine g_iconst X kI_1 dX9_set_35 rfl ?_
      refine g_isub X dX9_set_36 rfl ?_
      refine g_i2l X dX9_set_37 rfl ?_
      obtain ⟨r10, σ9, h8, h⟩ := bd_e h
      refine g_callSI X [.long x2.toInt64, .long 0, .long (((rI σ2 64 x1) - 1).toInt64)] (ok_HM_in X.inj h8) my_yX9_in mt_yX9_in ml_RX9_91 (by decide) rfl dX9_set_38 (Nat.le_of_ble_eq_true rfl) rfl rfl ?_
      refine g_if_ne X dX9_set_41 (tgt := 50) rfl rfl (fun c11 => ?_) (fun c11 => ?_)
      · replace h := if_f c11 h
        refine g_aload_n X dX9_set_50 rfl rfl ?_
        refine gf_RX9_16 X dX9_set_51 rfl ?_
        refine g_bipush X kB_40 dX9_set_54 rfl ?_
        refine g_iload_n X dX9_set_56 rfl rfl ?_
        refine g_imul X dX9_set_57 rfl ?_
        refine g_iload_n X dX9_set_58 rfl rfl ?_
        refine g_iadd X dX9_set_59 rfl ?_
        refine g_aload_n X dX9_set_60 rfl rfl ?_
        refine gf_RX9_7 X dX9_set_61 rfl ?_
        refine g_iload_n X dX9_set_64 rfl rfl ?_
        obtain ⟨c12, h⟩ := ck_e h
        refine g_iald X ar_63.1 ar_63.2.1 ar_63.2.2 (ib_e c12) dX9_set_65 rfl ?_
        refine g_if_ne X dX9_set_66 (tgt := 74) rfl rfl (fun c13 => ?_) (fun c13 => ?_)
        · replace h := if_f c13 h
          refine g_aload_n X dX9_set_74 rfl rfl ?_
          refine gf_RX9_7 X dX9_set_75 rfl ?_
          refine g_iload_n X dX9_set_78 rfl rfl ?_
          obtain ⟨c14, h⟩ := ck_e h
          refine g_iald X ar_63.1 ar_63.2.1 ar_63.2.2 (ib_e c14) dX9_set_79 rfl ?_
          refine g_iconst X kI_1 dX9_set_80 rfl ?_
          refine g_icmp_ne X dX9_set_81 (tgt := 89) rfl rfl (fun c15 => ?_) (fun c15 => ?_)
          · replace h := if_f c15 h
            refine g_iload_n X dX9_set_89 rfl rfl ?_
            exact g_le (lle_s (lle_s (lle_s (lle_0)))) (ok_HM_set_b90 X Y σ9 h)
          · replace h := if_t c15 h
            refine g_iload_n X dX9_set_84 rfl rfl ?_
            refine g_i2s X dX9_set_85 rfl ?_
            refine g_goto X dX9_set_86 (tgt := 90) rfl ?_
            exact g_le (lle_s (lle_s (lle_s (lle_0)))) (ok_HM_set_b90 X Y σ9 h)
        · replace h := if_t c13 h
          refine g_iload_n X dX9_set_69 rfl rfl ?_
          refine g_i2b X dX9_set_70 rfl ?_
          refine g_goto X dX9_set_71 (tgt := 90) rfl ?_
          exact g_le (lle_s (lle_s (lle_s (lle_0)))) (ok_HM_set_b90 X Y σ9 h)
      · replace h := if_t c11 h
        refine g_aload_n X dX9_set_44 rfl rfl ?_
        refine g_iconst X kI_2 dX9_set_45 rfl ?_
        obtain ⟨r18, σ17, h16, h⟩ := bd_e h
        refine g_callVJ X [.int 2] (ok_HM_found X.inj h16) my_yX9_found mi_yX9_found ms_yX9_found ml_RX9_109 (by decide) rfl rfl (by decide) rfl dX9_set_46 (Nat.le_of_ble_eq_true rfl) rfl rfl ?_
        obtain ⟨rfl, rfl⟩ := rt_e h
        exact g_lret X Y dX9_set_49
    · replace h := if_f c6 h
      refine g_aload_n X dX9_set_20 rfl rfl ?_
      refine g_iconst X kI_1 dX9_set_21 rfl ?_
      obtain ⟨r21, σ20, h19, h⟩ := bd_e h
      refine g_callVJ X [.int 1] (ok_HM_found X.inj h19) my_yX9_found mi_yX9_found ms_yX9_found ml_RX9_109 (by decide) rfl rfl (by decide) rfl dX9_set_22 (Nat.le_of_ble_eq_true rfl) rfl rfl ?_
      obtain ⟨rfl, rfl⟩ := rt_e h
      exact g_lret X Y dX9_set_25
  · replace h := if_t c4 h
    refine g_ldc2 X dX9_set_7 kc_RX9_107 rfl ?_
    obtain ⟨rfl, rfl⟩ := rt_e h
    exact g_lret X Y dX9_set_10
