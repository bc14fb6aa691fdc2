theorem dX9_valueNow_0 : decode cX9_valueNow 0 = .ok (.aload_n 0, 1) := by decide +kernel
theorem dX9_valueNow_1 : decode cX9_valueNow 1 = .ok (.iconst (-1), 1) := by decide +kernel
theorem dX9_valueNow_2 : decode cX9_valueNow 2 = .ok (.iconst (-1), 1) := by decide +kernel
theorem dX9_valueNow_3 : decode cX9_valueNow 3 = .ok (.invokevirtual 236, 3) := by decide +kernel
theorem dX9_valueNow_6 : decode cX9_valueNow 6 = .ok (.lconst 0, 1) := by decide +kernel
theorem dX9_valueNow_7 : decode cX9_valueNow 7 = .ok (.lstore_n 1, 1) := by decide +kernel
theorem dX9_valueNow_8 : decode cX9_valueNow 8 = .ok (.iconst 0, 1) := by decide +kernel
theorem dX9_valueNow_9 : decode cX9_valueNow 9 = .ok (.istore_n 3, 1) := by decide +kernel
theorem dX9_valueNow_10 : decode cX9_valueNow 10 = .ok (.iload_n 3, 1) := by decide +kernel
theorem dX9_valueNow_11 : decode cX9_valueNow 11 = .ok (.aload_n 0, 1) := by decide +kernel
theorem dX9_valueNow_12 : decode cX9_valueNow 12 = .ok (.getfield 192, 3) := by decide +kernel
theorem dX9_valueNow_15 : decode cX9_valueNow 15 = .ok (.if_icmp .ge 39, 3) := by decide +kernel
theorem dX9_valueNow_18 : decode cX9_valueNow 18 = .ok (.lload_n 1, 1) := by decide +kernel
theorem dX9_valueNow_19 : decode cX9_valueNow 19 = .ok (.aload_n 0, 1) := by decide +kernel
theorem dX9_valueNow_20 : decode cX9_valueNow 20 = .ok (.getfield 22, 3) := by decide +kernel
theorem dX9_valueNow_23 : decode cX9_valueNow 23 = .ok (.iload_n 3, 1) := by decide +kernel
theorem dX9_valueNow_24 : decode cX9_valueNow 24 = .ok (.iaload, 1) := by decide +kernel
theorem dX9_valueNow_25 : decode cX9_valueNow 25 = .ok (.ifCond .ne 20, 3) := by decide +kernel
theorem dX9_valueNow_28 : decode cX9_valueNow 28 = .ok (.aload_n 0, 1) := by decide +kernel
theorem dX9_valueNow_29 : decode cX9_valueNow 29 = .ok (.getfield 25, 3) := by decide +kernel
theorem dX9_valueNow_32 : decode cX9_valueNow 32 = .ok (.iload_n 3, 1) := by decide +kernel
theorem dX9_valueNow_33 : decode cX9_valueNow 33 = .ok (.iaload, 1) := by decide +kernel
theorem dX9_valueNow_34 : decode cX9_valueNow 34 = .ok (.i2l, 1) := by decide +kernel
theorem dX9_valueNow_35 : decode cX9_valueNow 35 = .ok (.aload_n 0, 1) := by decide +kernel
theorem dX9_valueNow_36 : decode cX9_valueNow 36 = .ok (.getfield 73, 3) := by decide +kernel
theorem dX9_valueNow_39 : decode cX9_valueNow 39 = .ok (.iload_n 3, 1) := by decide +kernel
theorem dX9_valueNow_40 : decode cX9_valueNow 40 = .ok (.laload, 1) := by decide +kernel
theorem dX9_valueNow_41 : decode cX9_valueNow 41 = .ok (.lmul, 1) := by decide +kernel
theorem dX9_valueNow_42 : decode cX9_valueNow 42 = .ok (.goto 4, 3) := by decide +kernel
theorem dX9_valueNow_45 : decode cX9_valueNow 45 = .ok (.lconst 0, 1) := by decide +kernel
theorem dX9_valueNow_46 : decode cX9_valueNow 46 = .ok (.ladd, 1) := by decide +kernel
theorem dX9_valueNow_47 : decode cX9_valueNow 47 = .ok (.lstore_n 1, 1) := by decide +kernel
theorem dX9_valueNow_48 : decode cX9_valueNow 48 = .ok (.iinc 3 1, 3) := by decide +kernel
theorem dX9_valueNow_51 : decode cX9_valueNow 51 = .ok (.goto (-41), 3) := by decide +kernel
theorem dX9_valueNow_54 : decode cX9_valueNow 54 = .ok (.lload_n 1, 1) := by decide +kernel
theorem dX9_valueNow_55 : decode cX9_valueNow 55 = .ok (.lreturn, 1) := by decide +kernel
def f_HM_valueNow_b46 (k10 : Int64 → Int32 → St → Option (Int64 × St)) (x3 : Int32) (xs0 : Int64) (xs1 : Int64) (σ : St) : Option (Int64 × St) :=
  k10 (xs0 + xs1) (x3 + 1) σ
set_option maxRecDepth 4000 in
theorem ok_HM_valueNow_b46 {E : gE} {w : wT} {σ' : St} {r : Int64} (X : gC E w cX9_valueNow 4 RX9 3) (Y : gQ E w (some .long) (some (.long r)) σ') {k10 : Int64 → Int32 → St → Option (Int64 × St)} (hk10 : ∀ (x1 : Int64) (x3 : Int32) (σ : St), k10 x1 x3 σ = some (r, σ') → gW E w 4 σ 10 [some (.ref (w.1 9)), some (.long x1), none, some (.int x3)] []) {x3 : Int32} {xs0 : Int64} {xs1 : Int64} (σ : St) (h : f_HM_valueNow_b46 k10 x3 xs0 xs1 σ = some (r, σ')) : gW E w 4 σ 46 [some (.ref (w.1 9)), none, none, some (.int x3)] [.long xs1, .long xs0] := by
  unfold f_HM_valueNow_b46 at h
  refine g_ladd X dX9_valueNow_46 rfl ?_
  refine g_lstore_n X [some (.ref (w.1 9)), some (.long (xs0 + xs1)), none, some (.int x3)] dX9_valueNow_47 (Nat.le_of_ble_eq_true rfl) rfl rfl rfl ?_
  refine g_iinc X [some (.ref (w.1 9)), some (.long (xs0 + xs1)), none, some (.int (x3 + 1))] dX9_valueNow_48 rfl (ii_1 x3) (Nat.le_of_ble_eq_true rfl) rfl rfl rfl ?_
  refine g_goto X dX9_valueNow_51 (tgt := 10) rfl ?_
  exact hk10 (xs0 + xs1) (x3 + 1) σ h

def f_HM_valueNow_b10 (k10 : Int64 → Int32 → St → Option (Int64 × St)) (x1 : Int64) (x3 : Int32) (σ : St) : Option (Int64 × St) :=
  if (rF σ 43) ≤ x3 then (some (x1, σ)) else (ck (ib x3 120) <| if (rI σ 67 x3) = 0 then (ck (ib x3 120) <| ck (ib x3 60) <| f_HM_valueNow_b46 k10 x3 x1 (((rI σ 68 x3).toInt64) * (rL σ 84 x3)) σ) else (f_HM_valueNow_b46 k10 x3 x1 0 σ))
set_option maxRecDepth 4000 in
theorem ok_HM_valueNow_b10 {E : gE} {w : wT} {σ' : St} {r : Int64} (X : gC E w cX9_valueNow 4 RX9 3) (Y : gQ E w (some .long) (some (.long r)) σ') {k10 : Int64 → Int32 → St → Option (Int64 × St)} (hk10 : ∀ (x1 : Int64) (x3 : Int32) (σ : St), k10 x1 x3 σ = some (r, σ') → gW E w 4 σ 10 [some (.ref (w.1 9)), some (.long x1), none, some (.int x3)] []) {x1 : Int64} {x3 : Int32} (σ : St) (h : f_HM_valueNow_b10 k10 x1 x3 σ = some (r, σ')) : gW E w 4 σ 10 [some (.ref (w.1 9)), some (.long x1), none, some (.int x3)] [] := by
  unfold f_HM_valueNow_b10 at h
  refine g_iload_n X dX9_valueNow_10 rfl rfl ?_
  refine g_aload_n X dX9_valueNow_11 rfl rfl ?_
  refine gf_RX9_192 X dX9_valueNow_12 rfl ?_
  refine g_icmp_ge X dX9_valueNow_15 (tgt := 54) rfl rfl (fun c1 => ?_) (fun c1 => ?_)
  · replace h := if_t c1 h
    refine g_lload_n X dX9_valueNow_54 rfl rfl ?_
    obtain ⟨rfl, rfl⟩ := rt_e h
    exact g_lret X Y dX9_valueNow_55
  · replace h := if_f c1 h
    refine g_lload_n X dX9_valueNow_18 rfl rfl ?_
    refine g_aload_n X dX9_valueNow_19 rfl rfl ?_
    refine gf_RX9_22 X dX9_valueNow_20 rfl ?_
    refine g_iload_n X dX9_valueNow_23 rfl rfl ?_
    obtain ⟨c2, h⟩ := ck_e h
    refine g_iald X ar_67.1 ar_67.2.1 ar_67.2.2 (ib_e c2) dX9_valueNow_24 rfl ?_
    refine g_if_ne X dX9_valueNow_25 (tgt := 45) rfl rfl (fun c3 => ?_) (fun c3 => ?_)
    · replace h := if_f c3 h
      refine g_lconst X kL_0 dX9_valueNow_45 rfl ?_
      exact g_le (lle_s (lle_k (lle_k (lle_s (lle_0))))) (ok_HM_valueNow_b46 X Y hk10 σ h)
    · replace h := if_t c3 h
      refine g_aload_n X dX9_valueNow_28 rfl rfl ?_
      refine gf_RX9_25 X dX9_valueNow_29 rfl ?_
      refine g_iload_n X dX9_valueNow_32 rfl rfl ?_
      obtain ⟨c4, h⟩ := ck_e h
      refine g_iald X ar_68.1 ar_68.2.1 ar_68.2.2 (ib_e c4) dX9_valueNow_33 rfl ?_
      refine g_i2l X dX9_valueNow_34 rfl ?_
      refine g_aload_n X dX9_valueNow_35 rfl rfl ?_
      refine gf_RX9_73 X dX9_valueNow_36 rfl ?_
      refine g_iload_n X dX9_valueNow_39 rfl rfl ?_
      obtain ⟨c5, h⟩ := ck_e h
      refine g_lald X ar_84.1 ar_84.2.1 ar_84.2.2 (ib_e c5) dX9_valueNow_40 rfl ?_
      refine g_lmul X dX9_valueNow_41 rfl ?_
      refine g_goto X dX9_valueNow_42 (tgt := 46) rfl ?_
      exact g_le (lle_s (lle_k (lle_k (lle_s (lle_0))))) (ok_HM_valueNow_b46 X Y hk10 σ h)
def f_HM_valueNow_l10 : Int64 → Int32 → St → Option (Int64 × St) := lp (fun _ _ _ => none) (f_HM_valueNow_b10) FU
theorem ok_HM_valueNow_l10 {E : gE} {w : wT} {σ' : St} {r : Int64} (X : gC E w cX9_valueNow 4 RX9 3) (Y : gQ E w (some .long) (some (.long r)) σ') {x1 : Int64} {x3 : Int32} (σ : St) (h : f_HM_valueNow_l10 x1 x3 σ = some (r, σ')) : gW E w 4 σ 10 [some (.ref (w.1 9)), some (.long x1), none, some (.int x3)] [] :=
  lp_ind (P := fun (k : Int64 → Int32 → St → Option (Int64 × St)) => ∀ (x1 : Int64) (x3 : Int32) (σ : St), k x1 x3 σ = some (r, σ') → gW E w 4 σ 10 [some (.ref (w.1 9)), some (.long x1), none, some (.int x3)] []) (fun _ _ _ hh => nn hh) (fun k hk x1 x3 σ  hh => ok_HM_valueNow_b10 X Y hk σ hh) FU x1 x3 σ  h

def f_HM_valueNow (σ : St) : Option (Int64 × St) :=
  bv (f_HM_layReach ((-1)) ((-1)) σ) fun σ2 => f_HM_valueNow_l10 0 0 σ2
set_option maxRecDepth 4000 in
theorem ok_HM_valueNow {w : wT} (hi : wInj w) {l : Launch} {σ σ' : St} {r : Int64} (h : f_HM_valueNow σ = some (r, σ')) : gM w l yX9_valueNow cX9_valueNow 4 (some .long) 3 [.ref (w.1 9)] σ (some (.long r)) σ' := by
  unfold f_HM_valueNow at h
  refine gM_of hi (by decide) [some (.ref (w.1 9))] rfl (Nat.le_of_ble_eq_true rfl) (fun E hl X Y => ?_)
  refine g_aload_n X dX9_valueNow_0 rfl rfl ?_
  refine g_iconst X kI_m1 dX9_valueNow_1 rfl ?_
  refine g_iconst X kI_m1 dX9_valueNow_2 rfl ?_
  obtain ⟨σ2, h1, h⟩ := bv_e h
  refine g_callVV X [.int ((-1)), .int ((-1))] (ok_HM_layReach X.inj h1) my_yX9_layReach mi_yX9_layReach ms_yX9_layReach ml_RX9_236 (by decide) rfl rfl (by decide) rfl dX9_valueNow_3 (Nat.le_of_ble_eq_true rfl) rfl rfl ?_
  refine g_lconst X kL_0 dX9_valueNow_6 rfl ?_
  refine g_lstore_n X [some (.ref (w.1 9)), some (.long 0), none] dX9_valueNow_7 (Nat.le_of_ble_eq_true rfl) rfl rfl rfl ?_
  refine g_iconst X kI_0 dX9_valueNow_8 rfl ?_
  refine g_istore_n X [some (.ref (w.1 9)), some (.long 0), none, some (.int 0)] dX9_valueNow_9 (Nat.le_of_ble_eq_true rfl) rfl rfl rfl ?_
  exact ok_HM_valueNow_l10 X Y σ2 h

theorem dX9_value_0 : decode cX9_value 0 = .ok (.aload_n 0, 1) := by decide +kernel
theorem dX9_value_1 : decode cX9_value 1 = .ok (.getfield 192, 3) := by decide +kernel
theorem dX9_value_4 : decode cX9_value 4 = .ok (.ifCond .ne 9, 3) := by decide +kernel
theorem dX9_value_7 : decode cX9_value 7 = .ok (.ldc2_w 240, 3) := by decide +kernel
theorem dX9_value_10 : decode cX9_value 10 = .ok (.goto 7, 3) := by decide +kernel
theorem dX9_value_13 : decode cX9_value 13 = .ok (.aload_n 0, 1) := by decide +kernel
theorem dX9_value_14 : decode cX9_value 14 = .ok (.invokevirtual 242, 3) := by decide +kernel
theorem dX9_value_17 : decode cX9_value 17 = .ok (.lreturn, 1) := by decide +kernel
def f_HM_value (σ : St) : Option (Int64 × St) :=
  if (rF σ 43) = 0 then (some ((-9000000000000000002), σ)) else (bd (f_HM_valueNow σ) fun r4 σ3 => some (r4, σ3))
set_option maxRecDepth 4000 in
theorem ok_HM_value {w : wT} (hi : wInj w) {l : Launch} {σ σ' : St} {r : Int64} (h : f_HM_value σ = some (r, σ')) : gM w l yX9_value cX9_value 1 (some .long) 4 [.ref (w.1 9)] σ (some (.long r)) σ' := by
  unfold f_HM_value at h
  refine gM_of hi (by decide) [some (.ref (w.1 9))] rfl (Nat.le_of_ble_eq_true rfl) (fun E hl X Y => ?_)
  refine g_aload_n X dX9_value_0 rfl rfl ?_
  refine gf_RX9_192 X dX9_value_1 rfl ?_
  refine g_if_ne X dX9_value_4 (tgt := 13) rfl rfl (fun c1 => ?_) (fun c1 => ?_)
  · replace h := if_f c1 h
    refine g_aload_n X dX9_value_13 rfl rfl ?_
    obtain ⟨r4, σ3, h2, h⟩ := bd_e h
    refine g_callVJ X [] (ok_HM_valueNow X.inj h2) my_yX9_valueNow mi_yX9_valueNow ms_yX9_valueNow ml_RX9_242 (by decide) rfl rfl (by decide) rfl dX9_value_14 (Nat.le_of_ble_eq_true rfl) rfl rfl ?_
    obtain ⟨rfl, rfl⟩ := rt_e h
    exact g_lret X Y dX9_value_17
  · replace h := if_t c1 h
    refine g_ldc2 X dX9_value_7 kc_RX9_240 rfl ?_
    refine g_goto X dX9_value_10 (tgt := 17) rfl ?_
    obtain ⟨rfl, rfl⟩ := rt_e h
    exact g_lret X Y dX9_value_17

theorem dX9_reach_0 : decode cX9_reach 0 = .ok (.aload_n 0, 1) := by decide +kernel
theorem dX9_reach_1 : decode cX9_reach 1 = .ok (.iload_n 1, 1) := by decide +kernel
theorem dX9_reach_2 : decode cX9_reach 2 = .ok (.invokevirtual 200, 3) := by decide +kernel
theorem dX9_reach_5 : decode cX9_reach 5 = .ok (.ifCond .eq 15, 3) := by decide +kernel
theorem dX9_reach_8 : decode cX9_reach 8 = .ok (.iload_n 2, 1) := by decide +kernel
theorem dX9_reach_9 : decode cX9_reach 9 = .ok (.i2l, 1) := by decide +kernel
theorem dX9_reach_10 : decode cX9_reach 10 = .ok (.lconst 0, 1) := by decide +kernel
theorem dX9_reach_11 : decode cX9_reach 11 = .ok (.ldc2_w 105, 3) := by decide +kernel
theorem dX9_reach_14 : decode cX9_reach 14 = .ok (.invokestatic 91, 3) := by decide +kernel
theorem dX9_reach_17 : decode cX9_reach 17 = .ok (.ifCond .ne 7, 3) := by decide +kernel
theorem dX9_reach_20 : decode cX9_reach 20 = .ok (.ldc2_w 107, 3) := by decide +kernel
theorem dX9_reach_23 : decode cX9_reach 23 = .ok (.lreturn, 1) := by decide +kernel
theorem dX9_reach_24 : decode cX9_reach 24 = .ok (.aload_n 0, 1) := by decide +kernel
theorem dX9_reach_25 : decode cX9_reach 25 = .ok (.iload_n 2, 1) := by decide +kernel
theorem dX9_reach_26 : decode cX9_reach 26 = .ok (.iconst 1, 1) := by decide +kernel
theorem dX9_reach_27 : decode cX9_reach 27 = .ok (.isub, 1) := by decide +kernel
theorem dX9_reach_28 : decode cX9_reach 28 = .ok (.iconst (-1), 1) := by decide +kernel
theorem dX9_reach_29 : decode cX9_reach 29 = .ok (.invokevirtual 236, 3) := by decide +kernel
theorem dX9_reach_32 : decode cX9_reach 32 = .ok (.aload_n 0, 1) := by decide +kernel
theorem dX9_reach_33 : decode cX9_reach 33 = .ok (.getfield 73, 3) := by decide +kernel
theorem dX9_reach_36 : decode cX9_reach 36 = .ok (.iload_n 1, 1) := by decide +kernel
theorem dX9_reach_37 : decode cX9_reach 37 = .ok (.laload, 1) := by decide +kernel
theorem dX9_reach_38 : decode cX9_reach 38 = .ok (.lreturn, 1) := by decide +kernel
def f_HM_reach (x1 : Int32) (x2 : Int32) (σ : St) : Option (Int64 × St) :=
  bd (f_HM_isPlace x1 σ) fun r3 σ2 => if r3 = 0 then (some ((-9000000000000000001), σ2)) else (bd (f_HM_in x2.toInt64 0 2 σ2) fun r7 σ6 => if r7 = 0 then (some ((-9000000000000000001), σ6)) else (bv (f_HM_layReach (x2 - 1) ((-1)) σ6) fun σ10 => ck (ib x1 60) <| some (rL σ10 84 x1, σ10)))
set_option maxRecDepth 4000 in
theorem ok_HM_reach {w : wT} (hi : wInj w) {l : Launch} {x1 : Int32} {x2 : Int32} {σ σ' : St} {r : Int64} (h : f_HM_reach x1 x2 σ = some (r, σ')) : gM w l yX9_reach cX9_reach 3 (some .long) 3 [.ref (w.1 9), .int x1, .int x2] σ (some (.long r)) σ' := by
  unfold f_HM_reach at h
  refine gM_of hi (by decide) [some (.ref (w.1 9)), some (.int x1), some (.int x2)] rfl (Nat.le_of_ble_eq_true rfl) (fun E hl X Y => ?_)
  refine g_aload_n X dX9_reach_0 rfl rfl ?_
  refine g_iload_n X dX9_reach_1 rfl rfl ?_
  obtain ⟨r3, σ2, h1, h⟩ := bd_e h
  refine g_callVI X [.int x1] (ok_HM_isPlace X.inj h1) my_yX9_isPlace mi_yX9_isPlace ms_yX9_isPlace ml_RX9_200 (by decide) rfl rfl (by decide) rfl dX9_reach_2 (Nat.le_of_ble_eq_true rfl) rfl rfl ?_
  refine g_if_eq X dX9_reach_5 (tgt := 20) rfl rfl (fun c4 => ?_) (fun c4 => ?_)
  · replace h := if_t c4 h
    refine g_ldc2 X dX9_reach_20 kc_RX9_107 rfl ?_
    obtain ⟨rfl, rfl⟩ := rt_e h
    exact g_lret X Y dX9_reach_23
  · replace h := if_f c4 h
    refine g_iload_n X dX9_reach_8 rfl rfl ?_
    refine g_i2l X dX9_reach_9 rfl ?_
    refine g_lconst X kL_0 dX9_reach_10 rfl ?_
    refine g_ldc2 X dX9_reach_11 kc_RX9_105 rfl ?_
    obtain ⟨r7, σ6, h5, h⟩ := bd_e h
    refine g_callSI X [.long x2.toInt64, .long 0, .long 2] (ok_HM_in X.inj h5) my_yX9_in mt_yX9_in ml_RX9_91 (by decide) rfl dX9_reach_14 (Nat.le_of_ble_eq_true rfl) rfl rfl ?_
    refine g_if_ne X dX9_reach_17 (tgt := 24) rfl rfl (fun c8 => ?_) (fun c8 => ?_)
    · replace h := if_f c8 h
      refine g_aload_n X dX9_reach_24 rfl rfl ?_
      refine g_iload_n X dX9_reach_25 rfl rfl ?_
      refine g_iconst X kI_1 dX9_reach_26 rfl ?_
      refine g_isub X dX9_reach_27 rfl ?_
      refine g_iconst X kI_m1 dX9_reach_28 rfl ?_
      obtain ⟨σ10, h9, h⟩ := bv_e h
      refine g_callVV X [.int (x2 - 1), .int ((-1))] (ok_HM_layReach X.inj h9) my_yX9_layReach mi_yX9_layReach ms_yX9_layReach ml_RX9_236 (by decide) rfl rfl (by decide) rfl dX9_reach_29 (Nat.le_of_ble_eq_true rfl) rfl rfl ?_
      refine g_aload_n X dX9_reach_32 rfl rfl ?_
      refine gf_RX9_73 X dX9_reach_33 rfl ?_
      refine g_iload_n X dX9_reach_36 rfl rfl ?_
      obtain ⟨c11, h⟩ := ck_e h
      refine g_lald X ar_84.1 ar_84.2.1 ar_84.2.2 (ib_e c11) dX9_reach_37 rfl ?_
      obtain ⟨rfl, rfl⟩ := rt_e h
      exact g_lret X Y dX9_reach_38
    · replace h := if_t c8 h
      refine g_ldc2 X dX9_reach_20 kc_RX9_107 rfl ?_
      obtain ⟨rfl, rfl⟩ := rt_e h
      exact g_lret X Y dX9_reach_23

theorem dX9_layGroups_0 : decode cX9_layGroups 0 = .ok (.iconst 0, 1) := by decide +kernel
theorem dX9_layGroups_1 : decode cX9_layGroups 1 = .ok (.istore_n 1, 1) := by decide +kernel
theorem dX9_layGroups_2 : decode cX9_layGroups 2 = .ok (.iload_n 1, 1) := by decide +kernel
theorem dX9_layGroups_3 : decode cX9_layGroups 3 = .ok (.aload_n 0, 1) := by decide +kernel
theorem dX9_layGroups_4 : decode cX9_layGroups 4 = .ok (.getfield 192, 3) := by decide +kernel
theorem dX9_layGroups_7 : decode cX9_layGroups 7 = .ok (.if_icmp .ge 36, 3) := by decide +kernel
theorem dX9_layGroups_10 : decode cX9_layGroups 10 = .ok (.aload_n 0, 1) := by decide +kernel
theorem dX9_layGroups_11 : decode cX9_layGroups 11 = .ok (.getfield 80, 3) := by decide +kernel
theorem dX9_layGroups_14 : decode cX9_layGroups 14 = .ok (.iload_n 1, 1) := by decide +kernel
theorem dX9_layGroups_15 : decode cX9_layGroups 15 = .ok (.aload_n 0, 1) := by decide +kernel
theorem dX9_layGroups_16 : decode cX9_layGroups 16 = .ok (.getfield 28, 3) := by decide +kernel
theorem dX9_layGroups_19 : decode cX9_layGroups 19 = .ok (.iload_n 1, 1) := by decide +kernel
theorem dX9_layGroups_20 : decode cX9_layGroups 20 = .ok (.iaload, 1) := by decide +kernel
theorem dX9_layGroups_21 : decode cX9_layGroups 21 = .ok (.ldc 163, 2) := by decide +kernel
theorem dX9_layGroups_23 : decode cX9_layGroups 23 = .ok (.if_icmp .ne 7, 3) := by decide +kernel
theorem dX9_layGroups_26 : decode cX9_layGroups 26 = .ok (.iconst 0, 1) := by decide +kernel
theorem dX9_layGroups_27 : decode cX9_layGroups 27 = .ok (.goto 9, 3) := by decide +kernel
theorem dX9_layGroups_30 : decode cX9_layGroups 30 = .ok (.aload_n 0, 1) := by decide +kernel
theorem dX9_layGroups_31 : decode cX9_layGroups 31 = .ok (.getfield 28, 3) := by decide +kernel
theorem dX9_layGroups_34 : decode cX9_layGroups 34 = .ok (.iload_n 1, 1) := by decide +kernel
theorem dX9_layGroups_35 : decode cX9_layGroups 35 = .ok (.iaload, 1) := by decide +kernel
theorem dX9_layGroups_36 : decode cX9_layGroups 36 = .ok (.iastore, 1) := by decide +kernel
theorem dX9_layGroups_37 : decode cX9_layGroups 37 = .ok (.iinc 1 1, 3) := by decide +kernel
theorem dX9_layGroups_40 : decode cX9_layGroups 40 = .ok (.goto (-38), 3) := by decide +kernel
theorem dX9_layGroups_43 : decode cX9_layGroups 43 = .ok (.aload_n 0, 1) := by decide +kernel
theorem dX9_layGroups_44 : decode cX9_layGroups 44 = .ok (.ldc 163, 2) := by decide +kernel
theorem dX9_layGroups_46 : decode cX9_layGroups 46 = .ok (.putfield 246, 3) := by decide +kernel
theorem dX9_layGroups_49 : decode cX9_layGroups 49 = .ok (.aload_n 0, 1) := by decide +kernel
theorem dX9_layGroups_50 : decode cX9_layGroups 50 = .ok (.ldc 163, 2) := by decide +kernel
theorem dX9_layGroups_52 : decode cX9_layGroups 52 = .ok (.putfield 249, 3) := by decide +kernel
theorem dX9_layGroups_55 : decode cX9_layGroups 55 = .ok (.return_, 1) := by decide +kernel
def f_HM_layGroups_b36 (k2 : Int32 → St → Option St) (x1 : Int32) (xs1 : Int32) (xs2 : Int32) (σ : St) : Option St :=
  ck (ib xs1 60) <| lE (stA σ 86 xs1.toNatClampNeg xs2) fun σ2 => k2 (x1 + 1) σ2
set_option maxRecDepth 4000 in
theorem ok_HM_layGroups_b36 {E : gE} {w : wT} {σ' : St} (X : gC E w cX9_layGroups 2 RX9 1) (Y : gQ E w none none σ') {k2 : Int32 → St → Option St} (hk2 : ∀ (x1 : Int32) (σ : St), k2 x1 σ = some σ' → gW E w 2 σ 2 [some (.ref (w.1 9)), some (.int x1)] []) {x1 : Int32} {xs1 : Int32} {xs2 : Int32} (σ : St) (h : f_HM_layGroups_b36 k2 x1 xs1 xs2 σ = some σ') : gW E w 2 σ 36 [some (.ref (w.1 9)), some (.int x1)] [.int xs2, .int xs1, .ref (w.1 86)] := by
  unfold f_HM_layGroups_b36 at h
  obtain ⟨c1, h⟩ := ck_e h
  refine g_iast X ar_86.1 ar_86.2.1 ar_86.2.2 (ib_e c1) dX9_layGroups_36 rfl (fun σ2 e3 => ?_)
  replace h := lE_c e3 h
  refine g_iinc X [some (.ref (w.1 9)), some (.int (x1 + 1))] dX9_layGroups_37 rfl (ii_1 x1) (Nat.le_of_ble_eq_true rfl) rfl rfl rfl ?_
  refine g_goto X dX9_layGroups_40 (tgt := 2) rfl ?_
  exact hk2 (x1 + 1) σ2 h

def f_HM_layGroups_b2 (k2 : Int32 → St → Option St) (x1 : Int32) (σ : St) : Option St :=
  if (rF σ 43) ≤ x1 then (lE (stF σ 52 ((-1000000))) fun σ2 => lE (stF σ2 53 ((-1000000))) fun σ4 => some σ4) else (ck (ib x1 120) <| if (rI σ 69 x1) = ((-1000000)) then (f_HM_layGroups_b36 k2 x1 x1 0 σ) else (ck (ib x1 120) <| f_HM_layGroups_b36 k2 x1 x1 (rI σ 69 x1) σ))
set_option maxRecDepth 4000 in
theorem ok_HM_layGroups_b2 {E : gE} {w : wT} {σ' : St} (X : gC E w cX9_layGroups 2 RX9 1) (Y : gQ E w none none σ') {k2 : Int32 → St → Option St} (hk2 : ∀ (x1 : Int32) (σ : St), k2 x1 σ = some σ' → gW E w 2 σ 2 [some (.ref (w.1 9)), some (.int x1)] []) {x1 : Int32} (σ : St) (h : f_HM_layGroups_b2 k2 x1 σ = some σ') : gW E w 2 σ 2 [some (.ref (w.1 9)), some (.int x1)] [] := by
  unfold f_HM_layGroups_b2 at h
  refine g_iload_n X dX9_layGroups_2 rfl rfl ?_
  refine g_aload_n X dX9_layGroups_3 rfl rfl ?_
  refine gf_RX9_192 X dX9_layGroups_4 rfl ?_
  refine g_icmp_ge X dX9_layGroups_7 (tgt := 43) rfl rfl (fun c1 => ?_) (fun c1 => ?_)
  · replace h := if_t c1 h
    refine g_aload_n X dX9_layGroups_43 rfl rfl ?_
    refine g_ldc X dX9_layGroups_44 kc_RX9_163 rfl ?_
    refine gp_RX9_246 X dX9_layGroups_46 rfl (fun σ2 e3 => ?_)
    replace h := lE_c e3 h
    refine g_aload_n X dX9_layGroups_49 rfl rfl ?_
    refine g_ldc X dX9_layGroups_50 kc_RX9_163 rfl ?_
    refine gp_RX9_249 X dX9_layGroups_52 rfl (fun σ4 e5 => ?_)
    replace h := lE_c e5 h
    obtain rfl := rv_e h
    exact g_vret X Y dX9_layGroups_55
  · replace h := if_f c1 h
    refine g_aload_n X dX9_layGroups_10 rfl rfl ?_
    refine gf_RX9_80 X dX9_layGroups_11 rfl ?_
    refine g_iload_n X dX9_layGroups_14 rfl rfl ?_
    refine g_aload_n X dX9_layGroups_15 rfl rfl ?_
    refine gf_RX9_28 X dX9_layGroups_16 rfl ?_
    refine g_iload_n X dX9_layGroups_19 rfl rfl ?_
    obtain ⟨c6, h⟩ := ck_e h
    refine g_iald X ar_69.1 ar_69.2.1 ar_69.2.2 (ib_e c6) dX9_layGroups_20 rfl ?_
    refine g_ldc X dX9_layGroups_21 kc_RX9_163 rfl ?_
    refine g_icmp_ne X dX9_layGroups_23 (tgt := 30) rfl rfl (fun c7 => ?_) (fun c7 => ?_)
    · replace h := if_f c7 h
      refine g_aload_n X dX9_layGroups_30 rfl rfl ?_
      refine gf_RX9_28 X dX9_layGroups_31 rfl ?_
      refine g_iload_n X dX9_layGroups_34 rfl rfl ?_
      obtain ⟨c8, h⟩ := ck_e h
      refine g_iald X ar_69.1 ar_69.2.1 ar_69.2.2 (ib_e c8) dX9_layGroups_35 rfl ?_
      exact ok_HM_layGroups_b36 X Y hk2 σ h
    · replace h := if_t c7 h
      refine g_iconst X kI_0 dX9_layGroups_26 rfl ?_
      refine g_goto X dX9_layGroups_27 (tgt := 36) rfl ?_
      exact ok_HM_layGroups_b36 X Y hk2 σ h
def f_HM_layGroups_l2 : Int32 → St → Option St := lp (fun _ _ => none) (f_HM_layGroups_b2) FU
theorem ok_HM_layGroups_l2 {E : gE} {w : wT} {σ' : St} (X : gC E w cX9_layGroups 2 RX9 1) (Y : gQ E w none none σ') {x1 : Int32} (σ : St) (h : f_HM_layGroups_l2 x1 σ = some σ') : gW E w 2 σ 2 [some (.ref (w.1 9)), some (.int x1)] [] :=
  lp_ind (P := fun (k : Int32 → St → Option St) => ∀ (x1 : Int32) (σ : St), k x1 σ = some σ' → gW E w 2 σ 2 [some (.ref (w.1 9)), some (.int x1)] []) (fun _ _ hh => nn hh) (fun k hk x1 σ  hh => ok_HM_layGroups_b2 X Y hk σ hh) FU x1 σ  h

def f_HM_layGroups (σ : St) : Option St :=
  f_HM_layGroups_l2 0 σ
set_option maxRecDepth 4000 in
theorem ok_HM_layGroups {w : wT} (hi : wInj w) {l : Launch} {σ σ' : St} (h : f_HM_layGroups σ = some σ') : gM w l yX9_layGroups cX9_layGroups 2 none 1 [.ref (w.1 9)] σ none σ' := by
  unfold f_HM_layGroups at h
  refine gM_of hi (by decide) [some (.ref (w.1 9))] rfl (Nat.le_of_ble_eq_true rfl) (fun E hl X Y => ?_)
  refine g_iconst X kI_0 dX9_layGroups_0 rfl ?_
  refine g_istore_n X [some (.ref (w.1 9)), some (.int 0)] dX9_layGroups_1 (Nat.le_of_ble_eq_true rfl) rfl rfl rfl ?_
  exact ok_HM_layGroups_l2 X Y σ h

theorem dX9_layCounts_0 : decode cX9_layCounts 0 = .ok (.aload_n 0, 1) := by decide +kernel
theorem dX9_layCounts_1 : decode cX9_layCounts 1 = .ok (.iload_n 1, 1) := by decide +kernel
theorem dX9_layCounts_2 : decode cX9_layCounts 2 = .ok (.iconst (-1), 1) := by decide +kernel
theorem dX9_layCounts_3 : decode cX9_layCounts 3 = .ok (.invokevirtual 236, 3) := by decide +kernel
theorem dX9_layCounts_6 : decode cX9_layCounts 6 = .ok (.iconst 0, 1) := by decide +kernel
theorem dX9_layCounts_7 : decode cX9_layCounts 7 = .ok (.istore_n 2, 1) := by decide +kernel
theorem dX9_layCounts_8 : decode cX9_layCounts 8 = .ok (.iload_n 2, 1) := by decide +kernel
theorem dX9_layCounts_9 : decode cX9_layCounts 9 = .ok (.aload_n 0, 1) := by decide +kernel
theorem dX9_layCounts_10 : decode cX9_layCounts 10 = .ok (.getfield 192, 3) := by decide +kernel
theorem dX9_layCounts_13 : decode cX9_layCounts 13 = .ok (.if_icmp .ge 21, 3) := by decide +kernel
theorem dX9_layCounts_16 : decode cX9_layCounts 16 = .ok (.aload_n 0, 1) := by decide +kernel
theorem dX9_layCounts_17 : decode cX9_layCounts 17 = .ok (.getfield 77, 3) := by decide +kernel
theorem dX9_layCounts_20 : decode cX9_layCounts 20 = .ok (.iload_n 2, 1) := by decide +kernel
theorem dX9_layCounts_21 : decode cX9_layCounts 21 = .ok (.aload_n 0, 1) := by decide +kernel
theorem dX9_layCounts_22 : decode cX9_layCounts 22 = .ok (.getfield 73, 3) := by decide +kernel
theorem dX9_layCounts_25 : decode cX9_layCounts 25 = .ok (.iload_n 2, 1) := by decide +kernel
theorem dX9_layCounts_26 : decode cX9_layCounts 26 = .ok (.laload, 1) := by decide +kernel
theorem dX9_layCounts_27 : decode cX9_layCounts 27 = .ok (.lastore, 1) := by decide +kernel
theorem dX9_layCounts_28 : decode cX9_layCounts 28 = .ok (.iinc 2 1, 3) := by decide +kernel
theorem dX9_layCounts_31 : decode cX9_layCounts 31 = .ok (.goto (-23), 3) := by decide +kernel
theorem dX9_layCounts_34 : decode cX9_layCounts 34 = .ok (.return_, 1) := by decide +kernel
def f_HM_layCounts_b8 (k8 : Int32 → St → Option St) (x2 : Int32) (σ : St) : Option St :=
  if (rF σ 43) ≤ x2 then (some σ) else (ck (ib x2 60) <| ck (ib x2 60) <| lE (stL σ 85 x2.toNatClampNeg (rL σ 84 x2)) fun σ4 => k8 (x2 + 1) σ4)
set_option maxRecDepth 4000 in
theorem ok_HM_layCounts_b8 {E : gE} {w : wT} {σ' : St} (X : gC E w cX9_layCounts 3 RX9 3) (Y : gQ E w none none σ') {k8 : Int32 → St → Option St} (hk8 : ∀ (x2 : Int32) (σ : St), k8 x2 σ = some σ' → gW E w 3 σ 8 [some (.ref (w.1 9)), none, some (.int x2)] []) {x2 : Int32} (σ : St) (h : f_HM_layCounts_b8 k8 x2 σ = some σ') : gW E w 3 σ 8 [some (.ref (w.1 9)), none, some (.int x2)] [] := by
  unfold f_HM_layCounts_b8 at h
  refine g_iload_n X dX9_layCounts_8 rfl rfl ?_
  refine g_aload_n X dX9_layCounts_9 rfl rfl ?_
  refine gf_RX9_192 X dX9_layCounts_10 rfl ?_
  refine g_icmp_ge X dX9_layCounts_13 (tgt := 34) rfl rfl (fun c1 => ?_) (fun c1 => ?_)
  · replace h := if_t c1 h
    obtain rfl := rv_e h
    exact g_vret X Y dX9_layCounts_34
  · replace h := if_f c1 h
    refine g_aload_n X dX9_layCounts_16 rfl rfl ?_
    refine gf_RX9_77 X dX9_layCounts_17 rfl ?_
    refine g_iload_n X dX9_layCounts_20 rfl rfl ?_
    refine g_aload_n X dX9_layCounts_21 rfl rfl ?_
    refine gf_RX9_73 X dX9_layCounts_22 rfl ?_
    refine g_iload_n X dX9_layCounts_25 rfl rfl ?_
    obtain ⟨c2, h⟩ := ck_e h
    refine g_lald X ar_84.1 ar_84.2.1 ar_84.2.2 (ib_e c2) dX9_layCounts_26 rfl ?_
    obtain ⟨c3, h⟩ := ck_e h
    refine g_last X ar_85.1 ar_85.2.1 ar_85.2.2 (ib_e c3) dX9_layCounts_27 rfl (fun σ4 e5 => ?_)
    replace h := lE_c e5 h
    refine g_iinc X [some (.ref (w.1 9)), none, some (.int (x2 + 1))] dX9_layCounts_28 rfl (ii_1 x2) (Nat.le_of_ble_eq_true rfl) rfl rfl rfl ?_
    refine g_goto X dX9_layCounts_31 (tgt := 8) rfl ?_
    exact hk8 (x2 + 1) σ4 h
def f_HM_layCounts_l8 : Int32 → St → Option St := lp (fun _ _ => none) (f_HM_layCounts_b8) FU
theorem ok_HM_layCounts_l8 {E : gE} {w : wT} {σ' : St} (X : gC E w cX9_layCounts 3 RX9 3) (Y : gQ E w none none σ') {x2 : Int32} (σ : St) (h : f_HM_layCounts_l8 x2 σ = some σ') : gW E w 3 σ 8 [some (.ref (w.1 9)), none, some (.int x2)] [] :=
  lp_ind (P := fun (k : Int32 → St → Option St) => ∀ (x2 : Int32) (σ : St), k x2 σ = some σ' → gW E w 3 σ 8 [some (.ref (w.1 9)), none, some (.int x2)] []) (fun _ _ hh => nn hh) (fun k hk x2 σ  hh => ok_HM_layCounts_b8 X Y hk σ hh) FU x2 σ  h

def f_HM_layCounts (x1 : Int32) (σ : St) : Option St :=
  bv (f_HM_layReach x1 ((-1)) σ) fun σ2 => f_HM_layCounts_l8 0 σ2
set_option maxRecDepth 4000 in
theorem ok_HM_layCounts {w : wT} (hi : wInj w) {l : Launch} {x1 : Int32} {σ σ' : St} (h : f_HM_layCounts x1 σ = some σ') : gM w l yX9_layCounts cX9_layCounts 3 none 3 [.ref (w.1 9), .int x1] σ none σ' := by
  unfold f_HM_layCounts at h
  refine gM_of hi (by decide) [some (.ref (w.1 9)), some (.int x1)] rfl (Nat.le_of_ble_eq_true rfl) (fun E hl X Y => ?_)
  refine g_aload_n X dX9_layCounts_0 rfl rfl ?_
  refine g_iload_n X dX9_layCounts_1 rfl rfl ?_
  refine g_iconst X kI_m1 dX9_layCounts_2 rfl ?_
  obtain ⟨σ2, h1, h⟩ := bv_e h
  refine g_callVV X [.int x1, .int ((-1))] (ok_HM_layReach X.inj h1) my_yX9_layReach mi_yX9_layReach ms_yX9_layReach ml_RX9_236 (by decide) rfl rfl (by decide) rfl dX9_layCounts_3 (Nat.le_of_ble_eq_true rfl) rfl rfl ?_
  refine g_iconst X kI_0 dX9_layCounts_6 rfl ?_
  refine g_istore_n X [some (.ref (w.1 9)), some (.int x1), some (.int 0)] dX9_layCounts_7 (Nat.le_of_ble_eq_true rfl) rfl rfl rfl ?_
  exact g_le (lle_s (lle_k (lle_s (lle_0)))) (ok_HM_layCounts_l8 X Y σ2 h)

theorem dX9_layWorth_0 : decode cX9_layWorth 0 = .ok (.aload_n 0, 1) := by decide +kernel
theorem dX9_layWorth_1 : decode cX9_layWorth 1 = .ok (.getfield 192, 3) := by decide +kernel
theorem dX9_layWorth_4 : decode cX9_layWorth 4 = .ok (.iconst 1, 1) := by decide +kernel
theorem dX9_layWorth_5 : decode cX9_layWorth 5 = .ok (.isub, 1) := by decide +kernel
theorem dX9_layWorth_6 : decode cX9_layWorth 6 = .ok (.istore_n 2, 1) := by decide +kernel
theorem dX9_layWorth_7 : decode cX9_layWorth 7 = .ok (.iload_n 2, 1) := by decide +kernel
theorem dX9_layWorth_8 : decode cX9_layWorth 8 = .ok (.ifCond .lt 121, 3) := by decide +kernel
theorem dX9_layWorth_11 : decode cX9_layWorth 11 = .ok (.aload_n 0, 1) := by decide +kernel
theorem dX9_layWorth_12 : decode cX9_layWorth 12 = .ok (.getfield 22, 3) := by decide +kernel
theorem dX9_layWorth_15 : decode cX9_layWorth 15 = .ok (.iload_n 2, 1) := by decide +kernel
theorem dX9_layWorth_16 : decode cX9_layWorth 16 = .ok (.iaload, 1) := by decide +kernel
theorem dX9_layWorth_17 : decode cX9_layWorth 17 = .ok (.ifCond .ne 20, 3) := by decide +kernel
theorem dX9_layWorth_20 : decode cX9_layWorth 20 = .ok (.aload_n 0, 1) := by decide +kernel
theorem dX9_layWorth_21 : decode cX9_layWorth 21 = .ok (.getfield 25, 3) := by decide +kernel
theorem dX9_layWorth_24 : decode cX9_layWorth 24 = .ok (.iload_n 2, 1) := by decide +kernel
theorem dX9_layWorth_25 : decode cX9_layWorth 25 = .ok (.iaload, 1) := by decide +kernel
theorem dX9_layWorth_26 : decode cX9_layWorth 26 = .ok (.i2l, 1) := by decide +kernel
theorem dX9_layWorth_27 : decode cX9_layWorth 27 = .ok (.aload_n 0, 1) := by decide +kernel
theorem dX9_layWorth_28 : decode cX9_layWorth 28 = .ok (.getfield 77, 3) := by decide +kernel
theorem dX9_layWorth_31 : decode cX9_layWorth 31 = .ok (.iload_n 2, 1) := by decide +kernel
theorem dX9_layWorth_32 : decode cX9_layWorth 32 = .ok (.laload, 1) := by decide +kernel
theorem dX9_layWorth_33 : decode cX9_layWorth 33 = .ok (.lmul, 1) := by decide +kernel
theorem dX9_layWorth_34 : decode cX9_layWorth 34 = .ok (.goto 4, 3) := by decide +kernel
theorem dX9_layWorth_37 : decode cX9_layWorth 37 = .ok (.lconst 0, 1) := by decide +kernel
theorem dX9_layWorth_38 : decode cX9_layWorth 38 = .ok (.lstore_n 3, 1) := by decide +kernel
theorem dX9_layWorth_39 : decode cX9_layWorth 39 = .ok (.aload_n 0, 1) := by decide +kernel
theorem dX9_layWorth_40 : decode cX9_layWorth 40 = .ok (.iload_n 2, 1) := by decide +kernel
theorem dX9_layWorth_41 : decode cX9_layWorth 41 = .ok (.iload_n 1, 1) := by decide +kernel
theorem dX9_layWorth_42 : decode cX9_layWorth 42 = .ok (.invokevirtual 208, 3) := by decide +kernel
theorem dX9_layWorth_45 : decode cX9_layWorth 45 = .ok (.ifCond .eq 32, 3) := by decide +kernel
theorem dX9_layWorth_48 : decode cX9_layWorth 48 = .ok (.aload_n 0, 1) := by decide +kernel
theorem dX9_layWorth_49 : decode cX9_layWorth 49 = .ok (.getfield 83, 3) := by decide +kernel
theorem dX9_layWorth_52 : decode cX9_layWorth 52 = .ok (.aload_n 0, 1) := by decide +kernel
theorem dX9_layWorth_53 : decode cX9_layWorth 53 = .ok (.getfield 46, 3) := by decide +kernel
theorem dX9_layWorth_56 : decode cX9_layWorth 56 = .ok (.iconst 4, 1) := by decide +kernel
theorem dX9_layWorth_57 : decode cX9_layWorth 57 = .ok (.iload_n 2, 1) := by decide +kernel
theorem dX9_layWorth_58 : decode cX9_layWorth 58 = .ok (.imul, 1) := by decide +kernel
theorem dX9_layWorth_59 : decode cX9_layWorth 59 = .ok (.aload_n 0, 1) := by decide +kernel
theorem dX9_layWorth_60 : decode cX9_layWorth 60 = .ok (.getfield 86, 3) := by decide +kernel
theorem dX9_layWorth_63 : decode cX9_layWorth 63 = .ok (.aload_n 0, 1) := by decide +kernel
theorem dX9_layWorth_64 : decode cX9_layWorth 64 = .ok (.getfield 80, 3) := by decide +kernel
theorem dX9_layWorth_67 : decode cX9_layWorth 67 = .ok (.iload_n 2, 1) := by decide +kernel
theorem dX9_layWorth_68 : decode cX9_layWorth 68 = .ok (.iaload, 1) := by decide +kernel
theorem dX9_layWorth_69 : decode cX9_layWorth 69 = .ok (.iaload, 1) := by decide +kernel
theorem dX9_layWorth_70 : decode cX9_layWorth 70 = .ok (.iadd, 1) := by decide +kernel
theorem dX9_layWorth_71 : decode cX9_layWorth 71 = .ok (.iaload, 1) := by decide +kernel
theorem dX9_layWorth_72 : decode cX9_layWorth 72 = .ok (.laload, 1) := by decide +kernel
theorem dX9_layWorth_73 : decode cX9_layWorth 73 = .ok (.lstore_n 3, 1) := by decide +kernel
theorem dX9_layWorth_74 : decode cX9_layWorth 74 = .ok (.goto 42, 3) := by decide +kernel
theorem dX9_layWorth_77 : decode cX9_layWorth 77 = .ok (.iconst 0, 1) := by decide +kernel
theorem dX9_layWorth_78 : decode cX9_layWorth 78 = .ok (.istore 5, 2) := by decide +kernel
theorem dX9_layWorth_80 : decode cX9_layWorth 80 = .ok (.iload 5, 2) := by decide +kernel
theorem dX9_layWorth_82 : decode cX9_layWorth 82 = .ok (.aload_n 0, 1) := by decide +kernel
theorem dX9_layWorth_83 : decode cX9_layWorth 83 = .ok (.getfield 31, 3) := by decide +kernel
theorem dX9_layWorth_86 : decode cX9_layWorth 86 = .ok (.iload_n 2, 1) := by decide +kernel
theorem dX9_layWorth_87 : decode cX9_layWorth 87 = .ok (.iaload, 1) := by decide +kernel
theorem dX9_layWorth_88 : decode cX9_layWorth 88 = .ok (.if_icmp .ge 28, 3) := by decide +kernel
theorem dX9_layWorth_91 : decode cX9_layWorth 91 = .ok (.lload_n 3, 1) := by decide +kernel
theorem dX9_layWorth_92 : decode cX9_layWorth 92 = .ok (.aload_n 0, 1) := by decide +kernel
theorem dX9_layWorth_93 : decode cX9_layWorth 93 = .ok (.getfield 83, 3) := by decide +kernel
theorem dX9_layWorth_96 : decode cX9_layWorth 96 = .ok (.aload_n 0, 1) := by decide +kernel
theorem dX9_layWorth_97 : decode cX9_layWorth 97 = .ok (.getfield 46, 3) := by decide +kernel
theorem dX9_layWorth_100 : decode cX9_layWorth 100 = .ok (.iconst 4, 1) := by decide +kernel
theorem dX9_layWorth_101 : decode cX9_layWorth 101 = .ok (.iload_n 2, 1) := by decide +kernel
theorem dX9_layWorth_102 : decode cX9_layWorth 102 = .ok (.imul, 1) := by decide +kernel
theorem dX9_layWorth_103 : decode cX9_layWorth 103 = .ok (.iload 5, 2) := by decide +kernel
theorem dX9_layWorth_105 : decode cX9_layWorth 105 = .ok (.iadd, 1) := by decide +kernel
theorem dX9_layWorth_106 : decode cX9_layWorth 106 = .ok (.iaload, 1) := by decide +kernel
theorem dX9_layWorth_107 : decode cX9_layWorth 107 = .ok (.laload, 1) := by decide +kernel
theorem dX9_layWorth_108 : decode cX9_layWorth 108 = .ok (.ladd, 1) := by decide +kernel
theorem dX9_layWorth_109 : decode cX9_layWorth 109 = .ok (.lstore_n 3, 1) := by decide +kernel
theorem dX9_layWorth_110 : decode cX9_layWorth 110 = .ok (.iinc 5 1, 3) := by decide +kernel
theorem dX9_layWorth_113 : decode cX9_layWorth 113 = .ok (.goto (-33), 3) := by decide +kernel
theorem dX9_layWorth_116 : decode cX9_layWorth 116 = .ok (.aload_n 0, 1) := by decide +kernel
theorem dX9_layWorth_117 : decode cX9_layWorth 117 = .ok (.getfield 83, 3) := by decide +kernel
theorem dX9_layWorth_120 : decode cX9_layWorth 120 = .ok (.iload_n 2, 1) := by decide +kernel
theorem dX9_layWorth_121 : decode cX9_layWorth 121 = .ok (.lload_n 3, 1) := by decide +kernel
theorem dX9_layWorth_122 : decode cX9_layWorth 122 = .ok (.lastore, 1) := by decide +kernel
theorem dX9_layWorth_123 : decode cX9_layWorth 123 = .ok (.iinc 2 (-1), 3) := by decide +kernel
theorem dX9_layWorth_126 : decode cX9_layWorth 126 = .ok (.goto (-119), 3) := by decide +kernel
theorem dX9_layWorth_129 : decode cX9_layWorth 129 = .ok (.return_, 1) := by decide +kernel
def f_HM_layWorth_b116 (k7 : Int32 → Int32 → St → Option St) (x1 : Int32) (x2 : Int32) (x3 : Int64) (σ : St) : Option St :=
  ck (ib x2 60) <| lE (stL σ 87 x2.toNatClampNeg x3) fun σ2 => k7 x1 (x2 + (-1)) σ2
set_option maxRecDepth 4000 in
theorem ok_HM_layWorth_b116 {E : gE} {w : wT} {σ' : St} (X : gC E w cX9_layWorth 6 RX9 2) (Y : gQ E w none none σ') {k7 : Int32 → Int32 → St → Option St} (hk7 : ∀ (x1 : Int32) (x2 : Int32) (σ : St), k7 x1 x2 σ = some σ' → gW E w 6 σ 7 [some (.ref (w.1 9)), some (.int x1), some (.int x2)] []) {x1 : Int32} {x2 : Int32} {x3 : Int64} (σ : St) (h : f_HM_layWorth_b116 k7 x1 x2 x3 σ = some σ') : gW E w 6 σ 116 [some (.ref (w.1 9)), some (.int x1), some (.int x2), some (.long x3), none] [] := by
  unfold f_HM_layWorth_b116 at h
  refine g_aload_n X dX9_layWorth_116 rfl rfl ?_
  refine gf_RX9_83 X dX9_layWorth_117 rfl ?_
  refine g_iload_n X dX9_layWorth_120 rfl rfl ?_
  refine g_lload_n X dX9_layWorth_121 rfl rfl ?_
  obtain ⟨c1, h⟩ := ck_e h
  refine g_last X ar_87.1 ar_87.2.1 ar_87.2.2 (ib_e c1) dX9_layWorth_122 rfl (fun σ2 e3 => ?_)
  replace h := lE_c e3 h
  refine g_iinc X [some (.ref (w.1 9)), some (.int x1), some (.int (x2 + (-1))), some (.long x3), none] dX9_layWorth_123 rfl (ii_m1 x2) (Nat.le_of_ble_eq_true rfl) rfl rfl rfl ?_
  refine g_goto X dX9_layWorth_126 (tgt := 7) rfl ?_
  exact g_le (lle_s (lle_s (lle_s (lle_0)))) (hk7 x1 (x2 + (-1)) σ2 h)

def f_HM_layWorth_b80 (k7 : Int32 → Int32 → St → Option St) (k80 : Int32 → Int32 → Int64 → Int32 → St → Option St) (x1 : Int32) (x2 : Int32) (x3 : Int64) (x5 : Int32) (σ : St) : Option St :=
  ck (ib x2 120) <| if (rI σ 70 x2) ≤ x5 then (f_HM_layWorth_b116 k7 x1 x2 x3 σ) else (ck (ib ((4 * x2) + x5) 480) <| ck (ib (rI σ 75 ((4 * x2) + x5)) 60) <| k80 x1 x2 (x3 + (rL σ 87 (rI σ 75 ((4 * x2) + x5)))) (x5 + 1) σ)
set_option maxRecDepth 4000 in
theorem ok_HM_layWorth_b80 {E : gE} {w : wT} {σ' : St} (X : gC E w cX9_layWorth 6 RX9 2) (Y : gQ E w none none σ') {k7 : Int32 → Int32 → St → Option St} (hk7 : ∀ (x1 : Int32) (x2 : Int32) (σ : St), k7 x1 x2 σ = some σ' → gW E w 6 σ 7 [some (.ref (w.1 9)), some (.int x1), some (.int x2)] []) {k80 : Int32 → Int32 → Int64 → Int32 → St → Option St} (hk80 : ∀ (x1 : Int32) (x2 : Int32) (x3 : Int64) (x5 : Int32) (σ : St), k80 x1 x2 x3 x5 σ = some σ' → gW E w 6 σ 80 [some (.ref (w.1 9)), some (.int x1), some (.int x2), some (.long x3), none, some (.int x5)] []) {x1 : Int32} {x2 : Int32} {x3 : Int64} {x5 : Int32} (σ : St) (h : f_HM_layWorth_b80 k7 k80 x1 x2 x3 x5 σ = some σ') : gW E w 6 σ 80 [some (.ref (w.1 9)), some (.int x1), some (.int x2), some (.long x3), none, some (.int x5)] [] := by
  unfold f_HM_layWorth_b80 at h
  refine g_iload X dX9_layWorth_80 rfl rfl ?_
  refine g_aload_n X dX9_layWorth_82 rfl rfl ?_
  refine gf_RX9_31 X dX9_layWorth_83 rfl ?_
  refine g_iload_n X dX9_layWorth_86 rfl rfl ?_
  obtain ⟨c1, h⟩ := ck_e h
  refine g_iald X ar_70.1 ar_70.2.1 ar_70.2.2 (ib_e c1) dX9_layWorth_87 rfl ?_
  refine g_icmp_ge X dX9_layWorth_88 (tgt := 116) rfl rfl (fun c2 => ?_) (fun c2 => ?_)
  · replace h := if_t c2 h
    exact g_le (lle_s (lle_s (lle_s (lle_s (lle_k (lle_0)))))) (ok_HM_layWorth_b116 X Y hk7 σ h)
  · replace h := if_f c2 h
    refine g_lload_n X dX9_layWorth_91 rfl rfl ?_
    refine g_aload_n X dX9_layWorth_92 rfl rfl ?_
    refine gf_RX9_83 X dX9_layWorth_93 rfl ?_
    refine g_aload_n X dX9_layWorth_96 rfl rfl ?_
    refine gf_RX9_46 X dX9_layWorth_97 rfl ?_
    refine g_iconst X kI_4 dX9_layWorth_100 rfl ?_
    refine g_iload_n X dX9_layWorth_101 rfl rfl ?_
    refine g_imul X dX9_layWorth_102 rfl ?_
    refine g_iload X dX9_layWorth_103 rfl rfl ?_
    refine g_iadd X dX9_layWorth_105 rfl ?_
    obtain ⟨c3, h⟩ := ck_e h
    refine g_iald X ar_75.1 ar_75.2.1 ar_75.2.2 (ib_e c3) dX9_layWorth_106 rfl ?_
    obtain ⟨c4, h⟩ := ck_e h
    refine g_lald X ar_87.1 ar_87.2.1 ar_87.2.2 (ib_e c4) dX9_layWorth_107 rfl ?_
    refine g_ladd X dX9_layWorth_108 rfl ?_
    refine g_lstore_n X [some (.ref (w.1 9)), some (.int x1), some (.int x2), some (.long (x3 + (rL σ 87 (rI σ 75 ((4 * x2) + x5))))), none, some (.int x5)] dX9_layWorth_109 (Nat.le_of_ble_eq_true rfl) rfl rfl rfl ?_
    refine g_iinc X [some (.ref (w.1 9)), some (.int x1), some (.int x2), some (.long (x3 + (rL σ 87 (rI σ 75 ((4 * x2) + x5))))), none, some (.int (x5 + 1))] dX9_layWorth_110 rfl (ii_1 x5) (Nat.le_of_ble_eq_true rfl) rfl rfl rfl ?_
    refine g_goto X dX9_layWorth_113 (tgt := 80) rfl ?_
    exact hk80 x1 x2 (x3 + (rL σ 87 (rI σ 75 ((4 * x2) + x5)))) (x5 + 1) σ h
def f_HM_layWorth_l80 (k7 : Int32 → Int32 → St → Option St) : Int32 → Int32 → Int64 → Int32 → St → Option St := lp (fun _ _ _ _ _ => none) (f_HM_layWorth_b80 k7) FU
theorem ok_HM_layWorth_l80 {E : gE} {w : wT} {σ' : St} (X : gC E w cX9_layWorth 6 RX9 2) (Y : gQ E w none none σ') {k7 : Int32 → Int32 → St → Option St} (hk7 : ∀ (x1 : Int32) (x2 : Int32) (σ : St), k7 x1 x2 σ = some σ' → gW E w 6 σ 7 [some (.ref (w.1 9)), some (.int x1), some (.int x2)] []) {x1 : Int32} {x2 : Int32} {x3 : Int64} {x5 : Int32} (σ : St) (h : f_HM_layWorth_l80 k7 x1 x2 x3 x5 σ = some σ') : gW E w 6 σ 80 [some (.ref (w.1 9)), some (.int x1), some (.int x2), some (.long x3), none, some (.int x5)] [] :=
  lp_ind (P := fun (k : Int32 → Int32 → Int64 → Int32 → St → Option St) => ∀ (x1 : Int32) (x2 : Int32) (x3 : Int64) (x5 : Int32) (σ : St), k x1 x2 x3 x5 σ = some σ' → gW E w 6 σ 80 [some (.ref (w.1 9)), some (.int x1), some (.int x2), some (.long x3), none, some (.int x5)] []) (fun _ _ _ _ _ hh => nn hh) (fun k hk x1 x2 x3 x5 σ  hh => ok_HM_layWorth_b80 X Y hk7 hk σ hh) FU x1 x2 x3 x5 σ  h

def f_HM_layWorth_b38 (k7 : Int32 → Int32 → St → Option St) (x1 : Int32) (x2 : Int32) (xs0 : Int64) (σ : St) : Option St :=
  bd (f_HM_isOf x2 x1 σ) fun r3 σ2 => if r3 = 0 then (f_HM_layWorth_l80 k7 x1 x2 xs0 0 σ2) else (ck (ib x2 60) <| ck (ib (rI σ2 86 x2) 60) <| ck (ib ((4 * x2) + (rI σ2 88 (rI σ2 86 x2))) 480) <| ck (ib (rI σ2 75 ((4 * x2) + (rI σ2 88 (rI σ2 86 x2)))) 60) <| f_HM_layWorth_b116 k7 x1 x2 (rL σ2 87 (rI σ2 75 ((4 * x2) + (rI σ2 88 (rI σ2 86 x2))))) σ2)
set_option maxRecDepth 4000 in
theorem ok_HM_layWorth_b38 {E : gE} {w : wT} {σ' : St} (X : gC E w cX9_layWorth 6 RX9 2) (Y : gQ E w none none σ') {k7 : Int32 → Int32 → St → Option St} (hk7 : ∀ (x1 : Int32) (x2 : Int32) (σ : St), k7 x1 x2 σ = some σ' → gW E w 6 σ 7 [some (.ref (w.1 9)), some (.int x1), some (.int x2)] []) {x1 : Int32} {x2 : Int32} {xs0 : Int64} (σ : St) (h : f_HM_layWorth_b38 k7 x1 x2 xs0 σ = some σ') : gW E w 6 σ 38 [some (.ref (w.1 9)), some (.int x1), some (.int x2)] [.long xs0] := by
  unfold f_HM_layWorth_b38 at h
  refine g_lstore_n X [some (.ref (w.1 9)), some (.int x1), some (.int x2), some (.long xs0), none] dX9_layWorth_38 (Nat.le_of_ble_eq_true rfl) rfl rfl rfl ?_
  refine g_aload_n X dX9_layWorth_39 rfl rfl ?_
  refine g_iload_n X dX9_layWorth_40 rfl rfl ?_
  refine g_iload_n X dX9_layWorth_41 rfl rfl ?_
  obtain ⟨r3, σ2, h1, h⟩ := bd_e h
  refine g_callVI X [.int x2, .int x1] (ok_HM_isOf X.inj h1) my_yX9_isOf mi_yX9_isOf ms_yX9_isOf ml_RX9_208 (by decide) rfl rfl (by decide) rfl dX9_layWorth_42 (Nat.le_of_ble_eq_true rfl) rfl rfl ?_
  refine g_if_eq X dX9_layWorth_45 (tgt := 77) rfl rfl (fun c4 => ?_) (fun c4 => ?_)
  · replace h := if_t c4 h
    refine g_iconst X kI_0 dX9_layWorth_77 rfl ?_
    refine g_istore X [some (.ref (w.1 9)), some (.int x1), some (.int x2), some (.long xs0), none, some (.int 0)] dX9_layWorth_78 (Nat.le_of_ble_eq_true rfl) rfl rfl rfl ?_
    exact ok_HM_layWorth_l80 X Y hk7 σ2 h
  · replace h := if_f c4 h
    refine g_aload_n X dX9_layWorth_48 rfl rfl ?_
    refine gf_RX9_83 X dX9_layWorth_49 rfl ?_
    refine g_aload_n X dX9_layWorth_52 rfl rfl ?_
    refine gf_RX9_46 X dX9_layWorth_53 rfl ?_
    refine g_iconst X kI_4 dX9_layWorth_56 rfl ?_
    refine g_iload_n X dX9_layWorth_57 rfl rfl ?_
    refine g_imul X dX9_layWorth_58 rfl ?_
    refine g_aload_n X dX9_layWorth_59 rfl rfl ?_
    refine gf_RX9_86 X dX9_layWorth_60 rfl ?_
    refine g_aload_n X dX9_layWorth_63 rfl rfl ?_
    refine gf_RX9_80 X dX9_layWorth_64 rfl ?_
    refine g_iload_n X dX9_layWorth_67 rfl rfl ?_
    obtain ⟨c5, h⟩ := ck_e h
    refine g_iald X ar_86.1 ar_86.2.1 ar_86.2.2 (ib_e c5) dX9_layWorth_68 rfl ?_
    obtain ⟨c6, h⟩ := ck_e h
    refine g_iald X ar_88.1 ar_88.2.1 ar_88.2.2 (ib_e c6) dX9_layWorth_69 rfl ?_
    refine g_iadd X dX9_layWorth_70 rfl ?_
    obtain ⟨c7, h⟩ := ck_e h
    refine g_iald X ar_75.1 ar_75.2.1 ar_75.2.2 (ib_e c7) dX9_layWorth_71 rfl ?_
    obtain ⟨c8, h⟩ := ck_e h
    refine g_lald X ar_87.1 ar_87.2.1 ar_87.2.2 (ib_e c8) dX9_layWorth_72 rfl ?_
    refine g_lstore_n X [some (.ref (w.1 9)), some (.int x1), some (.int x2), some (.long (rL σ2 87 (rI σ2 75 ((4 * x2) + (rI σ2 88 (rI σ2 86 x2)))))), none] dX9_layWorth_73 (Nat.le_of_ble_eq_true rfl) rfl rfl rfl ?_
    refine g_goto X dX9_layWorth_74 (tgt := 116) rfl ?_
    exact ok_HM_layWorth_b116 X Y hk7 σ2 h

def f_HM_layWorth_b7 (k7 : Int32 → Int32 → St → Option St) (x1 : Int32) (x2 : Int32) (σ : St) : Option St :=
  if x2 < 0 then (some σ) else (ck (ib x2 120) <| if (rI σ 67 x2) = 0 then (ck (ib x2 120) <| ck (ib x2 60) <| f_HM_layWorth_b38 k7 x1 x2 (((rI σ 68 x2).toInt64) * (rL σ 85 x2)) σ) else (f_HM_layWorth_b38 k7 x1 x2 0 σ))
set_option maxRecDepth 4000 in
theorem ok_HM_layWorth_b7 {E : gE} {w : wT} {σ' : St} (X : gC E w cX9_layWorth 6 RX9 2) (Y : gQ E w none none σ') {k7 : Int32 → Int32 → St → Option St} (hk7 : ∀ (x1 : Int32) (x2 : Int32) (σ : St), k7 x1 x2 σ = some σ' → gW E w 6 σ 7 [some (.ref (w.1 9)), some (.int x1), some (.int x2)] []) {x1 : Int32} {x2 : Int32} (σ : St) (h : f_HM_layWorth_b7 k7 x1 x2 σ = some σ') : gW E w 6 σ 7 [some (.ref (w.1 9)), some (.int x1), some (.int x2)] [] := by
  unfold f_HM_layWorth_b7 at h
  refine g_iload_n X dX9_layWorth_7 rfl rfl ?_
  refine g_if_lt X dX9_layWorth_8 (tgt := 129) rfl rfl (fun c1 => ?_) (fun c1 => ?_)
  · replace h := if_t c1 h
    obtain rfl := rv_e h
    exact g_vret X Y dX9_layWorth_129
  · replace h := if_f c1 h
    refine g_aload_n X dX9_layWorth_11 rfl rfl ?_
    refine gf_RX9_22 X dX9_layWorth_12 rfl ?_
    refine g_iload_n X dX9_layWorth_15 rfl rfl ?_
    obtain ⟨c2, h⟩ := ck_e h
    refine g_iald X ar_67.1 ar_67.2.1 ar_67.2.2 (ib_e c2) dX9_layWorth_16 rfl ?_
    refine g_if_ne X dX9_layWorth_17 (tgt := 37) rfl rfl (fun c3 => ?_) (fun c3 => ?_)
    · replace h := if_f c3 h
      refine g_lconst X kL_0 dX9_layWorth_37 rfl ?_
      exact ok_HM_layWorth_b38 X Y hk7 σ h
    · replace h := if_t c3 h
      refine g_aload_n X dX9_layWorth_20 rfl rfl ?_
      refine gf_RX9_25 X dX9_layWorth_21 rfl ?_
      refine g_iload_n X dX9_layWorth_24 rfl rfl ?_
      obtain ⟨c4, h⟩ := ck_e h
      refine g_iald X ar_68.1 ar_68.2.1 ar_68.2.2 (ib_e c4) dX9_layWorth_25 rfl ?_
      refine g_i2l X dX9_layWorth_26 rfl ?_
      refine g_aload_n X dX9_layWorth_27 rfl rfl ?_
      refine gf_RX9_77 X dX9_layWorth_28 rfl ?_
      refine g_iload_n X dX9_layWorth_31 rfl rfl ?_
      obtain ⟨c5, h⟩ := ck_e h
      refine g_lald X ar_85.1 ar_85.2.1 ar_85.2.2 (ib_e c5) dX9_layWorth_32 rfl ?_
      refine g_lmul X dX9_layWorth_33 rfl ?_
      refine g_goto X dX9_layWorth_34 (tgt := 38) rfl ?_
      exact ok_HM_layWorth_b38 X Y hk7 σ h
def f_HM_layWorth_l7 : Int32 → Int32 → St → Option St := lp (fun _ _ _ => none) (f_HM_layWorth_b7) FU
theorem ok_HM_layWorth_l7 {E : gE} {w : wT} {σ' : St} (X : gC E w cX9_layWorth 6 RX9 2) (Y : gQ E w none none σ') {x1 : Int32} {x2 : Int32} (σ : St) (h : f_HM_layWorth_l7 x1 x2 σ = some σ') : gW E w 6 σ 7 [some (.ref (w.1 9)), some (.int x1), some (.int x2)] [] :=
  lp_ind (P := fun (k : Int32 → Int32 → St → Option St) => ∀ (x1 : Int32) (x2 : Int32) (σ : St), k x1 x2 σ = some σ' → gW E w 6 σ 7 [some (.ref (w.1 9)), some (.int x1), some (.int x2)] []) (fun _ _ _ hh => nn hh) (fun k hk x1 x2 σ  hh => ok_HM_layWorth_b7 X Y hk σ hh) FU x1 x2 σ  h

def f_HM_layWorth (x1 : Int32) (σ : St) : Option St :=
  f_HM_layWorth_l7 x1 ((rF σ 43) - 1) σ
set_option maxRecDepth 4000 in
theorem ok_HM_layWorth {w : wT} (hi : wInj w) {l : Launch} {x1 : Int32} {σ σ' : St} (h : f_HM_layWorth x1 σ = some σ') : gM w l yX9_layWorth cX9_layWorth 6 none 2 [.ref (w.1 9), .int x1] σ none σ' := by
  unfold f_HM_layWorth at h
  refine gM_of hi (by decide) [some (.ref (w.1 9)), some (.int x1)] rfl (Nat.le_of_ble_eq_true rfl) (fun E hl X Y => ?_)
  refine g_aload_n X dX9_layWorth_0 rfl rfl ?_
  refine gf_RX9_192 X dX9_layWorth_1 rfl ?_
  refine g_iconst X kI_1 dX9_layWorth_4 rfl ?_
  refine g_isub X dX9_layWorth_5 rfl ?_
  refine g_istore_n X [some (.ref (w.1 9)), some (.int x1), some (.int ((rF σ 43) - 1))] dX9_layWorth_6 (Nat.le_of_ble_eq_true rfl) rfl rfl rfl ?_
  exact ok_HM_layWorth_l7 X Y σ h

theorem dX9_ownDeep_0 : decode cX9_ownDeep 0 = .ok (.iconst 0, 1) := by decide +kernel
theorem dX9_ownDeep_1 : decode cX9_ownDeep 1 = .ok (.istore_n 3, 1) := by decide +kernel
theorem dX9_ownDeep_2 : decode cX9_ownDeep 2 = .ok (.aload_n 0, 1) := by decide +kernel
theorem dX9_ownDeep_3 : decode cX9_ownDeep 3 = .ok (.iload_n 1, 1) := by decide +kernel
theorem dX9_ownDeep_4 : decode cX9_ownDeep 4 = .ok (.iload_n 2, 1) := by decide +kernel
theorem dX9_ownDeep_5 : decode cX9_ownDeep 5 = .ok (.invokevirtual 212, 3) := by decide +kernel
theorem dX9_ownDeep_8 : decode cX9_ownDeep 8 = .ok (.istore 4, 2) := by decide +kernel
theorem dX9_ownDeep_10 : decode cX9_ownDeep 10 = .ok (.iload 4, 2) := by decide +kernel
theorem dX9_ownDeep_12 : decode cX9_ownDeep 12 = .ok (.ldc 163, 2) := by decide +kernel
theorem dX9_ownDeep_14 : decode cX9_ownDeep 14 = .ok (.if_icmp .eq 18, 3) := by decide +kernel
theorem dX9_ownDeep_17 : decode cX9_ownDeep 17 = .ok (.iinc 3 1, 3) := by decide +kernel
theorem dX9_ownDeep_20 : decode cX9_ownDeep 20 = .ok (.aload_n 0, 1) := by decide +kernel
theorem dX9_ownDeep_21 : decode cX9_ownDeep 21 = .ok (.iload 4, 2) := by decide +kernel
theorem dX9_ownDeep_23 : decode cX9_ownDeep 23 = .ok (.iload_n 2, 1) := by decide +kernel
theorem dX9_ownDeep_24 : decode cX9_ownDeep 24 = .ok (.invokevirtual 212, 3) := by decide +kernel
theorem dX9_ownDeep_27 : decode cX9_ownDeep 27 = .ok (.istore 4, 2) := by decide +kernel
theorem dX9_ownDeep_29 : decode cX9_ownDeep 29 = .ok (.goto (-19), 3) := by decide +kernel
theorem dX9_ownDeep_32 : decode cX9_ownDeep 32 = .ok (.iload_n 3, 1) := by decide +kernel
theorem dX9_ownDeep_33 : decode cX9_ownDeep 33 = .ok (.ireturn, 1) := by decide +kernel
def f_HM_ownDeep_b10 (k10 : Int32 → Int32 → Int32 → St → Option (Int32 × St)) (x2 : Int32) (x3 : Int32) (x4 : Int32) (σ : St) : Option (Int32 × St) :=
  if x4 = ((-1000000)) then (some (x3, σ)) else (bd (f_HM_ownAbove x4 x2 σ) fun r4 σ3 => k10 x2 (x3 + 1) r4 σ3)
set_option maxRecDepth 4000 in
theorem ok_HM_ownDeep_b10 {E : gE} {w : wT} {σ' : St} {r : Int32} (X : gC E w cX9_ownDeep 5 RX9 3) (Y : gQ E w (some .int) (some (.int r)) σ') {k10 : Int32 → Int32 → Int32 → St → Option (Int32 × St)} (hk10 : ∀ (x2 : Int32) (x3 : Int32) (x4 : Int32) (σ : St), k10 x2 x3 x4 σ = some (r, σ') → gW E w 5 σ 10 [some (.ref (w.1 9)), none, some (.int x2), some (.int x3), some (.int x4)] []) {x2 : Int32} {x3 : Int32} {x4 : Int32} (σ : St) (h : f_HM_ownDeep_b10 k10 x2 x3 x4 σ = some (r, σ')) : gW E w 5 σ 10 [some (.ref (w.1 9)), none, some (.int x2), some (.int x3), some (.int x4)] [] := by
  unfold f_HM_ownDeep_b10 at h
  refine g_iload X dX9_ownDeep_10 rfl rfl ?_
  refine g_ldc X dX9_ownDeep_12 kc_RX9_163 rfl ?_
  refine g_icmp_eq X dX9_ownDeep_14 (tgt := 32) rfl rfl (fun c1 => ?_) (fun c1 => ?_)
  · replace h := if_t c1 h
    refine g_iload_n X dX9_ownDeep_32 rfl rfl ?_
    obtain ⟨rfl, rfl⟩ := rt_e h
    exact g_iret X Y dX9_ownDeep_33
  · replace h := if_f c1 h
    refine g_iinc X [some (.ref (w.1 9)), none, some (.int x2), some (.int (x3 + 1)), some (.int x4)] dX9_ownDeep_17 rfl (ii_1 x3) (Nat.le_of_ble_eq_true rfl) rfl rfl rfl ?_
    refine g_aload_n X dX9_ownDeep_20 rfl rfl ?_
    refine g_iload X dX9_ownDeep_21 rfl rfl ?_
    refine g_iload_n X dX9_ownDeep_23 rfl rfl ?_
    obtain ⟨r4, σ3, h2, h⟩ := bd_e h
    refine g_callVI X [.int x4, .int x2] (ok_HM_ownAbove X.inj h2) my_yX9_ownAbove mi_yX9_ownAbove ms_yX9_ownAbove ml_RX9_212 (by decide) rfl rfl (by decide) rfl dX9_ownDeep_24 (Nat.le_of_ble_eq_true rfl) rfl rfl ?_
    refine g_istore X [some (.ref (w.1 9)), none, some (.int x2), some (.int (x3 + 1)), some (.int r4)] dX9_ownDeep_27 (Nat.le_of_ble_eq_true rfl) rfl rfl rfl ?_
    refine g_goto X dX9_ownDeep_29 (tgt := 10) rfl ?_
    exact hk10 x2 (x3 + 1) r4 σ3 h
def f_HM_ownDeep_l10 : Int32 → Int32 → Int32 → St → Option (Int32 × St) := lp (fun _ _ _ _ => none) (f_HM_ownDeep_b10) FU
theorem ok_HM_ownDeep_l10 {E : gE} {w : wT} {σ' : St} {r : Int32} (X : gC E w cX9_ownDeep 5 RX9 3) (Y : gQ E w (some .int) (some (.int r)) σ') {x2 : Int32} {x3 : Int32} {x4 : Int32} (σ : St) (h : f_HM_ownDeep_l10 x2 x3 x4 σ = some (r, σ')) : gW E w 5 σ 10 [some (.ref (w.1 9)), none, some (.int x2), some (.int x3), some (.int x4)] [] :=
  lp_ind (P := fun (k : Int32 → Int32 → Int32 → St → Option (Int32 × St)) => ∀ (x2 : Int32) (x3 : Int32) (x4 : Int32) (σ : St), k x2 x3 x4 σ = some (r, σ') → gW E w 5 σ 10 [some (.ref (w.1 9)), none, some (.int x2), some (.int x3), some (.int x4)] []) (fun _ _ _ _ hh => nn hh) (fun k hk x2 x3 x4 σ  hh => ok_HM_ownDeep_b10 X Y hk σ hh) FU x2 x3 x4 σ  h

def f_HM_ownDeep (x1 : Int32) (x2 : Int32) (σ : St) : Option (Int32 × St) :=
  bd (f_HM_ownAbove x1 x2 σ) fun r3 σ2 => f_HM_ownDeep_l10 x2 0 r3 σ2
set_option maxRecDepth 4000 in
theorem ok_HM_ownDeep {w : wT} (hi : wInj w) {l : Launch} {x1 : Int32} {x2 : Int32} {σ σ' : St} {r : Int32} (h : f_HM_ownDeep x1 x2 σ = some (r, σ')) : gM w l yX9_ownDeep cX9_ownDeep 5 (some .int) 3 [.ref (w.1 9), .int x1, .int x2] σ (some (.int r)) σ' := by
  unfold f_HM_ownDeep at h
  refine gM_of hi (by decide) [some (.ref (w.1 9)), some (.int x1), some (.int x2)] rfl (Nat.le_of_ble_eq_true rfl) (fun E hl X Y => ?_)
  refine g_iconst X kI_0 dX9_ownDeep_0 rfl ?_
  refine g_istore_n X [some (.ref (w.1 9)), some (.int x1), some (.int x2), some (.int 0)] dX9_ownDeep_1 (Nat.le_of_ble_eq_true rfl) rfl rfl rfl ?_
  refine g_aload_n X dX9_ownDeep_2 rfl rfl ?_
  refine g_iload_n X dX9_ownDeep_3 rfl rfl ?_
  refine g_iload_n X dX9_ownDeep_4 rfl rfl ?_
  obtain ⟨r3, σ2, h1, h⟩ := bd_e h
  refine g_callVI X [.int x1, .int x2] (ok_HM_ownAbove X.inj h1) my_yX9_ownAbove mi_yX9_ownAbove ms_yX9_ownAbove ml_RX9_212 (by decide) rfl rfl (by decide) rfl dX9_ownDeep_5 (Nat.le_of_ble_eq_true rfl) rfl rfl ?_
  refine g_istore X [some (.ref (w.1 9)), some (.int x1), some (.int x2), some (.int 0), some (.int r3)] dX9_ownDeep_8 (Nat.le_of_ble_eq_true rfl) rfl rfl rfl ?_
  exact g_le (lle_s (lle_k (lle_s (lle_s (lle_s (lle_0)))))) (ok_HM_ownDeep_l10 X Y σ2 h)

theorem dX9_worthOf_0 : decode cX9_worthOf 0 = .ok (.lconst 0, 1) := by decide +kernel
theorem dX9_worthOf_1 : decode cX9_worthOf 1 = .ok (.lstore 4, 2) := by decide +kernel
theorem dX9_worthOf_3 : decode cX9_worthOf 3 = .ok (.iconst 0, 1) := by decide +kernel
theorem dX9_worthOf_4 : decode cX9_worthOf 4 = .ok (.istore 6, 2) := by decide +kernel
theorem dX9_worthOf_6 : decode cX9_worthOf 6 = .ok (.iload 6, 2) := by decide +kernel
theorem dX9_worthOf_8 : decode cX9_worthOf 8 = .ok (.aload_n 0, 1) := by decide +kernel
theorem dX9_worthOf_9 : decode cX9_worthOf 9 = .ok (.getfield 192, 3) := by decide +kernel
theorem dX9_worthOf_12 : decode cX9_worthOf 12 = .ok (.if_icmp .ge 55, 3) := by decide +kernel
theorem dX9_worthOf_15 : decode cX9_worthOf 15 = .ok (.lload 4, 2) := by decide +kernel
theorem dX9_worthOf_17 : decode cX9_worthOf 17 = .ok (.aload_n 0, 1) := by decide +kernel
theorem dX9_worthOf_18 : decode cX9_worthOf 18 = .ok (.iload 6, 2) := by decide +kernel
theorem dX9_worthOf_20 : decode cX9_worthOf 20 = .ok (.iload_n 3, 1) := by decide +kernel
theorem dX9_worthOf_21 : decode cX9_worthOf 21 = .ok (.invokevirtual 208, 3) := by decide +kernel
theorem dX9_worthOf_24 : decode cX9_worthOf 24 = .ok (.ifCond .eq 33, 3) := by decide +kernel
theorem dX9_worthOf_27 : decode cX9_worthOf 27 = .ok (.aload_n 0, 1) := by decide +kernel
theorem dX9_worthOf_28 : decode cX9_worthOf 28 = .ok (.getfield 80, 3) := by decide +kernel
theorem dX9_worthOf_31 : decode cX9_worthOf 31 = .ok (.iload 6, 2) := by decide +kernel
theorem dX9_worthOf_33 : decode cX9_worthOf 33 = .ok (.iaload, 1) := by decide +kernel
theorem dX9_worthOf_34 : decode cX9_worthOf 34 = .ok (.iload_n 1, 1) := by decide +kernel
theorem dX9_worthOf_35 : decode cX9_worthOf 35 = .ok (.if_icmp .ne 22, 3) := by decide +kernel
theorem dX9_worthOf_38 : decode cX9_worthOf 38 = .ok (.aload_n 0, 1) := by decide +kernel
theorem dX9_worthOf_39 : decode cX9_worthOf 39 = .ok (.getfield 83, 3) := by decide +kernel
theorem dX9_worthOf_42 : decode cX9_worthOf 42 = .ok (.aload_n 0, 1) := by decide +kernel
theorem dX9_worthOf_43 : decode cX9_worthOf 43 = .ok (.getfield 46, 3) := by decide +kernel
theorem dX9_worthOf_46 : decode cX9_worthOf 46 = .ok (.iconst 4, 1) := by decide +kernel
theorem dX9_worthOf_47 : decode cX9_worthOf 47 = .ok (.iload 6, 2) := by decide +kernel
theorem dX9_worthOf_49 : decode cX9_worthOf 49 = .ok (.imul, 1) := by decide +kernel
theorem dX9_worthOf_50 : decode cX9_worthOf 50 = .ok (.iload_n 2, 1) := by decide +kernel
theorem dX9_worthOf_51 : decode cX9_worthOf 51 = .ok (.iadd, 1) := by decide +kernel
theorem dX9_worthOf_52 : decode cX9_worthOf 52 = .ok (.iaload, 1) := by decide +kernel
theorem dX9_worthOf_53 : decode cX9_worthOf 53 = .ok (.laload, 1) := by decide +kernel
theorem dX9_worthOf_54 : decode cX9_worthOf 54 = .ok (.goto 4, 3) := by decide +kernel
theorem dX9_worthOf_57 : decode cX9_worthOf 57 = .ok (.lconst 0, 1) := by decide +kernel
theorem dX9_worthOf_58 : decode cX9_worthOf 58 = .ok (.ladd, 1) := by decide +kernel
theorem dX9_worthOf_59 : decode cX9_worthOf 59 = .ok (.lstore 4, 2) := by decide +kernel
theorem dX9_worthOf_61 : decode cX9_worthOf 61 = .ok (.iinc 6 1, 3) := by decide +kernel
theorem dX9_worthOf_64 : decode cX9_worthOf 64 = .ok (.goto (-58), 3) := by decide +kernel
theorem dX9_worthOf_67 : decode cX9_worthOf 67 = .ok (.lload 4, 2) := by decide +kernel
theorem dX9_worthOf_69 : decode cX9_worthOf 69 = .ok (.lreturn, 1) := by decide +kernel
def f_HM_worthOf_b58 (k6 : Int32 → Int32 → Int32 → Int64 → Int32 → St → Option (Int64 × St)) (x1 : Int32) (x2 : Int32) (x3 : Int32) (x6 : Int32) (xs0 : Int64) (xs1 : Int64) (σ : St) : Option (Int64 × St) :=
  k6 x1 x2 x3 (xs0 + xs1) (x6 + 1) σ
set_option maxRecDepth 4000 in
theorem ok_HM_worthOf_b58 {E : gE} {w : wT} {σ' : St} {r : Int64} (X : gC E w cX9_worthOf 7 RX9 2) (Y : gQ E w (some .long) (some (.long r)) σ') {k6 : Int32 → Int32 → Int32 → Int64 → Int32 → St → Option (Int64 × St)} (hk6 : ∀ (x1 : Int32) (x2 : Int32) (x3 : Int32) (x4 : Int64) (x6 : Int32) (σ : St), k6 x1 x2 x3 x4 x6 σ = some (r, σ') → gW E w 7 σ 6 [some (.ref (w.1 9)), some (.int x1), some (.int x2), some (.int x3), some (.long x4), none, some (.int x6)] []) {x1 : Int32} {x2 : Int32} {x3 : Int32} {x6 : Int32} {xs0 : Int64} {xs1 : Int64} (σ : St) (h : f_HM_worthOf_b58 k6 x1 x2 x3 x6 xs0 xs1 σ = some (r, σ')) : gW E w 7 σ 58 [some (.ref (w.1 9)), some (.int x1), some (.int x2), some (.int x3), none, none, some (.int x6)] [.long xs1, .long xs0] := by
  unfold f_HM_worthOf_b58 at h
  refine g_ladd X dX9_worthOf_58 rfl ?_
  refine g_lstore X [some (.ref (w.1 9)), some (.int x1), some (.int x2), some (.int x3), some (.long (xs0 + xs1)), none, some (.int x6)] dX9_worthOf_59 (Nat.le_of_ble_eq_true rfl) rfl rfl rfl ?_
  refine g_iinc X [some (.ref (w.1 9)), some (.int x1), some (.int x2), some (.int x3), some (.long (xs0 + xs1)), none, some (.int (x6 + 1))] dX9_worthOf_61 rfl (ii_1 x6) (Nat.le_of_ble_eq_true rfl) rfl rfl rfl ?_
  refine g_goto X dX9_worthOf_64 (tgt := 6) rfl ?_
  exact hk6 x1 x2 x3 (xs0 + xs1) (x6 + 1) σ h

def f_HM_worthOf_b57 (k6 : Int32 → Int32 → Int32 → Int64 → Int32 → St → Option (Int64 × St)) (x1 : Int32) (x2 : Int32) (x3 : Int32) (x6 : Int32) (xs0 : Int64) (σ : St) : Option (Int64 × St) :=
  f_HM_worthOf_b58 k6 x1 x2 x3 x6 xs0 0 σ
set_option maxRecDepth 4000 in
theorem ok_HM_worthOf_b57 {E : gE} {w : wT} {σ' : St} {r : Int64} (X : gC E w cX9_worthOf 7 RX9 2) (Y : gQ E w (some .long) (some (.long r)) σ') {k6 : Int32 → Int32 → Int32 → Int64 → Int32 → St → Option (Int64 × St)} (hk6 : ∀ (x1 : Int32) (x2 : Int32) (x3 : Int32) (x4 : Int64) (x6 : Int32) (σ : St), k6 x1 x2 x3 x4 x6 σ = some (r, σ') → gW E w 7 σ 6 [some (.ref (w.1 9)), some (.int x1), some (.int x2), some (.int x3), some (.long x4), none, some (.int x6)] []) {x1 : Int32} {x2 : Int32} {x3 : Int32} {x6 : Int32} {xs0 : Int64} (σ : St) (h : f_HM_worthOf_b57 k6 x1 x2 x3 x6 xs0 σ = some (r, σ')) : gW E w 7 σ 57 [some (.ref (w.1 9)), some (.int x1), some (.int x2), some (.int x3), none, none, some (.int x6)] [.long xs0] := by
  unfold f_HM_worthOf_b57 at h
  refine g_lconst X kL_0 dX9_worthOf_57 rfl ?_
  exact ok_HM_worthOf_b58 X Y hk6 σ h

def f_HM_worthOf_b6 (k6 : Int32 → Int32 → Int32 → Int64 → Int32 → St → Option (Int64 × St)) (x1 : Int32) (x2 : Int32) (x3 : Int32) (x4 : Int64) (x6 : Int32) (σ : St) : Option (Int64 × St) :=
  if (rF σ 43) ≤ x6 then (some (x4, σ)) else (bd (f_HM_isOf x6 x3 σ) fun r4 σ3 => if r4 = 0 then (f_HM_worthOf_b57 k6 x1 x2 x3 x6 x4 σ3) else (ck (ib x6 60) <| if (rI σ3 86 x6) = x1 then (ck (ib ((4 * x6) + x2) 480) <| ck (ib (rI σ3 75 ((4 * x6) + x2)) 60) <| f_HM_worthOf_b58 k6 x1 x2 x3 x6 x4 (rL σ3 87 (rI σ3 75 ((4 * x6) + x2))) σ3) else (f_HM_worthOf_b57 k6 x1 x2 x3 x6 x4 σ3)))
set_option maxRecDepth 4000 in
theorem ok_HM_worthOf_b6 {E : gE} {w : wT} {σ' : St} {r : Int64} (X : gC E w cX9_worthOf 7 RX9 2) (Y : gQ E w (some .long) (some (.long r)) σ') {k6 : Int32 → Int32 → Int32 → Int64 → Int32 → St → Option (Int64 × St)} (hk6 : ∀ (x1 : Int32) (x2 : Int32) (x3 : Int32) (x4 : Int64) (x6 : Int32) (σ : St), k6 x1 x2 x3 x4 x6 σ = some (r, σ') → gW E w 7 σ 6 [some (.ref (w.1 9)), some (.int x1), some (.int x2), some (.int x3), some (.long x4), none, some (.int x6)] []) {x1 : Int32} {x2 : Int32} {x3 : Int32} {x4 : Int64} {x6 : Int32} (σ : St) (h : f_HM_worthOf_b6 k6 x1 x2 x3 x4 x6 σ = some (r, σ')) : gW E w 7 σ 6 [some (.ref (w.1 9)), some (.int x1), some (.int x2), some (.int x3), some (.long x4), none, some (.int x6)] [] := by
  unfold f_HM_worthOf_b6 at h
  refine g_iload X dX9_worthOf_6 rfl rfl ?_
  refine g_aload_n X dX9_worthOf_8 rfl rfl ?_
  refine gf_RX9_192 X dX9_worthOf_9 rfl ?_
  refine g_icmp_ge X dX9_worthOf_12 (tgt := 67) rfl rfl (fun c1 => ?_) (fun c1 => ?_)
  · replace h := if_t c1 h
    refine g_lload X dX9_worthOf_67 rfl rfl ?_
    obtain ⟨rfl, rfl⟩ := rt_e h
    exact g_lret X Y dX9_worthOf_69
  · replace h := if_f c1 h
    refine g_lload X dX9_worthOf_15 rfl rfl ?_
    refine g_aload_n X dX9_worthOf_17 rfl rfl ?_
    refine g_iload X dX9_worthOf_18 rfl rfl ?_
    refine g_iload_n X dX9_worthOf_20 rfl rfl ?_
    obtain ⟨r4, σ3, h2, h⟩ := bd_e h
    refine g_callVI X [.int x6, .int x3] (ok_HM_isOf X.inj h2) my_yX9_isOf mi_yX9_isOf ms_yX9_isOf ml_RX9_208 (by decide) rfl rfl (by decide) rfl dX9_worthOf_21 (Nat.le_of_ble_eq_true rfl) rfl rfl ?_
    refine g_if_eq X dX9_worthOf_24 (tgt := 57) rfl rfl (fun c5 => ?_) (fun c5 => ?_)
    · replace h := if_t c5 h
      exact g_le (lle_s (lle_s (lle_s (lle_s (lle_k (lle_k (lle_s (lle_0)))))))) (ok_HM_worthOf_b57 X Y hk6 σ3 h)
    · replace h := if_f c5 h
      refine g_aload_n X dX9_worthOf_27 rfl rfl ?_
      refine gf_RX9_80 X dX9_worthOf_28 rfl ?_
      refine g_iload X dX9_worthOf_31 rfl rfl ?_
      obtain ⟨c6, h⟩ := ck_e h
      refine g_iald X ar_86.1 ar_86.2.1 ar_86.2.2 (ib_e c6) dX9_worthOf_33 rfl ?_
      refine g_iload_n X dX9_worthOf_34 rfl rfl ?_
      refine g_icmp_ne X dX9_worthOf_35 (tgt := 57) rfl rfl (fun c7 => ?_) (fun c7 => ?_)
      · replace h := if_f c7 h
        exact g_le (lle_s (lle_s (lle_s (lle_s (lle_k (lle_k (lle_s (lle_0)))))))) (ok_HM_worthOf_b57 X Y hk6 σ3 h)
      · replace h := if_t c7 h
        refine g_aload_n X dX9_worthOf_38 rfl rfl ?_
        refine gf_RX9_83 X dX9_worthOf_39 rfl ?_
        refine g_aload_n X dX9_worthOf_42 rfl rfl ?_
        refine gf_RX9_46 X dX9_worthOf_43 rfl ?_
        refine g_iconst X kI_4 dX9_worthOf_46 rfl ?_
        refine g_iload X dX9_worthOf_47 rfl rfl ?_
        refine g_imul X dX9_worthOf_49 rfl ?_
        refine g_iload_n X dX9_worthOf_50 rfl rfl ?_
        refine g_iadd X dX9_worthOf_51 rfl ?_
        obtain ⟨c8, h⟩ := ck_e h
        refine g_iald X ar_75.1 ar_75.2.1 ar_75.2.2 (ib_e c8) dX9_worthOf_52 rfl ?_
        obtain ⟨c9, h⟩ := ck_e h
        refine g_lald X ar_87.1 ar_87.2.1 ar_87.2.2 (ib_e c9) dX9_worthOf_53 rfl ?_
        refine g_goto X dX9_worthOf_54 (tgt := 58) rfl ?_
        exact g_le (lle_s (lle_s (lle_s (lle_s (lle_k (lle_k (lle_s (lle_0)))))))) (ok_HM_worthOf_b58 X Y hk6 σ3 h)
def f_HM_worthOf_l6 : Int32 → Int32 → Int32 → Int64 → Int32 → St → Option (Int64 × St) := lp (fun _ _ _ _ _ _ => none) (f_HM_worthOf_b6) FU
theorem ok_HM_worthOf_l6 {E : gE} {w : wT} {σ' : St} {r : Int64} (X : gC E w cX9_worthOf 7 RX9 2) (Y : gQ E w (some .long) (some (.long r)) σ') {x1 : Int32} {x2 : Int32} {x3 : Int32} {x4 : Int64} {x6 : Int32} (σ : St) (h : f_HM_worthOf_l6 x1 x2 x3 x4 x6 σ = some (r, σ')) : gW E w 7 σ 6 [some (.ref (w.1 9)), some (.int x1), some (.int x2), some (.int x3), some (.long x4), none, some (.int x6)] [] :=
  lp_ind (P := fun (k : Int32 → Int32 → Int32 → Int64 → Int32 → St → Option (Int64 × St)) => ∀ (x1 : Int32) (x2 : Int32) (x3 : Int32) (x4 : Int64) (x6 : Int32) (σ : St), k x1 x2 x3 x4 x6 σ = some (r, σ') → gW E w 7 σ 6 [some (.ref (w.1 9)), some (.int x1), some (.int x2), some (.int x3), some (.long x4), none, some (.int x6)] []) (fun _ _ _ _ _ _ hh => nn hh) (fun k hk x1 x2 x3 x4 x6 σ  hh => ok_HM_worthOf_b6 X Y hk σ hh) FU x1 x2 x3 x4 x6 σ  h

def f_HM_worthOf (x1 : Int32) (x2 : Int32) (x3 : Int32) (σ : St) : Option (Int64 × St) :=
  f_HM_worthOf_l6 x1 x2 x3 0 0 σ
set_option maxRecDepth 4000 in
theorem ok_HM_worthOf {w : wT} (hi : wInj w) {l : Launch} {x1 : Int32} {x2 : Int32} {x3 : Int32} {σ σ' : St} {r : Int64} (h : f_HM_worthOf x1 x2 x3 σ = some (r, σ')) : gM w l yX9_worthOf cX9_worthOf 7 (some .long) 2 [.ref (w.1 9), .int x1, .int x2, .int x3] σ (some (.long r)) σ' := by
  unfold f_HM_worthOf at h
  refine gM_of hi (by decide) [some (.ref (w.1 9)), some (.int x1), some (.int x2), some (.int x3)] rfl (Nat.le_of_ble_eq_true rfl) (fun E hl X Y => ?_)
  refine g_lconst X kL_0 dX9_worthOf_0 rfl ?_
  refine g_lstore X [some (.ref (w.1 9)), some (.int x1), some (.int x2), some (.int x3), some (.long 0), none] dX9_worthOf_1 (Nat.le_of_ble_eq_true rfl) rfl rfl rfl ?_
  refine g_iconst X kI_0 dX9_worthOf_3 rfl ?_
  refine g_istore X [some (.ref (w.1 9)), some (.int x1), some (.int x2), some (.int x3), some (.long 0), none, some (.int 0)] dX9_worthOf_4 (Nat.le_of_ble_eq_true rfl) rfl rfl rfl ?_
  exact ok_HM_worthOf_l6 X Y σ h

theorem dX9_bestAct_0 : decode cX9_bestAct 0 = .ok (.iconst (-1), 1) := by decide +kernel
theorem dX9_bestAct_1 : decode cX9_bestAct 1 = .ok (.istore 4, 2) := by decide +kernel
theorem dX9_bestAct_3 : decode cX9_bestAct 3 = .ok (.iconst 0, 1) := by decide +kernel
theorem dX9_bestAct_4 : decode cX9_bestAct 4 = .ok (.istore 5, 2) := by decide +kernel
theorem dX9_bestAct_6 : decode cX9_bestAct 6 = .ok (.iload 5, 2) := by decide +kernel
theorem dX9_bestAct_8 : decode cX9_bestAct 8 = .ok (.aload_n 0, 1) := by decide +kernel
theorem dX9_bestAct_9 : decode cX9_bestAct 9 = .ok (.getfield 52, 3) := by decide +kernel
theorem dX9_bestAct_12 : decode cX9_bestAct 12 = .ok (.iload_n 2, 1) := by decide +kernel
theorem dX9_bestAct_13 : decode cX9_bestAct 13 = .ok (.iaload, 1) := by decide +kernel
theorem dX9_bestAct_14 : decode cX9_bestAct 14 = .ok (.if_icmp .ge 89, 3) := by decide +kernel
theorem dX9_bestAct_17 : decode cX9_bestAct 17 = .ok (.iload_n 2, 1) := by decide +kernel
theorem dX9_bestAct_18 : decode cX9_bestAct 18 = .ok (.aload_n 0, 1) := by decide +kernel
theorem dX9_bestAct_19 : decode cX9_bestAct 19 = .ok (.getfield 246, 3) := by decide +kernel
theorem dX9_bestAct_22 : decode cX9_bestAct 22 = .ok (.if_icmp .ne 12, 3) := by decide +kernel
theorem dX9_bestAct_25 : decode cX9_bestAct 25 = .ok (.iload 5, 2) := by decide +kernel
theorem dX9_bestAct_27 : decode cX9_bestAct 27 = .ok (.aload_n 0, 1) := by decide +kernel
theorem dX9_bestAct_28 : decode cX9_bestAct 28 = .ok (.getfield 249, 3) := by decide +kernel
theorem dX9_bestAct_31 : decode cX9_bestAct 31 = .ok (.if_icmp .eq 66, 3) := by decide +kernel
theorem dX9_bestAct_34 : decode cX9_bestAct 34 = .ok (.iload 4, 2) := by decide +kernel
theorem dX9_bestAct_36 : decode cX9_bestAct 36 = .ok (.ifCond .ge 7, 3) := by decide +kernel
theorem dX9_bestAct_39 : decode cX9_bestAct 39 = .ok (.lconst 1, 1) := by decide +kernel
theorem dX9_bestAct_40 : decode cX9_bestAct 40 = .ok (.goto 20, 3) := by decide +kernel
theorem dX9_bestAct_43 : decode cX9_bestAct 43 = .ok (.aload_n 0, 1) := by decide +kernel
theorem dX9_bestAct_44 : decode cX9_bestAct 44 = .ok (.iload_n 1, 1) := by decide +kernel
theorem dX9_bestAct_45 : decode cX9_bestAct 45 = .ok (.iload 5, 2) := by decide +kernel
theorem dX9_bestAct_47 : decode cX9_bestAct 47 = .ok (.iload_n 3, 1) := by decide +kernel
theorem dX9_bestAct_48 : decode cX9_bestAct 48 = .ok (.invokevirtual 252, 3) := by decide +kernel
theorem dX9_bestAct_51 : decode cX9_bestAct 51 = .ok (.aload_n 0, 1) := by decide +kernel
theorem dX9_bestAct_52 : decode cX9_bestAct 52 = .ok (.iload_n 1, 1) := by decide +kernel
theorem dX9_bestAct_53 : decode cX9_bestAct 53 = .ok (.iload 4, 2) := by decide +kernel
theorem dX9_bestAct_55 : decode cX9_bestAct 55 = .ok (.iload_n 3, 1) := by decide +kernel
theorem dX9_bestAct_56 : decode cX9_bestAct 56 = .ok (.invokevirtual 252, 3) := by decide +kernel
theorem dX9_bestAct_59 : decode cX9_bestAct 59 = .ok (.lsub, 1) := by decide +kernel
theorem dX9_bestAct_60 : decode cX9_bestAct 60 = .ok (.lstore 6, 2) := by decide +kernel
theorem dX9_bestAct_62 : decode cX9_bestAct 62 = .ok (.iload 4, 2) := by decide +kernel
theorem dX9_bestAct_64 : decode cX9_bestAct 64 = .ok (.ifCond .lt 24, 3) := by decide +kernel
theorem dX9_bestAct_67 : decode cX9_bestAct 67 = .ok (.iload_n 3, 1) := by decide +kernel
theorem dX9_bestAct_68 : decode cX9_bestAct 68 = .ok (.ifCond .ne 13, 3) := by decide +kernel
theorem dX9_bestAct_71 : decode cX9_bestAct 71 = .ok (.lload 6, 2) := by decide +kernel
theorem dX9_bestAct_73 : decode cX9_bestAct 73 = .ok (.lconst 0, 1) := by decide +kernel
theorem dX9_bestAct_74 : decode cX9_bestAct 74 = .ok (.lcmp, 1) := by decide +kernel
theorem dX9_bestAct_75 : decode cX9_bestAct 75 = .ok (.ifCond .le 18, 3) := by decide +kernel
theorem dX9_bestAct_78 : decode cX9_bestAct 78 = .ok (.goto 10, 3) := by decide +kernel
theorem dX9_bestAct_81 : decode cX9_bestAct 81 = .ok (.lload 6, 2) := by decide +kernel
theorem dX9_bestAct_83 : decode cX9_bestAct 83 = .ok (.lconst 0, 1) := by decide +kernel
theorem dX9_bestAct_84 : decode cX9_bestAct 84 = .ok (.lcmp, 1) := by decide +kernel
theorem dX9_bestAct_85 : decode cX9_bestAct 85 = .ok (.ifCond .ge 8, 3) := by decide +kernel
theorem dX9_bestAct_88 : decode cX9_bestAct 88 = .ok (.iload 5, 2) := by decide +kernel
theorem dX9_bestAct_90 : decode cX9_bestAct 90 = .ok (.goto 5, 3) := by decide +kernel
theorem dX9_bestAct_93 : decode cX9_bestAct 93 = .ok (.iload 4, 2) := by decide +kernel
theorem dX9_bestAct_95 : decode cX9_bestAct 95 = .ok (.istore 4, 2) := by decide +kernel
theorem dX9_bestAct_97 : decode cX9_bestAct 97 = .ok (.iinc 5 1, 3) := by decide +kernel
theorem dX9_bestAct_100 : decode cX9_bestAct 100 = .ok (.goto (-94), 3) := by decide +kernel
theorem dX9_bestAct_103 : decode cX9_bestAct 103 = .ok (.iload 4, 2) := by decide +kernel
theorem dX9_bestAct_105 : decode cX9_bestAct 105 = .ok (.ireturn, 1) := by decide +kernel
def f_HM_bestAct_b97 (k6 : Int32 → Int32 → Int32 → Int32 → Int32 → St → Option (Int32 × St)) (x1 : Int32) (x2 : Int32) (x3 : Int32) (x4 : Int32) (x5 : Int32) (σ : St) : Option (Int32 × St) :=
  k6 x1 x2 x3 x4 (x5 + 1) σ
set_option maxRecDepth 4000 in
theorem ok_HM_bestAct_b97 {E : gE} {w : wT} {σ' : St} {r : Int32} (X : gC E w cX9_bestAct 8 RX9 3) (Y : gQ E w (some .int) (some (.int r)) σ') {k6 : Int32 → Int32 → Int32 → Int32 → Int32 → St → Option (Int32 × St)} (hk6 : ∀ (x1 : Int32) (x2 : Int32) (x3 : Int32) (x4 : Int32) (x5 : Int32) (σ : St), k6 x1 x2 x3 x4 x5 σ = some (r, σ') → gW E w 8 σ 6 [some (.ref (w.1 9)), some (.int x1), some (.int x2), some (.int x3), some (.int x4), some (.int x5)] []) {x1 : Int32} {x2 : Int32} {x3 : Int32} {x4 : Int32} {x5 : Int32} (σ : St) (h : f_HM_bestAct_b97 k6 x1 x2 x3 x4 x5 σ = some (r, σ')) : gW E w 8 σ 97 [some (.ref (w.1 9)), some (.int x1), some (.int x2), some (.int x3), some (.int x4), some (.int x5)] [] := by
  unfold f_HM_bestAct_b97 at h
  refine g_iinc X [some (.ref (w.1 9)), some (.int x1), some (.int x2), some (.int x3), some (.int x4), some (.int (x5 + 1))] dX9_bestAct_97 rfl (ii_1 x5) (Nat.le_of_ble_eq_true rfl) rfl rfl rfl ?_
  refine g_goto X dX9_bestAct_100 (tgt := 6) rfl ?_
  exact hk6 x1 x2 x3 x4 (x5 + 1) σ h

def f_HM_bestAct_b95 (k6 : Int32 → Int32 → Int32 → Int32 → Int32 → St → Option (Int32 × St)) (x1 : Int32) (x2 : Int32) (x3 : Int32) (x5 : Int32) (xs0 : Int32) (σ : St) : Option (Int32 × St) :=
  f_HM_bestAct_b97 k6 x1 x2 x3 xs0 x5 σ
set_option maxRecDepth 4000 in
theorem ok_HM_bestAct_b95 {E : gE} {w : wT} {σ' : St} {r : Int32} (X : gC E w cX9_bestAct 8 RX9 3) (Y : gQ E w (some .int) (some (.int r)) σ') {k6 : Int32 → Int32 → Int32 → Int32 → Int32 → St → Option (Int32 × St)} (hk6 : ∀ (x1 : Int32) (x2 : Int32) (x3 : Int32) (x4 : Int32) (x5 : Int32) (σ : St), k6 x1 x2 x3 x4 x5 σ = some (r, σ') → gW E w 8 σ 6 [some (.ref (w.1 9)), some (.int x1), some (.int x2), some (.int x3), some (.int x4), some (.int x5)] []) {x1 : Int32} {x2 : Int32} {x3 : Int32} {x5 : Int32} {xs0 : Int32} (σ : St) (h : f_HM_bestAct_b95 k6 x1 x2 x3 x5 xs0 σ = some (r, σ')) : gW E w 8 σ 95 [some (.ref (w.1 9)), some (.int x1), some (.int x2), some (.int x3), none, some (.int x5)] [.int xs0] := by
  unfold f_HM_bestAct_b95 at h
  refine g_istore X [some (.ref (w.1 9)), some (.int x1), some (.int x2), some (.int x3), some (.int xs0), some (.int x5)] dX9_bestAct_95 (Nat.le_of_ble_eq_true rfl) rfl rfl rfl ?_
  exact ok_HM_bestAct_b97 X Y hk6 σ h

def f_HM_bestAct_b93 (k6 : Int32 → Int32 → Int32 → Int32 → Int32 → St → Option (Int32 × St)) (x1 : Int32) (x2 : Int32) (x3 : Int32) (x4 : Int32) (x5 : Int32) (σ : St) : Option (Int32 × St) :=
  f_HM_bestAct_b95 k6 x1 x2 x3 x5 x4 σ
set_option maxRecDepth 4000 in
theorem ok_HM_bestAct_b93 {E : gE} {w : wT} {σ' : St} {r : Int32} (X : gC E w cX9_bestAct 8 RX9 3) (Y : gQ E w (some .int) (some (.int r)) σ') {k6 : Int32 → Int32 → Int32 → Int32 → Int32 → St → Option (Int32 × St)} (hk6 : ∀ (x1 : Int32) (x2 : Int32) (x3 : Int32) (x4 : Int32) (x5 : Int32) (σ : St), k6 x1 x2 x3 x4 x5 σ = some (r, σ') → gW E w 8 σ 6 [some (.ref (w.1 9)), some (.int x1), some (.int x2), some (.int x3), some (.int x4), some (.int x5)] []) {x1 : Int32} {x2 : Int32} {x3 : Int32} {x4 : Int32} {x5 : Int32} (σ : St) (h : f_HM_bestAct_b93 k6 x1 x2 x3 x4 x5 σ = some (r, σ')) : gW E w 8 σ 93 [some (.ref (w.1 9)), some (.int x1), some (.int x2), some (.int x3), some (.int x4), some (.int x5)] [] := by
  unfold f_HM_bestAct_b93 at h
  refine g_iload X dX9_bestAct_93 rfl rfl ?_
  exact g_le (lle_s (lle_s (lle_s (lle_s (lle_k (lle_s (lle_0))))))) (ok_HM_bestAct_b95 X Y hk6 σ h)

def f_HM_bestAct_b88 (k6 : Int32 → Int32 → Int32 → Int32 → Int32 → St → Option (Int32 × St)) (x1 : Int32) (x2 : Int32) (x3 : Int32) (x5 : Int32) (σ : St) : Option (Int32 × St) :=
  f_HM_bestAct_b95 k6 x1 x2 x3 x5 x5 σ
set_option maxRecDepth 4000 in
theorem ok_HM_bestAct_b88 {E : gE} {w : wT} {σ' : St} {r : Int32} (X : gC E w cX9_bestAct 8 RX9 3) (Y : gQ E w (some .int) (some (.int r)) σ') {k6 : Int32 → Int32 → Int32 → Int32 → Int32 → St → Option (Int32 × St)} (hk6 : ∀ (x1 : Int32) (x2 : Int32) (x3 : Int32) (x4 : Int32) (x5 : Int32) (σ : St), k6 x1 x2 x3 x4 x5 σ = some (r, σ') → gW E w 8 σ 6 [some (.ref (w.1 9)), some (.int x1), some (.int x2), some (.int x3), some (.int x4), some (.int x5)] []) {x1 : Int32} {x2 : Int32} {x3 : Int32} {x5 : Int32} (σ : St) (h : f_HM_bestAct_b88 k6 x1 x2 x3 x5 σ = some (r, σ')) : gW E w 8 σ 88 [some (.ref (w.1 9)), some (.int x1), some (.int x2), some (.int x3), none, some (.int x5)] [] := by
  unfold f_HM_bestAct_b88 at h
  refine g_iload X dX9_bestAct_88 rfl rfl ?_
  refine g_goto X dX9_bestAct_90 (tgt := 95) rfl ?_
  exact ok_HM_bestAct_b95 X Y hk6 σ h

def f_HM_bestAct_b60 (k6 : Int32 → Int32 → Int32 → Int32 → Int32 → St → Option (Int32 × St)) (x1 : Int32) (x2 : Int32) (x3 : Int32) (x4 : Int32) (x5 : Int32) (xs0 : Int64) (σ : St) : Option (Int32 × St) :=
  if x4 < 0 then (f_HM_bestAct_b88 k6 x1 x2 x3 x5 σ) else (if x3 = 0 then (if xs0 ≤ 0 then (f_HM_bestAct_b93 k6 x1 x2 x3 x4 x5 σ) else (f_HM_bestAct_b88 k6 x1 x2 x3 x5 σ)) else (if (0 : Int64) ≤ xs0 then (f_HM_bestAct_b93 k6 x1 x2 x3 x4 x5 σ) else (f_HM_bestAct_b88 k6 x1 x2 x3 x5 σ)))
set_option maxRecDepth 4000 in
theorem ok_HM_bestAct_b60 {E : gE} {w : wT} {σ' : St} {r : Int32} (X : gC E w cX9_bestAct 8 RX9 3) (Y : gQ E w (some .int) (some (.int r)) σ') {k6 : Int32 → Int32 → Int32 → Int32 → Int32 → St → Option (Int32 × St)} (hk6 : ∀ (x1 : Int32) (x2 : Int32) (x3 : Int32) (x4 : Int32) (x5 : Int32) (σ : St), k6 x1 x2 x3 x4 x5 σ = some (r, σ') → gW E w 8 σ 6 [some (.ref (w.1 9)), some (.int x1), some (.int x2), some (.int x3), some (.int x4), some (.int x5)] []) {x1 : Int32} {x2 : Int32} {x3 : Int32} {x4 : Int32} {x5 : Int32} {xs0 : Int64} (σ : St) (h : f_HM_bestAct_b60 k6 x1 x2 x3 x4 x5 xs0 σ = some (r, σ')) : gW E w 8 σ 60 [some (.ref (w.1 9)), some (.int x1), some (.int x2), some (.int x3), some (.int x4), some (.int x5)] [.long xs0] := by
  unfold f_HM_bestAct_b60 at h
  refine g_lstore X [some (.ref (w.1 9)), some (.int x1), some (.int x2), some (.int x3), some (.int x4), some (.int x5), some (.long xs0), none] dX9_bestAct_60 (Nat.le_of_ble_eq_true rfl) rfl rfl rfl ?_
  refine g_iload X dX9_bestAct_62 rfl rfl ?_
  refine g_if_lt X dX9_bestAct_64 (tgt := 88) rfl rfl (fun c1 => ?_) (fun c1 => ?_)
  · replace h := if_t c1 h
    exact g_le (lle_s (lle_s (lle_s (lle_s (lle_k (lle_s (lle_0))))))) (ok_HM_bestAct_b88 X Y hk6 σ h)
  · replace h := if_f c1 h
    refine g_iload_n X dX9_bestAct_67 rfl rfl ?_
    refine g_if_ne X dX9_bestAct_68 (tgt := 81) rfl rfl (fun c2 => ?_) (fun c2 => ?_)
    · replace h := if_f c2 h
      refine g_lload X dX9_bestAct_81 rfl rfl ?_
      refine g_lconst X kL_0 dX9_bestAct_83 rfl ?_
      refine g_lcmp_ge X dX9_bestAct_84 rfl dX9_bestAct_85 (tgt := 93) rfl rfl (fun c3 => ?_) (fun c3 => ?_)
      · replace h := if_t c3 h
        exact g_le (lle_s (lle_s (lle_s (lle_s (lle_s (lle_s (lle_0))))))) (ok_HM_bestAct_b93 X Y hk6 σ h)
      · replace h := if_f c3 h
        exact g_le (lle_s (lle_s (lle_s (lle_s (lle_k (lle_s (lle_0))))))) (ok_HM_bestAct_b88 X Y hk6 σ h)
    · replace h := if_t c2 h
      refine g_lload X dX9_bestAct_71 rfl rfl ?_
      refine g_lconst X kL_0 dX9_bestAct_73 rfl ?_
      refine g_lcmp_le X dX9_bestAct_74 rfl dX9_bestAct_75 (tgt := 93) rfl rfl (fun c4 => ?_) (fun c4 => ?_)
      · replace h := if_t c4 h
        exact g_le (lle_s (lle_s (lle_s (lle_s (lle_s (lle_s (lle_0))))))) (ok_HM_bestAct_b93 X Y hk6 σ h)
      · replace h := if_f c4 h
        refine g_goto X dX9_bestAct_78 (tgt := 88) rfl ?_
        exact g_le (lle_s (lle_s (lle_s (lle_s (lle_k (lle_s (lle_0))))))) (ok_HM_bestAct_b88 X Y hk6 σ h)

def f_HM_bestAct_b34 (k6 : Int32 → Int32 → Int32 → Int32 → Int32 → St → Option (Int32 × St)) (x1 : Int32) (x2 : Int32) (x3 : Int32) (x4 : Int32) (x5 : Int32) (σ : St) : Option (Int32 × St) :=
  if 0 ≤ x4 then (bd (f_HM_worthOf x1 x5 x3 σ) fun r4 σ3 => bd (f_HM_worthOf x1 x4 x3 σ3) fun r7 σ6 => f_HM_bestAct_b60 k6 x1 x2 x3 x4 x5 (r4 - r7) σ6) else (f_HM_bestAct_b60 k6 x1 x2 x3 x4 x5 1 σ)
set_option maxRecDepth 4000 in
theorem ok_HM_bestAct_b34 {E : gE} {w : wT} {σ' : St} {r : Int32} (X : gC E w cX9_bestAct 8 RX9 3) (Y : gQ E w (some .int) (some (.int r)) σ') {k6 : Int32 → Int32 → Int32 → Int32 → Int32 → St → Option (Int32 × St)} (hk6 : ∀ (x1 : Int32) (x2 : Int32) (x3 : Int32) (x4 : Int32) (x5 : Int32) (σ : St), k6 x1 x2 x3 x4 x5 σ = some (r, σ') → gW E w 8 σ 6 [some (.ref (w.1 9)), some (.int x1), some (.int x2), some (.int x3), some (.int x4), some (.int x5)] []) {x1 : Int32} {x2 : Int32} {x3 : Int32} {x4 : Int32} {x5 : Int32} (σ : St) (h : f_HM_bestAct_b34 k6 x1 x2 x3 x4 x5 σ = some (r, σ')) : gW E w 8 σ 34 [some (.ref (w.1 9)), some (.int x1), some (.int x2), some (.int x3), some (.int x4), some (.int x5)] [] := by
  unfold f_HM_bestAct_b34 at h
  refine g_iload X dX9_bestAct_34 rfl rfl ?_
  refine g_if_ge X dX9_bestAct_36 (tgt := 43) rfl rfl (fun c1 => ?_) (fun c1 => ?_)
  · replace h := if_t c1 h
    refine g_aload_n X dX9_bestAct_43 rfl rfl ?_
    refine g_iload_n X dX9_bestAct_44 rfl rfl ?_
    refine g_iload X dX9_bestAct_45 rfl rfl ?_
    refine g_iload_n X dX9_bestAct_47 rfl rfl ?_
    obtain ⟨r4, σ3, h2, h⟩ := bd_e h
    refine g_callVJ X [.int x1, .int x5, .int x3] (ok_HM_worthOf X.inj h2) my_yX9_worthOf mi_yX9_worthOf ms_yX9_worthOf ml_RX9_252 (by decide) rfl rfl (by decide) rfl dX9_bestAct_48 (Nat.le_of_ble_eq_true rfl) rfl rfl ?_
    refine g_aload_n X dX9_bestAct_51 rfl rfl ?_
    refine g_iload_n X dX9_bestAct_52 rfl rfl ?_
    refine g_iload X dX9_bestAct_53 rfl rfl ?_
    refine g_iload_n X dX9_bestAct_55 rfl rfl ?_
    obtain ⟨r7, σ6, h5, h⟩ := bd_e h
    refine g_callVJ X [.int x1, .int x4, .int x3] (ok_HM_worthOf X.inj h5) my_yX9_worthOf mi_yX9_worthOf ms_yX9_worthOf ml_RX9_252 (by decide) rfl rfl (by decide) rfl dX9_bestAct_56 (Nat.le_of_ble_eq_true rfl) rfl rfl ?_
    refine g_lsub X dX9_bestAct_59 rfl ?_
    exact ok_HM_bestAct_b60 X Y hk6 σ6 h
  · replace h := if_f c1 h
    refine g_lconst X kL_1 dX9_bestAct_39 rfl ?_
    refine g_goto X dX9_bestAct_40 (tgt := 60) rfl ?_
    exact ok_HM_bestAct_b60 X Y hk6 σ h

def f_HM_bestAct_b6 (k6 : Int32 → Int32 → Int32 → Int32 → Int32 → St → Option (Int32 × St)) (x1 : Int32) (x2 : Int32) (x3 : Int32) (x4 : Int32) (x5 : Int32) (σ : St) : Option (Int32 × St) :=
  ck (ib x2 20) <| if (rI σ 77 x2) ≤ x5 then (some (x4, σ)) else (if x2 = (rF σ 52) then (if x5 = (rF σ 53) then (f_HM_bestAct_b97 k6 x1 x2 x3 x4 x5 σ) else (f_HM_bestAct_b34 k6 x1 x2 x3 x4 x5 σ)) else (f_HM_bestAct_b34 k6 x1 x2 x3 x4 x5 σ))
set_option maxRecDepth 4000 in
theorem ok_HM_bestAct_b6 {E : gE} {w : wT} {σ' : St} {r : Int32} (X : gC E w cX9_bestAct 8 RX9 3) (Y : gQ E w (some .int) (some (.int r)) σ') {k6 : Int32 → Int32 → Int32 → Int32 → Int32 → St → Option (Int32 × St)} (hk6 : ∀ (x1 : Int32) (x2 : Int32) (x3 : Int32) (x4 : Int32) (x5 : Int32) (σ : St), k6 x1 x2 x3 x4 x5 σ = some (r, σ') → gW E w 8 σ 6 [some (.ref (w.1 9)), some (.int x1), some (.int x2), some (.int x3), some (.int x4), some (.int x5)] []) {x1 : Int32} {x2 : Int32} {x3 : Int32} {x4 : Int32} {x5 : Int32} (σ : St) (h : f_HM_bestAct_b6 k6 x1 x2 x3 x4 x5 σ = some (r, σ')) : gW E w 8 σ 6 [some (.ref (w.1 9)), some (.int x1), some (.int x2), some (.int x3), some (.int x4), some (.int x5)] [] := by
  unfold f_HM_bestAct_b6 at h
  refine g_iload X dX9_bestAct_6 rfl rfl ?_
  refine g_aload_n X dX9_bestAct_8 rfl rfl ?_
  refine gf_RX9_52 X dX9_bestAct_9 rfl ?_
  refine g_iload_n X dX9_bestAct_12 rfl rfl ?_
  obtain ⟨c1, h⟩ := ck_e h
  refine g_iald X ar_77.1 ar_77.2.1 ar_77.2.2 (ib_e c1) dX9_bestAct_13 rfl ?_
  refine g_icmp_ge X dX9_bestAct_14 (tgt := 103) rfl rfl (fun c2 => ?_) (fun c2 => ?_)
  · replace h := if_t c2 h
    refine g_iload X dX9_bestAct_103 rfl rfl ?_
    obtain ⟨rfl, rfl⟩ := rt_e h
    exact g_iret X Y dX9_bestAct_105
  · replace h := if_f c2 h
    refine g_iload_n X dX9_bestAct_17 rfl rfl ?_
    refine g_aload_n X dX9_bestAct_18 rfl rfl ?_
    refine gf_RX9_246 X dX9_bestAct_19 rfl ?_
    refine g_icmp_ne X dX9_bestAct_22 (tgt := 34) rfl rfl (fun c3 => ?_) (fun c3 => ?_)
    · replace h := if_f c3 h
      exact ok_HM_bestAct_b34 X Y hk6 σ h
    · replace h := if_t c3 h
      refine g_iload X dX9_bestAct_25 rfl rfl ?_
      refine g_aload_n X dX9_bestAct_27 rfl rfl ?_
      refine gf_RX9_249 X dX9_bestAct_28 rfl ?_
      refine g_icmp_eq X dX9_bestAct_31 (tgt := 97) rfl rfl (fun c4 => ?_) (fun c4 => ?_)
      · replace h := if_t c4 h
        exact ok_HM_bestAct_b97 X Y hk6 σ h
      · replace h := if_f c4 h
        exact ok_HM_bestAct_b34 X Y hk6 σ h
def f_HM_bestAct_l6 : Int32 → Int32 → Int32 → Int32 → Int32 → St → Option (Int32 × St) := lp (fun _ _ _ _ _ _ => none) (f_HM_bestAct_b6) FU
theorem ok_HM_bestAct_l6 {E : gE} {w : wT} {σ' : St} {r : Int32} (X : gC E w cX9_bestAct 8 RX9 3) (Y : gQ E w (some .int) (some (.int r)) σ') {x1 : Int32} {x2 : Int32} {x3 : Int32} {x4 : Int32} {x5 : Int32} (σ : St) (h : f_HM_bestAct_l6 x1 x2 x3 x4 x5 σ = some (r, σ')) : gW E w 8 σ 6 [some (.ref (w.1 9)), some (.int x1), some (.int x2), some (.int x3), some (.int x4), some (.int x5)] [] :=
  lp_ind (P := fun (k : Int32 → Int32 → Int32 → Int32 → Int32 → St → Option (Int32 × St)) => ∀ (x1 : Int32) (x2 : Int32) (x3 : Int32) (x4 : Int32) (x5 : Int32) (σ : St), k x1 x2 x3 x4 x5 σ = some (r, σ') → gW E w 8 σ 6 [some (.ref (w.1 9)), some (.int x1), some (.int x2), some (.int x3), some (.int x4), some (.int x5)] []) (fun _ _ _ _ _ _ hh => nn hh) (fun k hk x1 x2 x3 x4 x5 σ  hh => ok_HM_bestAct_b6 X Y hk σ hh) FU x1 x2 x3 x4 x5 σ  h

def f_HM_bestAct (x1 : Int32) (x2 : Int32) (x3 : Int32) (σ : St) : Option (Int32 × St) :=
  f_HM_bestAct_l6 x1 x2 x3 ((-1)) 0 σ
set_option maxRecDepth 4000 in
theorem ok_HM_bestAct {w : wT} (hi : wInj w) {l : Launch} {x1 : Int32} {x2 : Int32} {x3 : Int32} {σ σ' : St} {r : Int32} (h : f_HM_bestAct x1 x2 x3 σ = some (r, σ')) : gM w l yX9_bestAct cX9_bestAct 8 (some .int) 3 [.ref (w.1 9), .int x1, .int x2, .int x3] σ (some (.int r)) σ' := by
  unfold f_HM_bestAct at h
  refine gM_of hi (by decide) [some (.ref (w.1 9)), some (.int x1), some (.int x2), some (.int x3)] rfl (Nat.le_of_ble_eq_true rfl) (fun E hl X Y => ?_)
  refine g_iconst X kI_m1 dX9_bestAct_0 rfl ?_
  refine g_istore X [some (.ref (w.1 9)), some (.int x1), some (.int x2), some (.int x3), some (.int ((-1)))] dX9_bestAct_1 (Nat.le_of_ble_eq_true rfl) rfl rfl rfl ?_
  refine g_iconst X kI_0 dX9_bestAct_3 rfl ?_
  refine g_istore X [some (.ref (w.1 9)), some (.int x1), some (.int x2), some (.int x3), some (.int ((-1))), some (.int 0)] dX9_bestAct_4 (Nat.le_of_ble_eq_true rfl) rfl rfl rfl ?_
  exact ok_HM_bestAct_l6 X Y σ h

theorem dX9_answerBy_0 : decode cX9_answerBy 0 = .ok (.iconst 0, 1) := by decide +kernel
theorem dX9_answerBy_1 : decode cX9_answerBy 1 = .ok (.istore_n 2, 1) := by decide +kernel
theorem dX9_answerBy_2 : decode cX9_answerBy 2 = .ok (.iload_n 2, 1) := by decide +kernel
theorem dX9_answerBy_3 : decode cX9_answerBy 3 = .ok (.bipush 60, 2) := by decide +kernel
theorem dX9_answerBy_5 : decode cX9_answerBy 5 = .ok (.if_icmp .ge 16, 3) := by decide +kernel
theorem dX9_answerBy_8 : decode cX9_answerBy 8 = .ok (.aload_n 0, 1) := by decide +kernel
theorem dX9_answerBy_9 : decode cX9_answerBy 9 = .ok (.getfield 86, 3) := by decide +kernel
theorem dX9_answerBy_12 : decode cX9_answerBy 12 = .ok (.iload_n 2, 1) := by decide +kernel
theorem dX9_answerBy_13 : decode cX9_answerBy 13 = .ok (.iconst 0, 1) := by decide +kernel
theorem dX9_answerBy_14 : decode cX9_answerBy 14 = .ok (.iastore, 1) := by decide +kernel
theorem dX9_answerBy_15 : decode cX9_answerBy 15 = .ok (.iinc 2 1, 3) := by decide +kernel
theorem dX9_answerBy_18 : decode cX9_answerBy 18 = .ok (.goto (-16), 3) := by decide +kernel
theorem dX9_answerBy_21 : decode cX9_answerBy 21 = .ok (.bipush 8, 2) := by decide +kernel
theorem dX9_answerBy_23 : decode cX9_answerBy 23 = .ok (.istore_n 2, 1) := by decide +kernel
theorem dX9_answerBy_24 : decode cX9_answerBy 24 = .ok (.iload_n 2, 1) := by decide +kernel
theorem dX9_answerBy_25 : decode cX9_answerBy 25 = .ok (.ifCond .lt 77, 3) := by decide +kernel
theorem dX9_answerBy_28 : decode cX9_answerBy 28 = .ok (.aload_n 0, 1) := by decide +kernel
theorem dX9_answerBy_29 : decode cX9_answerBy 29 = .ok (.iload_n 1, 1) := by decide +kernel
theorem dX9_answerBy_30 : decode cX9_answerBy 30 = .ok (.invokevirtual 256, 3) := by decide +kernel
theorem dX9_answerBy_33 : decode cX9_answerBy 33 = .ok (.iconst 0, 1) := by decide +kernel
theorem dX9_answerBy_34 : decode cX9_answerBy 34 = .ok (.istore_n 3, 1) := by decide +kernel
theorem dX9_answerBy_35 : decode cX9_answerBy 35 = .ok (.iload_n 3, 1) := by decide +kernel
theorem dX9_answerBy_36 : decode cX9_answerBy 36 = .ok (.aload_n 0, 1) := by decide +kernel
theorem dX9_answerBy_37 : decode cX9_answerBy 37 = .ok (.getfield 192, 3) := by decide +kernel
theorem dX9_answerBy_40 : decode cX9_answerBy 40 = .ok (.if_icmp .ge 56, 3) := by decide +kernel
theorem dX9_answerBy_43 : decode cX9_answerBy 43 = .ok (.aload_n 0, 1) := by decide +kernel
theorem dX9_answerBy_44 : decode cX9_answerBy 44 = .ok (.iload_n 3, 1) := by decide +kernel
theorem dX9_answerBy_45 : decode cX9_answerBy 45 = .ok (.iload_n 1, 1) := by decide +kernel
theorem dX9_answerBy_46 : decode cX9_answerBy 46 = .ok (.invokevirtual 208, 3) := by decide +kernel
theorem dX9_answerBy_49 : decode cX9_answerBy 49 = .ok (.ifCond .eq 41, 3) := by decide +kernel
theorem dX9_answerBy_52 : decode cX9_answerBy 52 = .ok (.aload_n 0, 1) := by decide +kernel
theorem dX9_answerBy_53 : decode cX9_answerBy 53 = .ok (.iload_n 3, 1) := by decide +kernel
theorem dX9_answerBy_54 : decode cX9_answerBy 54 = .ok (.iload_n 1, 1) := by decide +kernel
theorem dX9_answerBy_55 : decode cX9_answerBy 55 = .ok (.invokevirtual 260, 3) := by decide +kernel
theorem dX9_answerBy_58 : decode cX9_answerBy 58 = .ok (.iload_n 2, 1) := by decide +kernel
theorem dX9_answerBy_59 : decode cX9_answerBy 59 = .ok (.if_icmp .ne 31, 3) := by decide +kernel
theorem dX9_answerBy_62 : decode cX9_answerBy 62 = .ok (.aload_n 0, 1) := by decide +kernel
theorem dX9_answerBy_63 : decode cX9_answerBy 63 = .ok (.getfield 86, 3) := by decide +kernel
theorem dX9_answerBy_66 : decode cX9_answerBy 66 = .ok (.aload_n 0, 1) := by decide +kernel
theorem dX9_answerBy_67 : decode cX9_answerBy 67 = .ok (.getfield 80, 3) := by decide +kernel
theorem dX9_answerBy_70 : decode cX9_answerBy 70 = .ok (.iload_n 3, 1) := by decide +kernel
theorem dX9_answerBy_71 : decode cX9_answerBy 71 = .ok (.iaload, 1) := by decide +kernel
theorem dX9_answerBy_72 : decode cX9_answerBy 72 = .ok (.aload_n 0, 1) := by decide +kernel
theorem dX9_answerBy_73 : decode cX9_answerBy 73 = .ok (.aload_n 0, 1) := by decide +kernel
theorem dX9_answerBy_74 : decode cX9_answerBy 74 = .ok (.getfield 80, 3) := by decide +kernel
theorem dX9_answerBy_77 : decode cX9_answerBy 77 = .ok (.iload_n 3, 1) := by decide +kernel
theorem dX9_answerBy_78 : decode cX9_answerBy 78 = .ok (.iaload, 1) := by decide +kernel
theorem dX9_answerBy_79 : decode cX9_answerBy 79 = .ok (.aload_n 0, 1) := by decide +kernel
theorem dX9_answerBy_80 : decode cX9_answerBy 80 = .ok (.getfield 28, 3) := by decide +kernel
theorem dX9_answerBy_83 : decode cX9_answerBy 83 = .ok (.iload_n 3, 1) := by decide +kernel
theorem dX9_answerBy_84 : decode cX9_answerBy 84 = .ok (.iaload, 1) := by decide +kernel
theorem dX9_answerBy_85 : decode cX9_answerBy 85 = .ok (.iload_n 1, 1) := by decide +kernel
theorem dX9_answerBy_86 : decode cX9_answerBy 86 = .ok (.invokevirtual 263, 3) := by decide +kernel
theorem dX9_answerBy_89 : decode cX9_answerBy 89 = .ok (.iastore, 1) := by decide +kernel
theorem dX9_answerBy_90 : decode cX9_answerBy 90 = .ok (.iinc 3 1, 3) := by decide +kernel
theorem dX9_answerBy_93 : decode cX9_answerBy 93 = .ok (.goto (-58), 3) := by decide +kernel
theorem dX9_answerBy_96 : decode cX9_answerBy 96 = .ok (.iinc 2 (-1), 3) := by decide +kernel
theorem dX9_answerBy_99 : decode cX9_answerBy 99 = .ok (.goto (-75), 3) := by decide +kernel
theorem dX9_answerBy_102 : decode cX9_answerBy 102 = .ok (.aload_n 0, 1) := by decide +kernel
theorem dX9_answerBy_103 : decode cX9_answerBy 103 = .ok (.iload_n 1, 1) := by decide +kernel
theorem dX9_answerBy_104 : decode cX9_answerBy 104 = .ok (.invokevirtual 256, 3) := by decide +kernel
theorem dX9_answerBy_107 : decode cX9_answerBy 107 = .ok (.aload_n 0, 1) := by decide +kernel
theorem dX9_answerBy_108 : decode cX9_answerBy 108 = .ok (.getfield 83, 3) := by decide +kernel
theorem dX9_answerBy_111 : decode cX9_answerBy 111 = .ok (.iconst 0, 1) := by decide +kernel
theorem dX9_answerBy_112 : decode cX9_answerBy 112 = .ok (.laload, 1) := by decide +kernel
theorem dX9_answerBy_113 : decode cX9_answerBy 113 = .ok (.lreturn, 1) := by decide +kernel
def f_HM_answerBy_b90 (k35 : Int32 → Int32 → Int32 → St → Option (Int64 × St)) (x1 : Int32) (x2 : Int32) (x3 : Int32) (σ : St) : Option (Int64 × St) :=
  k35 x1 x2 (x3 + 1) σ
set_option maxRecDepth 4000 in
theorem ok_HM_answerBy_b90 {E : gE} {w : wT} {σ' : St} {r : Int64} (X : gC E w cX9_answerBy 4 RX9 4) (Y : gQ E w (some .long) (some (.long r)) σ') {k35 : Int32 → Int32 → Int32 → St → Option (Int64 × St)} (hk35 : ∀ (x1 : Int32) (x2 : Int32) (x3 : Int32) (σ : St), k35 x1 x2 x3 σ = some (r, σ') → gW E w 4 σ 35 [some (.ref (w.1 9)), some (.int x1), some (.int x2), some (.int x3)] []) {x1 : Int32} {x2 : Int32} {x3 : Int32} (σ : St) (h : f_HM_answerBy_b90 k35 x1 x2 x3 σ = some (r, σ')) : gW E w 4 σ 90 [some (.ref (w.1 9)), some (.int x1), some (.int x2), some (.int x3)] [] := by
  unfold f_HM_answerBy_b90 at h
  refine g_iinc X [some (.ref (w.1 9)), some (.int x1), some (.int x2), some (.int (x3 + 1))] dX9_answerBy_90 rfl (ii_1 x3) (Nat.le_of_ble_eq_true rfl) rfl rfl rfl ?_
  refine g_goto X dX9_answerBy_93 (tgt := 35) rfl ?_
  exact hk35 x1 x2 (x3 + 1) σ h

def f_HM_answerBy_b35 (k24 : Int32 → Int32 → St → Option (Int64 × St)) (k35 : Int32 → Int32 → Int32 → St → Option (Int64 × St)) (x1 : Int32) (x2 : Int32) (x3 : Int32) (σ : St) : Option (Int64 × St) :=
  if (rF σ 43) ≤ x3 then (k24 x1 (x2 + (-1)) σ) else (bd (f_HM_isOf x3 x1 σ) fun r4 σ3 => if r4 = 0 then (f_HM_answerBy_b90 k35 x1 x2 x3 σ3) else (bd (f_HM_ownDeep x3 x1 σ3) fun r8 σ7 => if r8 = x2 then (ck (ib x3 60) <| ck (ib x3 60) <| ck (ib x3 120) <| bd (f_HM_bestAct (rI σ7 86 x3) (rI σ7 69 x3) x1 σ7) fun r15 σ14 => ck (ib (rI σ7 86 x3) 60) <| lE (stA σ14 88 (rI σ7 86 x3).toNatClampNeg r15) fun σ17 => f_HM_answerBy_b90 k35 x1 x2 x3 σ17) else (f_HM_answerBy_b90 k35 x1 x2 x3 σ7)))
set_option maxRecDepth 4000 in
theorem ok_HM_answerBy_b35 {E : gE} {w : wT} {σ' : St} {r : Int64} (X : gC E w cX9_answerBy 4 RX9 4) (Y : gQ E w (some .long) (some (.long r)) σ') {k24 : Int32 → Int32 → St → Option (Int64 × St)} (hk24 : ∀ (x1 : Int32) (x2 : Int32) (σ : St), k24 x1 x2 σ = some (r, σ') → gW E w 4 σ 24 [some (.ref (w.1 9)), some (.int x1), some (.int x2)] []) {k35 : Int32 → Int32 → Int32 → St → Option (Int64 × St)} (hk35 : ∀ (x1 : Int32) (x2 : Int32) (x3 : Int32) (σ : St), k35 x1 x2 x3 σ = some (r, σ') → gW E w 4 σ 35 [some (.ref (w.1 9)), some (.int x1), some (.int x2), some (.int x3)] []) {x1 : Int32} {x2 : Int32} {x3 : Int32} (σ : St) (h : f_HM_answerBy_b35 k24 k35 x1 x2 x3 σ = some (r, σ')) : gW E w 4 σ 35 [some (.ref (w.1 9)), some (.int x1), some (.int x2), some (.int x3)] [] := by
  unfold f_HM_answerBy_b35 at h
  refine g_iload_n X dX9_answerBy_35 rfl rfl ?_
  refine g_aload_n X dX9_answerBy_36 rfl rfl ?_
  refine gf_RX9_192 X dX9_answerBy_37 rfl ?_
  refine g_icmp_ge X dX9_answerBy_40 (tgt := 96) rfl rfl (fun c1 => ?_) (fun c1 => ?_)
  · replace h := if_t c1 h
    refine g_iinc X [some (.ref (w.1 9)), some (.int x1), some (.int (x2 + (-1))), some (.int x3)] dX9_answerBy_96 rfl (ii_m1 x2) (Nat.le_of_ble_eq_true rfl) rfl rfl rfl ?_
    refine g_goto X dX9_answerBy_99 (tgt := 24) rfl ?_
    exact g_le (lle_s (lle_s (lle_s (lle_0)))) (hk24 x1 (x2 + (-1)) σ h)
  · replace h := if_f c1 h
    refine g_aload_n X dX9_answerBy_43 rfl rfl ?_
    refine g_iload_n X dX9_answerBy_44 rfl rfl ?_
    refine g_iload_n X dX9_answerBy_45 rfl rfl ?_
    obtain ⟨r4, σ3, h2, h⟩ := bd_e h
    refine g_callVI X [.int x3, .int x1] (ok_HM_isOf X.inj h2) my_yX9_isOf mi_yX9_isOf ms_yX9_isOf ml_RX9_208 (by decide) rfl rfl (by decide) rfl dX9_answerBy_46 (Nat.le_of_ble_eq_true rfl) rfl rfl ?_
    refine g_if_eq X dX9_answerBy_49 (tgt := 90) rfl rfl (fun c5 => ?_) (fun c5 => ?_)
    · replace h := if_t c5 h
      exact ok_HM_answerBy_b90 X Y hk35 σ3 h
    · replace h := if_f c5 h
      refine g_aload_n X dX9_answerBy_52 rfl rfl ?_
      refine g_iload_n X dX9_answerBy_53 rfl rfl ?_
      refine g_iload_n X dX9_answerBy_54 rfl rfl ?_
      obtain ⟨r8, σ7, h6, h⟩ := bd_e h
      refine g_callVI X [.int x3, .int x1] (ok_HM_ownDeep X.inj h6) my_yX9_ownDeep mi_yX9_ownDeep ms_yX9_ownDeep ml_RX9_260 (by decide) rfl rfl (by decide) rfl dX9_answerBy_55 (Nat.le_of_ble_eq_true rfl) rfl rfl ?_
      refine g_iload_n X dX9_answerBy_58 rfl rfl ?_
      refine g_icmp_ne X dX9_answerBy_59 (tgt := 90) rfl rfl (fun c9 => ?_) (fun c9 => ?_)
      · replace h := if_f c9 h
        exact ok_HM_answerBy_b90 X Y hk35 σ7 h
      · replace h := if_t c9 h
        refine g_aload_n X dX9_answerBy_62 rfl rfl ?_
        refine gf_RX9_86 X dX9_answerBy_63 rfl ?_
        refine g_aload_n X dX9_answerBy_66 rfl rfl ?_
        refine gf_RX9_80 X dX9_answerBy_67 rfl ?_
        refine g_iload_n X dX9_answerBy_70 rfl rfl ?_
        obtain ⟨c10, h⟩ := ck_e h
        refine g_iald X ar_86.1 ar_86.2.1 ar_86.2.2 (ib_e c10) dX9_answerBy_71 rfl ?_
        refine g_aload_n X dX9_answerBy_72 rfl rfl ?_
        refine g_aload_n X dX9_answerBy_73 rfl rfl ?_
        refine gf_RX9_80 X dX9_answerBy_74 rfl ?_
        refine g_iload_n X dX9_answerBy_77 rfl rfl ?_
        obtain ⟨c11, h⟩ := ck_e h
        refine g_iald X ar_86.1 ar_86.2.1 ar_86.2.2 (ib_e c11) dX9_answerBy_78 rfl ?_
        refine g_aload_n X dX9_answerBy_79 rfl rfl ?_
        refine gf_RX9_28 X dX9_answerBy_80 rfl ?_
        refine g_iload_n X dX9_answerBy_83 rfl rfl ?_
        obtain ⟨c12, h⟩ := ck_e h
        refine g_iald X ar_69.1 ar_69.2.1 ar_69.2.2 (ib_e c12) dX9_answerBy_84 rfl ?_
        refine g_iload_n X dX9_answerBy_85 rfl rfl ?_
        obtain ⟨r15, σ14, h13, h⟩ := bd_e h
        refine g_callVI X [.int (rI σ7 86 x3), .int (rI σ7 69 x3), .int x1] (ok_HM_bestAct X.inj h13) my_yX9_bestAct mi_yX9_bestAct ms_yX9_bestAct ml_RX9_263 (by decide) rfl rfl (by decide) rfl dX9_answerBy_86 (Nat.le_of_ble_eq_true rfl) rfl rfl ?_
        obtain ⟨c16, h⟩ := ck_e h
        refine g_iast X ar_88.1 ar_88.2.1 ar_88.2.2 (ib_e c16) dX9_answerBy_89 rfl (fun σ17 e18 => ?_)
        replace h := lE_c e18 h
        exact ok_HM_answerBy_b90 X Y hk35 σ17 h
def f_HM_answerBy_l35 (k24 : Int32 → Int32 → St → Option (Int64 × St)) : Int32 → Int32 → Int32 → St → Option (Int64 × St) := lp (fun _ _ _ _ => none) (f_HM_answerBy_b35 k24) FU
theorem ok_HM_answerBy_l35 {E : gE} {w : wT} {σ' : St} {r : Int64} (X : gC E w cX9_answerBy 4 RX9 4) (Y : gQ E w (some .long) (some (.long r)) σ') {k24 : Int32 → Int32 → St → Option (Int64 × St)} (hk24 : ∀ (x1 : Int32) (x2 : Int32) (σ : St), k24 x1 x2 σ = some (r, σ') → gW E w 4 σ 24 [some (.ref (w.1 9)), some (.int x1), some (.int x2)] []) {x1 : Int32} {x2 : Int32} {x3 : Int32} (σ : St) (h : f_HM_answerBy_l35 k24 x1 x2 x3 σ = some (r, σ')) : gW E w 4 σ 35 [some (.ref (w.1 9)), some (.int x1), some (.int x2), some (.int x3)] [] :=
  lp_ind (P := fun (k : Int32 → Int32 → Int32 → St → Option (Int64 × St)) => ∀ (x1 : Int32) (x2 : Int32) (x3 : Int32) (σ : St), k x1 x2 x3 σ = some (r, σ') → gW E w 4 σ 35 [some (.ref (w.1 9)), some (.int x1), some (.int x2), some (.int x3)] []) (fun _ _ _ _ hh => nn hh) (fun k hk x1 x2 x3 σ  hh => ok_HM_answerBy_b35 X Y hk24 hk σ hh) FU x1 x2 x3 σ  h

def f_HM_answerBy_b24 (k24 : Int32 → Int32 → St → Option (Int64 × St)) (x1 : Int32) (x2 : Int32) (σ : St) : Option (Int64 × St) :=
  if x2 < 0 then (bv (f_HM_layWorth x1 σ) fun σ3 => ck (ib 0 60) <| some (rL σ3 87 0, σ3)) else (bv (f_HM_layWorth x1 σ) fun σ6 => f_HM_answerBy_l35 k24 x1 x2 0 σ6)
set_option maxRecDepth 4000 in
theorem ok_HM_answerBy_b24 {E : gE} {w : wT} {σ' : St} {r : Int64} (X : gC E w cX9_answerBy 4 RX9 4) (Y : gQ E w (some .long) (some (.long r)) σ') {k24 : Int32 → Int32 → St → Option (Int64 × St)} (hk24 : ∀ (x1 : Int32) (x2 : Int32) (σ : St), k24 x1 x2 σ = some (r, σ') → gW E w 4 σ 24 [some (.ref (w.1 9)), some (.int x1), some (.int x2)] []) {x1 : Int32} {x2 : Int32} (σ : St) (h : f_HM_answerBy_b24 k24 x1 x2 σ = some (r, σ')) : gW E w 4 σ 24 [some (.ref (w.1 9)), some (.int x1), some (.int x2)] [] := by
  unfold f_HM_answerBy_b24 at h
  refine g_iload_n X dX9_answerBy_24 rfl rfl ?_
  refine g_if_lt X dX9_answerBy_25 (tgt := 102) rfl rfl (fun c1 => ?_) (fun c1 => ?_)
  · replace h := if_t c1 h
    refine g_aload_n X dX9_answerBy_102 rfl rfl ?_
    refine g_iload_n X dX9_answerBy_103 rfl rfl ?_
    obtain ⟨σ3, h2, h⟩ := bv_e h
    refine g_callVV X [.int x1] (ok_HM_layWorth X.inj h2) my_yX9_layWorth mi_yX9_layWorth ms_yX9_layWorth ml_RX9_256 (by decide) rfl rfl (by decide) rfl dX9_answerBy_104 (Nat.le_of_ble_eq_true rfl) rfl rfl ?_
    refine g_aload_n X dX9_answerBy_107 rfl rfl ?_
    refine gf_RX9_83 X dX9_answerBy_108 rfl ?_
    refine g_iconst X kI_0 dX9_answerBy_111 rfl ?_
    obtain ⟨c4, h⟩ := ck_e h
    refine g_lald X ar_87.1 ar_87.2.1 ar_87.2.2 (ib_e c4) dX9_answerBy_112 rfl ?_
    obtain ⟨rfl, rfl⟩ := rt_e h
    exact g_lret X Y dX9_answerBy_113
  · replace h := if_f c1 h
    refine g_aload_n X dX9_answerBy_28 rfl rfl ?_
    refine g_iload_n X dX9_answerBy_29 rfl rfl ?_
    obtain ⟨σ6, h5, h⟩ := bv_e h
    refine g_callVV X [.int x1] (ok_HM_layWorth X.inj h5) my_yX9_layWorth mi_yX9_layWorth ms_yX9_layWorth ml_RX9_256 (by decide) rfl rfl (by decide) rfl dX9_answerBy_30 (Nat.le_of_ble_eq_true rfl) rfl rfl ?_
    refine g_iconst X kI_0 dX9_answerBy_33 rfl ?_
    refine g_istore_n X [some (.ref (w.1 9)), some (.int x1), some (.int x2), some (.int 0)] dX9_answerBy_34 (Nat.le_of_ble_eq_true rfl) rfl rfl rfl ?_
    exact ok_HM_answerBy_l35 X Y hk24 σ6 h
def f_HM_answerBy_l24 : Int32 → Int32 → St → Option (Int64 × St) := lp (fun _ _ _ => none) (f_HM_answerBy_b24) FU
theorem ok_HM_answerBy_l24 {E : gE} {w : wT} {σ' : St} {r : Int64} (X : gC E w cX9_answerBy 4 RX9 4) (Y : gQ E w (some .long) (some (.long r)) σ') {x1 : Int32} {x2 : Int32} (σ : St) (h : f_HM_answerBy_l24 x1 x2 σ = some (r, σ')) : gW E w 4 σ 24 [some (.ref (w.1 9)), some (.int x1), some (.int x2)] [] :=
  lp_ind (P := fun (k : Int32 → Int32 → St → Option (Int64 × St)) => ∀ (x1 : Int32) (x2 : Int32) (σ : St), k x1 x2 σ = some (r, σ') → gW E w 4 σ 24 [some (.ref (w.1 9)), some (.int x1), some (.int x2)] []) (fun _ _ _ hh => nn hh) (fun k hk x1 x2 σ  hh => ok_HM_answerBy_b24 X Y hk σ hh) FU x1 x2 σ  h

def f_HM_answerBy_b2 (k2 : Int32 → Int32 → St → Option (Int64 × St)) (x1 : Int32) (x2 : Int32) (σ : St) : Option (Int64 × St) :=
  if (60 : Int32) ≤ x2 then (f_HM_answerBy_l24 x1 8 σ) else (ck (ib x2 60) <| lE (stA σ 88 x2.toNatClampNeg 0) fun σ3 => k2 x1 (x2 + 1) σ3)
set_option maxRecDepth 4000 in
theorem ok_HM_answerBy_b2 {E : gE} {w : wT} {σ' : St} {r : Int64} (X : gC E w cX9_answerBy 4 RX9 4) (Y : gQ E w (some .long) (some (.long r)) σ') {k2 : Int32 → Int32 → St → Option (Int64 × St)} (hk2 : ∀ (x1 : Int32) (x2 : Int32) (σ : St), k2 x1 x2 σ = some (r, σ') → gW E w 4 σ 2 [some (.ref (w.1 9)), some (.int x1), some (.int x2)] []) {x1 : Int32} {x2 : Int32} (σ : St) (h : f_HM_answerBy_b2 k2 x1 x2 σ = some (r, σ')) : gW E w 4 σ 2 [some (.ref (w.1 9)), some (.int x1), some (.int x2)] [] := by
  unfold f_HM_answerBy_b2 at h
  refine g_iload_n X dX9_answerBy_2 rfl rfl ?_
  refine g_bipush X kB_60 dX9_answerBy_3 rfl ?_
  refine g_icmp_ge X dX9_answerBy_5 (tgt := 21) rfl rfl (fun c1 => ?_) (fun c1 => ?_)
  · replace h := if_t c1 h
    refine g_bipush X kB_8 dX9_answerBy_21 rfl ?_
    refine g_istore_n X [some (.ref (w.1 9)), some (.int x1), some (.int 8)] dX9_answerBy_23 (Nat.le_of_ble_eq_true rfl) rfl rfl rfl ?_
    exact ok_HM_answerBy_l24 X Y σ h
  · replace h := if_f c1 h
    refine g_aload_n X dX9_answerBy_8 rfl rfl ?_
    refine gf_RX9_86 X dX9_answerBy_9 rfl ?_
    refine g_iload_n X dX9_answerBy_12 rfl rfl ?_
    refine g_iconst X kI_0 dX9_answerBy_13 rfl ?_
    obtain ⟨c2, h⟩ := ck_e h
    refine g_iast X ar_88.1 ar_88.2.1 ar_88.2.2 (ib_e c2) dX9_answerBy_14 rfl (fun σ3 e4 => ?_)
    replace h := lE_c e4 h
    refine g_iinc X [some (.ref (w.1 9)), some (.int x1), some (.int (x2 + 1))] dX9_answerBy_15 rfl (ii_1 x2) (Nat.le_of_ble_eq_true rfl) rfl rfl rfl ?_
    refine g_goto X dX9_answerBy_18 (tgt := 2) rfl ?_
    exact hk2 x1 (x2 + 1) σ3 h
def f_HM_answerBy_l2 : Int32 → Int32 → St → Option (Int64 × St) := lp (fun _ _ _ => none) (f_HM_answerBy_b2) FU
theorem ok_HM_answerBy_l2 {E : gE} {w : wT} {σ' : St} {r : Int64} (X : gC E w cX9_answerBy 4 RX9 4) (Y : gQ E w (some .long) (some (.long r)) σ') {x1 : Int32} {x2 : Int32} (σ : St) (h : f_HM_answerBy_l2 x1 x2 σ = some (r, σ')) : gW E w 4 σ 2 [some (.ref (w.1 9)), some (.int x1), some (.int x2)] [] :=
  lp_ind (P := fun (k : Int32 → Int32 → St → Option (Int64 × St)) => ∀ (x1 : Int32) (x2 : Int32) (σ : St), k x1 x2 σ = some (r, σ') → gW E w 4 σ 2 [some (.ref (w.1 9)), some (.int x1), some (.int x2)] []) (fun _ _ _ hh => nn hh) (fun k hk x1 x2 σ  hh => ok_HM_answerBy_b2 X Y hk σ hh) FU x1 x2 σ  h

def f_HM_answerBy (x1 : Int32) (σ : St) : Option (Int64 × St) :=
  f_HM_answerBy_l2 x1 0 σ
set_option maxRecDepth 4000 in
theorem ok_HM_answerBy {w : wT} (hi : wInj w) {l : Launch} {x1 : Int32} {σ σ' : St} {r : Int64} (h : f_HM_answerBy x1 σ = some (r, σ')) : gM w l yX9_answerBy cX9_answerBy 4 (some .long) 4 [.ref (w.1 9), .int x1] σ (some (.long r)) σ' := by
  unfold f_HM_answerBy at h
  refine gM_of hi (by decide) [some (.ref (w.1 9)), some (.int x1)] rfl (Nat.le_of_ble_eq_true rfl) (fun E hl X Y => ?_)
  refine g_iconst X kI_0 dX9_answerBy_0 rfl ?_
  refine g_istore_n X [some (.ref (w.1 9)), some (.int x1), some (.int 0)] dX9_answerBy_1 (Nat.le_of_ble_eq_true rfl) rfl rfl rfl ?_
  exact ok_HM_answerBy_l2 X Y σ h

theorem dX9_answerOf_0 : decode cX9_answerOf 0 = .ok (.aload_n 0, 1) := by decide +kernel
theorem dX9_answerOf_1 : decode cX9_answerOf 1 = .ok (.invokevirtual 266, 3) := by decide +kernel
theorem dX9_answerOf_4 : decode cX9_answerOf 4 = .ok (.aload_n 0, 1) := by decide +kernel
theorem dX9_answerOf_5 : decode cX9_answerOf 5 = .ok (.iload_n 1, 1) := by decide +kernel
theorem dX9_answerOf_6 : decode cX9_answerOf 6 = .ok (.invokevirtual 269, 3) := by decide +kernel
theorem dX9_answerOf_9 : decode cX9_answerOf 9 = .ok (.aload_n 0, 1) := by decide +kernel
theorem dX9_answerOf_10 : decode cX9_answerOf 10 = .ok (.iload_n 1, 1) := by decide +kernel
theorem dX9_answerOf_11 : decode cX9_answerOf 11 = .ok (.invokevirtual 272, 3) := by decide +kernel
theorem dX9_answerOf_14 : decode cX9_answerOf 14 = .ok (.lreturn, 1) := by decide +kernel
def f_HM_answerOf (x1 : Int32) (σ : St) : Option (Int64 × St) :=
  bv (f_HM_layGroups σ) fun σ2 => bv (f_HM_layCounts x1 σ2) fun σ4 => bd (f_HM_answerBy x1 σ4) fun r7 σ6 => some (r7, σ6)
set_option maxRecDepth 4000 in
theorem ok_HM_answerOf {w : wT} (hi : wInj w) {l : Launch} {x1 : Int32} {σ σ' : St} {r : Int64} (h : f_HM_answerOf x1 σ = some (r, σ')) : gM w l yX9_answerOf cX9_answerOf 2 (some .long) 5 [.ref (w.1 9), .int x1] σ (some (.long r)) σ' := by
  unfold f_HM_answerOf at h
  refine gM_of hi (by decide) [some (.ref (w.1 9)), some (.int x1)] rfl (Nat.le_of_ble_eq_true rfl) (fun E hl X Y => ?_)
  refine g_aload_n X dX9_answerOf_0 rfl rfl ?_
  obtain ⟨σ2, h1, h⟩ := bv_e h
  refine g_callVV X [] (ok_HM_layGroups X.inj h1) my_yX9_layGroups mi_yX9_layGroups ms_yX9_layGroups ml_RX9_266 (by decide) rfl rfl (by decide) rfl dX9_answerOf_1 (Nat.le_of_ble_eq_true rfl) rfl rfl ?_
  refine g_aload_n X dX9_answerOf_4 rfl rfl ?_
  refine g_iload_n X dX9_answerOf_5 rfl rfl ?_
  obtain ⟨σ4, h3, h⟩ := bv_e h
  refine g_callVV X [.int x1] (ok_HM_layCounts X.inj h3) my_yX9_layCounts mi_yX9_layCounts ms_yX9_layCounts ml_RX9_269 (by decide) rfl rfl (by decide) rfl dX9_answerOf_6 (Nat.le_of_ble_eq_true rfl) rfl rfl ?_
  refine g_aload_n X dX9_answerOf_9 rfl rfl ?_
  refine g_iload_n X dX9_answerOf_10 rfl rfl ?_
  obtain ⟨r7, σ6, h5, h⟩ := bd_e h
  refine g_callVJ X [.int x1] (ok_HM_answerBy X.inj h5) my_yX9_answerBy mi_yX9_answerBy ms_yX9_answerBy ml_RX9_272 (by decide) rfl rfl (by decide) rfl dX9_answerOf_11 (Nat.le_of_ble_eq_true rfl) rfl rfl ?_
  obtain ⟨rfl, rfl⟩ := rt_e h
  exact g_lret X Y dX9_answerOf_14

theorem dX9_gainOf_0 : decode cX9_gainOf 0 = .ok (.aload_n 0, 1) := by decide +kernel
theorem dX9_gainOf_1 : decode cX9_gainOf 1 = .ok (.iload_n 1, 1) := by decide +kernel
theorem dX9_gainOf_2 : decode cX9_gainOf 2 = .ok (.invokevirtual 275, 3) := by decide +kernel
theorem dX9_gainOf_5 : decode cX9_gainOf 5 = .ok (.aload_n 0, 1) := by decide +kernel
theorem dX9_gainOf_6 : decode cX9_gainOf 6 = .ok (.invokevirtual 242, 3) := by decide +kernel
theorem dX9_gainOf_9 : decode cX9_gainOf 9 = .ok (.lsub, 1) := by decide +kernel
theorem dX9_gainOf_10 : decode cX9_gainOf 10 = .ok (.lstore_n 2, 1) := by decide +kernel
theorem dX9_gainOf_11 : decode cX9_gainOf 11 = .ok (.iload_n 1, 1) := by decide +kernel
theorem dX9_gainOf_12 : decode cX9_gainOf 12 = .ok (.ifCond .ne 7, 3) := by decide +kernel
theorem dX9_gainOf_15 : decode cX9_gainOf 15 = .ok (.lload_n 2, 1) := by decide +kernel
theorem dX9_gainOf_16 : decode cX9_gainOf 16 = .ok (.goto 5, 3) := by decide +kernel
theorem dX9_gainOf_19 : decode cX9_gainOf 19 = .ok (.lload_n 2, 1) := by decide +kernel
theorem dX9_gainOf_20 : decode cX9_gainOf 20 = .ok (.lneg, 1) := by decide +kernel
theorem dX9_gainOf_21 : decode cX9_gainOf 21 = .ok (.lreturn, 1) := by decide +kernel
def f_HM_gainOf (x1 : Int32) (σ : St) : Option (Int64 × St) :=
  bd (f_HM_answerOf x1 σ) fun r3 σ2 => bd (f_HM_valueNow σ2) fun r6 σ5 => if x1 = 0 then (some (r3 - r6, σ5)) else (some (-(r3 - r6), σ5))
set_option maxRecDepth 4000 in
theorem ok_HM_gainOf {w : wT} (hi : wInj w) {l : Launch} {x1 : Int32} {σ σ' : St} {r : Int64} (h : f_HM_gainOf x1 σ = some (r, σ')) : gM w l yX9_gainOf cX9_gainOf 4 (some .long) 6 [.ref (w.1 9), .int x1] σ (some (.long r)) σ' := by
  unfold f_HM_gainOf at h
  refine gM_of hi (by decide) [some (.ref (w.1 9)), some (.int x1)] rfl (Nat.le_of_ble_eq_true rfl) (fun E hl X Y => ?_)
  refine g_aload_n X dX9_gainOf_0 rfl rfl ?_
  refine g_iload_n X dX9_gainOf_1 rfl rfl ?_
  obtain ⟨r3, σ2, h1, h⟩ := bd_e h
  refine g_callVJ X [.int x1] (ok_HM_answerOf X.inj h1) my_yX9_answerOf mi_yX9_answerOf ms_yX9_answerOf ml_RX9_275 (by decide) rfl rfl (by decide) rfl dX9_gainOf_2 (Nat.le_of_ble_eq_true rfl) rfl rfl ?_
  refine g_aload_n X dX9_gainOf_5 rfl rfl ?_
  obtain ⟨r6, σ5, h4, h⟩ := bd_e h
  refine g_callVJ X [] (ok_HM_valueNow X.inj h4) my_yX9_valueNow mi_yX9_valueNow ms_yX9_valueNow ml_RX9_242 (by decide) rfl rfl (by decide) rfl dX9_gainOf_6 (Nat.le_of_ble_eq_true rfl) rfl rfl ?_
  refine g_lsub X dX9_gainOf_9 rfl ?_
  refine g_lstore_n X [some (.ref (w.1 9)), some (.int x1), some (.long (r3 - r6)), none] dX9_gainOf_10 (Nat.le_of_ble_eq_true rfl) rfl rfl rfl ?_
  refine g_iload_n X dX9_gainOf_11 rfl rfl ?_
  refine g_if_ne X dX9_gainOf_12 (tgt := 19) rfl rfl (fun c7 => ?_) (fun c7 => ?_)
  · replace h := if_f c7 h
    refine g_lload_n X dX9_gainOf_19 rfl rfl ?_
    refine g_lneg X dX9_gainOf_20 rfl ?_
    obtain ⟨rfl, rfl⟩ := rt_e h
    exact g_lret X Y dX9_gainOf_21
  · replace h := if_t c7 h
    refine g_lload_n X dX9_gainOf_15 rfl rfl ?_
    refine g_goto X dX9_gainOf_16 (tgt := 21) rfl ?_
    obtain ⟨rfl, rfl⟩ := rt_e h
    exact g_lret X Y dX9_gainOf_21

theorem dX9_best_0 : decode cX9_best 0 = .ok (.iload_n 1, 1) := by decide +kernel
theorem dX9_best_1 : decode cX9_best 1 = .ok (.i2l, 1) := by decide +kernel
theorem dX9_best_2 : decode cX9_best 2 = .ok (.lconst 0, 1) := by decide +kernel
theorem dX9_best_3 : decode cX9_best 3 = .ok (.lconst 1, 1) := by decide +kernel
theorem dX9_best_4 : decode cX9_best 4 = .ok (.invokestatic 91, 3) := by decide +kernel
theorem dX9_best_7 : decode cX9_best 7 = .ok (.ifCond .eq 15, 3) := by decide +kernel
theorem dX9_best_10 : decode cX9_best 10 = .ok (.iload_n 2, 1) := by decide +kernel
theorem dX9_best_11 : decode cX9_best 11 = .ok (.i2l, 1) := by decide +kernel
theorem dX9_best_12 : decode cX9_best 12 = .ok (.lconst 0, 1) := by decide +kernel
theorem dX9_best_13 : decode cX9_best 13 = .ok (.ldc2_w 105, 3) := by decide +kernel
theorem dX9_best_16 : decode cX9_best 16 = .ok (.invokestatic 91, 3) := by decide +kernel
theorem dX9_best_19 : decode cX9_best 19 = .ok (.ifCond .ne 7, 3) := by decide +kernel
theorem dX9_best_22 : decode cX9_best 22 = .ok (.ldc2_w 107, 3) := by decide +kernel
theorem dX9_best_25 : decode cX9_best 25 = .ok (.lreturn, 1) := by decide +kernel
theorem dX9_best_26 : decode cX9_best 26 = .ok (.aload_n 0, 1) := by decide +kernel
theorem dX9_best_27 : decode cX9_best 27 = .ok (.getfield 192, 3) := by decide +kernel
theorem dX9_best_30 : decode cX9_best 30 = .ok (.ifCond .eq 22, 3) := by decide +kernel
theorem dX9_best_33 : decode cX9_best 33 = .ok (.aload_n 0, 1) := by decide +kernel
theorem dX9_best_34 : decode cX9_best 34 = .ok (.iload_n 2, 1) := by decide +kernel
theorem dX9_best_35 : decode cX9_best 35 = .ok (.iconst 2, 1) := by decide +kernel
theorem dX9_best_36 : decode cX9_best 36 = .ok (.if_icmp .ne 9, 3) := by decide +kernel
theorem dX9_best_39 : decode cX9_best 39 = .ok (.iconst 1, 1) := by decide +kernel
theorem dX9_best_40 : decode cX9_best 40 = .ok (.iload_n 1, 1) := by decide +kernel
theorem dX9_best_41 : decode cX9_best 41 = .ok (.isub, 1) := by decide +kernel
theorem dX9_best_42 : decode cX9_best 42 = .ok (.goto 4, 3) := by decide +kernel
theorem dX9_best_45 : decode cX9_best 45 = .ok (.iload_n 1, 1) := by decide +kernel
theorem dX9_best_46 : decode cX9_best 46 = .ok (.invokevirtual 222, 3) := by decide +kernel
theorem dX9_best_49 : decode cX9_best 49 = .ok (.ifCond .eq 7, 3) := by decide +kernel
theorem dX9_best_52 : decode cX9_best 52 = .ok (.ldc2_w 240, 3) := by decide +kernel
theorem dX9_best_55 : decode cX9_best 55 = .ok (.lreturn, 1) := by decide +kernel
theorem dX9_best_56 : decode cX9_best 56 = .ok (.iload_n 2, 1) := by decide +kernel
theorem dX9_best_57 : decode cX9_best 57 = .ok (.ifCond .ne 11, 3) := by decide +kernel
theorem dX9_best_60 : decode cX9_best 60 = .ok (.aload_n 0, 1) := by decide +kernel
theorem dX9_best_61 : decode cX9_best 61 = .ok (.iload_n 1, 1) := by decide +kernel
theorem dX9_best_62 : decode cX9_best 62 = .ok (.invokevirtual 275, 3) := by decide +kernel
theorem dX9_best_65 : decode cX9_best 65 = .ok (.goto 19, 3) := by decide +kernel
theorem dX9_best_68 : decode cX9_best 68 = .ok (.aload_n 0, 1) := by decide +kernel
theorem dX9_best_69 : decode cX9_best 69 = .ok (.iload_n 2, 1) := by decide +kernel
theorem dX9_best_70 : decode cX9_best 70 = .ok (.iconst 1, 1) := by decide +kernel
theorem dX9_best_71 : decode cX9_best 71 = .ok (.if_icmp .ne 7, 3) := by decide +kernel
theorem dX9_best_74 : decode cX9_best 74 = .ok (.iload_n 1, 1) := by decide +kernel
theorem dX9_best_75 : decode cX9_best 75 = .ok (.goto 6, 3) := by decide +kernel
theorem dX9_best_78 : decode cX9_best 78 = .ok (.iconst 1, 1) := by decide +kernel
theorem dX9_best_79 : decode cX9_best 79 = .ok (.iload_n 1, 1) := by decide +kernel
theorem dX9_best_80 : decode cX9_best 80 = .ok (.isub, 1) := by decide +kernel
theorem dX9_best_81 : decode cX9_best 81 = .ok (.invokevirtual 278, 3) := by decide +kernel
theorem dX9_best_84 : decode cX9_best 84 = .ok (.lreturn, 1) := by decide +kernel
def f_HM_best_b81 (xs1 : Int32) (σ : St) : Option (Int64 × St) :=
  bd (f_HM_gainOf xs1 σ) fun r3 σ2 => some (r3, σ2)
set_option maxRecDepth 4000 in
theorem ok_HM_best_b81 {E : gE} {w : wT} {σ' : St} {r : Int64} (X : gC E w cX9_best 3 RX9 7) (Y : gQ E w (some .long) (some (.long r)) σ') {xs1 : Int32} (σ : St) (h : f_HM_best_b81 xs1 σ = some (r, σ')) : gW E w 3 σ 81 [] [.int xs1, .ref (w.1 9)] := by
  unfold f_HM_best_b81 at h
  obtain ⟨r3, σ2, h1, h⟩ := bd_e h
  refine g_callVJ X [.int xs1] (ok_HM_gainOf X.inj h1) my_yX9_gainOf mi_yX9_gainOf ms_yX9_gainOf ml_RX9_278 (by decide) rfl rfl (by decide) rfl dX9_best_81 (Nat.le_of_ble_eq_true rfl) rfl rfl ?_
  obtain ⟨rfl, rfl⟩ := rt_e h
  exact g_lret X Y dX9_best_84

def f_HM_best_b46 (x1 : Int32) (x2 : Int32) (xs1 : Int32) (σ : St) : Option (Int64 × St) :=
  bd (f_HM_isForgetful xs1 σ) fun r3 σ2 => if r3 = 0 then (if x2 = 0 then (bd (f_HM_answerOf x1 σ2) fun r9 σ8 => some (r9, σ8)) else (if x2 = 1 then (f_HM_best_b81 x1 σ2) else (f_HM_best_b81 (1 - x1) σ2))) else (some ((-9000000000000000002), σ2))
set_option maxRecDepth 4000 in
theorem ok_HM_best_b46 {E : gE} {w : wT} {σ' : St} {r : Int64} (X : gC E w cX9_best 3 RX9 7) (Y : gQ E w (some .long) (some (.long r)) σ') {x1 : Int32} {x2 : Int32} {xs1 : Int32} (σ : St) (h : f_HM_best_b46 x1 x2 xs1 σ = some (r, σ')) : gW E w 3 σ 46 [some (.ref (w.1 9)), some (.int x1), some (.int x2)] [.int xs1, .ref (w.1 9)] := by
  unfold f_HM_best_b46 at h
  obtain ⟨r3, σ2, h1, h⟩ := bd_e h
  refine g_callVI X [.int xs1] (ok_HM_isForgetful X.inj h1) my_yX9_isForgetful mi_yX9_isForgetful ms_yX9_isForgetful ml_RX9_222 (by decide) rfl rfl (by decide) rfl dX9_best_46 (Nat.le_of_ble_eq_true rfl) rfl rfl ?_
  refine g_if_eq X dX9_best_49 (tgt := 56) rfl rfl (fun c4 => ?_) (fun c4 => ?_)
  · replace h := if_t c4 h
    refine g_iload_n X dX9_best_56 rfl rfl ?_
    refine g_if_ne X dX9_best_57 (tgt := 68) rfl rfl (fun c5 => ?_) (fun c5 => ?_)
    · replace h := if_f c5 h
      refine g_aload_n X dX9_best_68 rfl rfl ?_
      refine g_iload_n X dX9_best_69 rfl rfl ?_
      refine g_iconst X kI_1 dX9_best_70 rfl ?_
      refine g_icmp_ne X dX9_best_71 (tgt := 78) rfl rfl (fun c6 => ?_) (fun c6 => ?_)
      · replace h := if_f c6 h
        refine g_iconst X kI_1 dX9_best_78 rfl ?_
        refine g_iload_n X dX9_best_79 rfl rfl ?_
        refine g_isub X dX9_best_80 rfl ?_
        exact g_le (lle_0) (ok_HM_best_b81 X Y σ2 h)
      · replace h := if_t c6 h
        refine g_iload_n X dX9_best_74 rfl rfl ?_
        refine g_goto X dX9_best_75 (tgt := 81) rfl ?_
        exact g_le (lle_0) (ok_HM_best_b81 X Y σ2 h)
    · replace h := if_t c5 h
      refine g_aload_n X dX9_best_60 rfl rfl ?_
      refine g_iload_n X dX9_best_61 rfl rfl ?_
      obtain ⟨r9, σ8, h7, h⟩ := bd_e h
      refine g_callVJ X [.int x1] (ok_HM_answerOf X.inj h7) my_yX9_answerOf mi_yX9_answerOf ms_yX9_answerOf ml_RX9_275 (by decide) rfl rfl (by decide) rfl dX9_best_62 (Nat.le_of_ble_eq_true rfl) rfl rfl ?_
      refine g_goto X dX9_best_65 (tgt := 84) rfl ?_
      obtain ⟨rfl, rfl⟩ := rt_e h
      exact g_lret X Y dX9_best_84
  · replace h := if_f c4 h
    refine g_ldc2 X dX9_best_52 kc_RX9_240 rfl ?_
    obtain ⟨rfl, rfl⟩ := rt_e h
    exact g_lret X Y dX9_best_55

def f_HM_best (x1 : Int32) (x2 : Int32) (σ : St) : Option (Int64 × St) :=
  bd (f_HM_in x1.toInt64 0 1 σ) fun r3 σ2 => if r3 = 0 then (some ((-9000000000000000001), σ2)) else (bd (f_HM_in x2.toInt64 0 2 σ2) fun r7 σ6 => if r7 = 0 then (some ((-9000000000000000001), σ6)) else (if (rF σ6 43) = 0 then (some ((-9000000000000000002), σ6)) else (if x2 = 2 then (f_HM_best_b46 x1 x2 (1 - x1) σ6) else (f_HM_best_b46 x1 x2 x1 σ6))))
set_option maxRecDepth 4000 in
theorem ok_HM_best {w : wT} (hi : wInj w) {l : Launch} {x1 : Int32} {x2 : Int32} {σ σ' : St} {r : Int64} (h : f_HM_best x1 x2 σ = some (r, σ')) : gM w l yX9_best cX9_best 3 (some .long) 7 [.ref (w.1 9), .int x1, .int x2] σ (some (.long r)) σ' := by
  unfold f_HM_best at h
  refine gM_of hi (by decide) [some (.ref (w.1 9)), some (.int x1), some (.int x2)] rfl (Nat.le_of_ble_eq_true rfl) (fun E hl X Y => ?_)
  refine g_iload_n X dX9_best_0 rfl rfl ?_
  refine g_i2l X dX9_best_1 rfl ?_
  refine g_lconst X kL_0 dX9_best_2 rfl ?_
  refine g_lconst X kL_1 dX9_best_3 rfl ?_
  obtain ⟨r3, σ2, h1, h⟩ := bd_e h
  refine g_callSI X [.long x1.toInt64, .long 0, .long 1] (ok_HM_in X.inj h1) my_yX9_in mt_yX9_in ml_RX9_91 (by decide) rfl dX9_best_4 (Nat.le_of_ble_eq_true rfl) rfl rfl ?_
  refine g_if_eq X dX9_best_7 (tgt := 22) rfl rfl (fun c4 => ?_) (fun c4 => ?_)
  · replace h := if_t c4 h
    refine g_ldc2 X dX9_best_22 kc_RX9_107 rfl ?_
    obtain ⟨rfl, rfl⟩ := rt_e h
    exact g_lret X Y dX9_best_25
  · replace h := if_f c4 h
    refine g_iload_n X dX9_best_10 rfl rfl ?_
    refine g_i2l X dX9_best_11 rfl ?_
    refine g_lconst X kL_0 dX9_best_12 rfl ?_
    refine g_ldc2 X dX9_best_13 kc_RX9_105 rfl ?_
    obtain ⟨r7, σ6, h5, h⟩ := bd_e h
    refine g_callSI X [.long x2.toInt64, .long 0, .long 2] (ok_HM_in X.inj h5) my_yX9_in mt_yX9_in ml_RX9_91 (by decide) rfl dX9_best_16 (Nat.le_of_ble_eq_true rfl) rfl rfl ?_
    refine g_if_ne X dX9_best_19 (tgt := 26) rfl rfl (fun c8 => ?_) (fun c8 => ?_)
    · replace h := if_f c8 h
      refine g_aload_n X dX9_best_26 rfl rfl ?_
      refine gf_RX9_192 X dX9_best_27 rfl ?_
      refine g_if_eq X dX9_best_30 (tgt := 52) rfl rfl (fun c9 => ?_) (fun c9 => ?_)
      · replace h := if_t c9 h
        refine g_ldc2 X dX9_best_52 kc_RX9_240 rfl ?_
        obtain ⟨rfl, rfl⟩ := rt_e h
        exact g_lret X Y dX9_best_55
      · replace h := if_f c9 h
        refine g_aload_n X dX9_best_33 rfl rfl ?_
        refine g_iload_n X dX9_best_34 rfl rfl ?_
        refine g_iconst X kI_2 dX9_best_35 rfl ?_
        refine g_icmp_ne X dX9_best_36 (tgt := 45) rfl rfl (fun c10 => ?_) (fun c10 => ?_)
        · replace h := if_f c10 h
          refine g_iload_n X dX9_best_45 rfl rfl ?_
          exact ok_HM_best_b46 X Y σ6 h
        · replace h := if_t c10 h
          refine g_iconst X kI_1 dX9_best_39 rfl ?_
          refine g_iload_n X dX9_best_40 rfl rfl ?_
          refine g_isub X dX9_best_41 rfl ?_
          refine g_goto X dX9_best_42 (tgt := 46) rfl ?_
          exact ok_HM_best_b46 X Y σ6 h
    · replace h := if_t c8 h
      refine g_ldc2 X dX9_best_22 kc_RX9_107 rfl ?_
      obtain ⟨rfl, rfl⟩ := rt_e h
      exact g_lret X Y dX9_best_25

theorem dX9_answer_0 : decode cX9_answer 0 = .ok (.aload_n 0, 1) := by decide +kernel
theorem dX9_answer_1 : decode cX9_answer 1 = .ok (.iload_n 1, 1) := by decide +kernel
theorem dX9_answer_2 : decode cX9_answer 2 = .ok (.invokevirtual 225, 3) := by decide +kernel
theorem dX9_answer_5 : decode cX9_answer 5 = .ok (.ifCond .ne 7, 3) := by decide +kernel
theorem dX9_answer_8 : decode cX9_answer 8 = .ok (.ldc2_w 107, 3) := by decide +kernel
theorem dX9_answer_11 : decode cX9_answer 11 = .ok (.lreturn, 1) := by decide +kernel
theorem dX9_answer_12 : decode cX9_answer 12 = .ok (.aload_n 0, 1) := by decide +kernel
theorem dX9_answer_13 : decode cX9_answer 13 = .ok (.aload_n 0, 1) := by decide +kernel
theorem dX9_answer_14 : decode cX9_answer 14 = .ok (.getfield 49, 3) := by decide +kernel
theorem dX9_answer_17 : decode cX9_answer 17 = .ok (.iload_n 1, 1) := by decide +kernel
theorem dX9_answer_18 : decode cX9_answer 18 = .ok (.iaload, 1) := by decide +kernel
theorem dX9_answer_19 : decode cX9_answer 19 = .ok (.invokevirtual 222, 3) := by decide +kernel
theorem dX9_answer_22 : decode cX9_answer 22 = .ok (.ifCond .eq 7, 3) := by decide +kernel
theorem dX9_answer_25 : decode cX9_answer 25 = .ok (.ldc2_w 240, 3) := by decide +kernel
theorem dX9_answer_28 : decode cX9_answer 28 = .ok (.lreturn, 1) := by decide +kernel
theorem dX9_answer_29 : decode cX9_answer 29 = .ok (.aload_n 0, 1) := by decide +kernel
theorem dX9_answer_30 : decode cX9_answer 30 = .ok (.aload_n 0, 1) := by decide +kernel
theorem dX9_answer_31 : decode cX9_answer 31 = .ok (.getfield 49, 3) := by decide +kernel
theorem dX9_answer_34 : decode cX9_answer 34 = .ok (.iload_n 1, 1) := by decide +kernel
theorem dX9_answer_35 : decode cX9_answer 35 = .ok (.iaload, 1) := by decide +kernel
theorem dX9_answer_36 : decode cX9_answer 36 = .ok (.invokevirtual 275, 3) := by decide +kernel
theorem dX9_answer_39 : decode cX9_answer 39 = .ok (.pop2, 1) := by decide +kernel
theorem dX9_answer_40 : decode cX9_answer 40 = .ok (.aload_n 0, 1) := by decide +kernel
theorem dX9_answer_41 : decode cX9_answer 41 = .ok (.getfield 86, 3) := by decide +kernel
theorem dX9_answer_44 : decode cX9_answer 44 = .ok (.iload_n 1, 1) := by decide +kernel
theorem dX9_answer_45 : decode cX9_answer 45 = .ok (.iaload, 1) := by decide +kernel
theorem dX9_answer_46 : decode cX9_answer 46 = .ok (.i2l, 1) := by decide +kernel
theorem dX9_answer_47 : decode cX9_answer 47 = .ok (.lreturn, 1) := by decide +kernel
def f_HM_answer (x1 : Int32) (σ : St) : Option (Int64 × St) :=
  bd (f_HM_isSet x1 σ) fun r3 σ2 => if r3 = 0 then (some ((-9000000000000000001), σ2)) else (ck (ib x1 20) <| bd (f_HM_isForgetful (rI σ2 76 x1) σ2) fun r8 σ7 => if r8 = 0 then (ck (ib x1 20) <| bd (f_HM_answerOf (rI σ7 76 x1) σ7) fun r13 σ12 => ck (ib x1 60) <| some ((rI σ12 88 x1).toInt64, σ12)) else (some ((-9000000000000000002), σ7)))
set_option maxRecDepth 4000 in
theorem ok_HM_answer {w : wT} (hi : wInj w) {l : Launch} {x1 : Int32} {σ σ' : St} {r : Int64} (h : f_HM_answer x1 σ = some (r, σ')) : gM w l yX9_answer cX9_answer 2 (some .long) 6 [.ref (w.1 9), .int x1] σ (some (.long r)) σ' := by
  unfold f_HM_answer at h
  refine gM_of hi (by decide) [some (.ref (w.1 9)), some (.int x1)] rfl (Nat.le_of_ble_eq_true rfl) (fun E hl X Y => ?_)
  refine g_aload_n X dX9_answer_0 rfl rfl ?_
  refine g_iload_n X dX9_answer_1 rfl rfl ?_
  obtain ⟨r3, σ2, h1, h⟩ := bd_e h
  refine g_callVI X [.int x1] (ok_HM_isSet X.inj h1) my_yX9_isSet mi_yX9_isSet ms_yX9_isSet ml_RX9_225 (by decide) rfl rfl (by decide) rfl dX9_answer_2 (Nat.le_of_ble_eq_true rfl) rfl rfl ?_
  refine g_if_ne X dX9_answer_5 (tgt := 12) rfl rfl (fun c4 => ?_) (fun c4 => ?_)
  · replace h := if_f c4 h
    refine g_aload_n X dX9_answer_12 rfl rfl ?_
    refine g_aload_n X dX9_answer_13 rfl rfl ?_
    refine gf_RX9_49 X dX9_answer_14 rfl ?_
    refine g_iload_n X dX9_answer_17 rfl rfl ?_
    obtain ⟨c5, h⟩ := ck_e h
    refine g_iald X ar_76.1 ar_76.2.1 ar_76.2.2 (ib_e c5) dX9_answer_18 rfl ?_
    obtain ⟨r8, σ7, h6, h⟩ := bd_e h
    refine g_callVI X [.int (rI σ2 76 x1)] (ok_HM_isForgetful X.inj h6) my_yX9_isForgetful mi_yX9_isForgetful ms_yX9_isForgetful ml_RX9_222 (by decide) rfl rfl (by decide) rfl dX9_answer_19 (Nat.le_of_ble_eq_true rfl) rfl rfl ?_
    refine g_if_eq X dX9_answer_22 (tgt := 29) rfl rfl (fun c9 => ?_) (fun c9 => ?_)
    · replace h := if_t c9 h
      refine g_aload_n X dX9_answer_29 rfl rfl ?_
      refine g_aload_n X dX9_answer_30 rfl rfl ?_
      refine gf_RX9_49 X dX9_answer_31 rfl ?_
      refine g_iload_n X dX9_answer_34 rfl rfl ?_
      obtain ⟨c10, h⟩ := ck_e h
      refine g_iald X ar_76.1 ar_76.2.1 ar_76.2.2 (ib_e c10) dX9_answer_35 rfl ?_
      obtain ⟨r13, σ12, h11, h⟩ := bd_e h
      refine g_callVJ X [.int (rI σ7 76 x1)] (ok_HM_answerOf X.inj h11) my_yX9_answerOf mi_yX9_answerOf ms_yX9_answerOf ml_RX9_275 (by decide) rfl rfl (by decide) rfl dX9_answer_36 (Nat.le_of_ble_eq_true rfl) rfl rfl ?_
      refine g_pop2 X dX9_answer_39 rfl rfl ?_
      refine g_aload_n X dX9_answer_40 rfl rfl ?_
      refine gf_RX9_86 X dX9_answer_41 rfl ?_
      refine g_iload_n X dX9_answer_44 rfl rfl ?_
      obtain ⟨c14, h⟩ := ck_e h
      refine g_iald X ar_88.1 ar_88.2.1 ar_88.2.2 (ib_e c14) dX9_answer_45 rfl ?_
      refine g_i2l X dX9_answer_46 rfl ?_
      obtain ⟨rfl, rfl⟩ := rt_e h
      exact g_lret X Y dX9_answer_47
    · replace h := if_f c9 h
      refine g_ldc2 X dX9_answer_25 kc_RX9_240 rfl ?_
      obtain ⟨rfl, rfl⟩ := rt_e h
      exact g_lret X Y dX9_answer_28
  · replace h := if_t c4 h
    refine g_ldc2 X dX9_answer_8 kc_RX9_107 rfl ?_
    obtain ⟨rfl, rfl⟩ := rt_e h
    exact g_lret X Y dX9_answer_11

theorem dX9_belief_0 : decode cX9_belief 0 = .ok (.aload_n 0, 1) := by decide +kernel
theorem dX9_belief_1 : decode cX9_belief 1 = .ok (.iload_n 1, 1) := by decide +kernel
theorem dX9_belief_2 : decode cX9_belief 2 = .ok (.invokevirtual 200, 3) := by decide +kernel
theorem dX9_belief_5 : decode cX9_belief 5 = .ok (.ifCond .eq 24, 3) := by decide +kernel
theorem dX9_belief_8 : decode cX9_belief 8 = .ok (.aload_n 0, 1) := by decide +kernel
theorem dX9_belief_9 : decode cX9_belief 9 = .ok (.getfield 28, 3) := by decide +kernel
theorem dX9_belief_12 : decode cX9_belief 12 = .ok (.iload_n 1, 1) := by decide +kernel
theorem dX9_belief_13 : decode cX9_belief 13 = .ok (.iaload, 1) := by decide +kernel
theorem dX9_belief_14 : decode cX9_belief 14 = .ok (.ldc 163, 2) := by decide +kernel
theorem dX9_belief_16 : decode cX9_belief 16 = .ok (.if_icmp .eq 13, 3) := by decide +kernel
theorem dX9_belief_19 : decode cX9_belief 19 = .ok (.iload_n 2, 1) := by decide +kernel
theorem dX9_belief_20 : decode cX9_belief 20 = .ok (.i2l, 1) := by decide +kernel
theorem dX9_belief_21 : decode cX9_belief 21 = .ok (.lconst 0, 1) := by decide +kernel
theorem dX9_belief_22 : decode cX9_belief 22 = .ok (.lconst 1, 1) := by decide +kernel
theorem dX9_belief_23 : decode cX9_belief 23 = .ok (.invokestatic 91, 3) := by decide +kernel
theorem dX9_belief_26 : decode cX9_belief 26 = .ok (.ifCond .ne 7, 3) := by decide +kernel
theorem dX9_belief_29 : decode cX9_belief 29 = .ok (.ldc2_w 107, 3) := by decide +kernel
theorem dX9_belief_32 : decode cX9_belief 32 = .ok (.lreturn, 1) := by decide +kernel
theorem dX9_belief_33 : decode cX9_belief 33 = .ok (.aload_n 0, 1) := by decide +kernel
theorem dX9_belief_34 : decode cX9_belief 34 = .ok (.iconst (-1), 1) := by decide +kernel
theorem dX9_belief_35 : decode cX9_belief 35 = .ok (.iconst (-1), 1) := by decide +kernel
theorem dX9_belief_36 : decode cX9_belief 36 = .ok (.invokevirtual 236, 3) := by decide +kernel
theorem dX9_belief_39 : decode cX9_belief 39 = .ok (.lconst 0, 1) := by decide +kernel
theorem dX9_belief_40 : decode cX9_belief 40 = .ok (.lstore_n 3, 1) := by decide +kernel
theorem dX9_belief_41 : decode cX9_belief 41 = .ok (.iconst 0, 1) := by decide +kernel
theorem dX9_belief_42 : decode cX9_belief 42 = .ok (.istore 5, 2) := by decide +kernel
theorem dX9_belief_44 : decode cX9_belief 44 = .ok (.iload 5, 2) := by decide +kernel
theorem dX9_belief_46 : decode cX9_belief 46 = .ok (.aload_n 0, 1) := by decide +kernel
theorem dX9_belief_47 : decode cX9_belief 47 = .ok (.getfield 192, 3) := by decide +kernel
theorem dX9_belief_50 : decode cX9_belief 50 = .ok (.if_icmp .ge 39, 3) := by decide +kernel
theorem dX9_belief_53 : decode cX9_belief 53 = .ok (.lload_n 3, 1) := by decide +kernel
theorem dX9_belief_54 : decode cX9_belief 54 = .ok (.aload_n 0, 1) := by decide +kernel
theorem dX9_belief_55 : decode cX9_belief 55 = .ok (.getfield 28, 3) := by decide +kernel
theorem dX9_belief_58 : decode cX9_belief 58 = .ok (.iload 5, 2) := by decide +kernel
theorem dX9_belief_60 : decode cX9_belief 60 = .ok (.iaload, 1) := by decide +kernel
theorem dX9_belief_61 : decode cX9_belief 61 = .ok (.aload_n 0, 1) := by decide +kernel
theorem dX9_belief_62 : decode cX9_belief 62 = .ok (.getfield 28, 3) := by decide +kernel
theorem dX9_belief_65 : decode cX9_belief 65 = .ok (.iload_n 1, 1) := by decide +kernel
theorem dX9_belief_66 : decode cX9_belief 66 = .ok (.iaload, 1) := by decide +kernel
theorem dX9_belief_67 : decode cX9_belief 67 = .ok (.if_icmp .ne 13, 3) := by decide +kernel
theorem dX9_belief_70 : decode cX9_belief 70 = .ok (.aload_n 0, 1) := by decide +kernel
theorem dX9_belief_71 : decode cX9_belief 71 = .ok (.getfield 73, 3) := by decide +kernel
theorem dX9_belief_74 : decode cX9_belief 74 = .ok (.iload 5, 2) := by decide +kernel
theorem dX9_belief_76 : decode cX9_belief 76 = .ok (.laload, 1) := by decide +kernel
theorem dX9_belief_77 : decode cX9_belief 77 = .ok (.goto 4, 3) := by decide +kernel
theorem dX9_belief_80 : decode cX9_belief 80 = .ok (.lconst 0, 1) := by decide +kernel
theorem dX9_belief_81 : decode cX9_belief 81 = .ok (.ladd, 1) := by decide +kernel
theorem dX9_belief_82 : decode cX9_belief 82 = .ok (.lstore_n 3, 1) := by decide +kernel
theorem dX9_belief_83 : decode cX9_belief 83 = .ok (.iinc 5 1, 3) := by decide +kernel
theorem dX9_belief_86 : decode cX9_belief 86 = .ok (.goto (-42), 3) := by decide +kernel
theorem dX9_belief_89 : decode cX9_belief 89 = .ok (.iload_n 2, 1) := by decide +kernel
theorem dX9_belief_90 : decode cX9_belief 90 = .ok (.ifCond .ne 12, 3) := by decide +kernel
theorem dX9_belief_93 : decode cX9_belief 93 = .ok (.aload_n 0, 1) := by decide +kernel
theorem dX9_belief_94 : decode cX9_belief 94 = .ok (.getfield 73, 3) := by decide +kernel
theorem dX9_belief_97 : decode cX9_belief 97 = .ok (.iload_n 1, 1) := by decide +kernel
theorem dX9_belief_98 : decode cX9_belief 98 = .ok (.laload, 1) := by decide +kernel
theorem dX9_belief_99 : decode cX9_belief 99 = .ok (.goto 4, 3) := by decide +kernel
theorem dX9_belief_102 : decode cX9_belief 102 = .ok (.lload_n 3, 1) := by decide +kernel
theorem dX9_belief_103 : decode cX9_belief 103 = .ok (.lreturn, 1) := by decide +kernel
def f_HM_belief_b81 (k44 : Int32 → Int32 → Int64 → Int32 → St → Option (Int64 × St)) (x1 : Int32) (x2 : Int32) (x5 : Int32) (xs0 : Int64) (xs1 : Int64) (σ : St) : Option (Int64 × St) :=
  k44 x1 x2 (xs0 + xs1) (x5 + 1) σ
set_option maxRecDepth 4000 in
theorem ok_HM_belief_b81 {E : gE} {w : wT} {σ' : St} {r : Int64} (X : gC E w cX9_belief 6 RX9 3) (Y : gQ E w (some .long) (some (.long r)) σ') {k44 : Int32 → Int32 → Int64 → Int32 → St → Option (Int64 × St)} (hk44 : ∀ (x1 : Int32) (x2 : Int32) (x3 : Int64) (x5 : Int32) (σ : St), k44 x1 x2 x3 x5 σ = some (r, σ') → gW E w 6 σ 44 [some (.ref (w.1 9)), some (.int x1), some (.int x2), some (.long x3), none, some (.int x5)] []) {x1 : Int32} {x2 : Int32} {x5 : Int32} {xs0 : Int64} {xs1 : Int64} (σ : St) (h : f_HM_belief_b81 k44 x1 x2 x5 xs0 xs1 σ = some (r, σ')) : gW E w 6 σ 81 [some (.ref (w.1 9)), some (.int x1), some (.int x2), none, none, some (.int x5)] [.long xs1, .long xs0] := by
  unfold f_HM_belief_b81 at h
  refine g_ladd X dX9_belief_81 rfl ?_
  refine g_lstore_n X [some (.ref (w.1 9)), some (.int x1), some (.int x2), some (.long (xs0 + xs1)), none, some (.int x5)] dX9_belief_82 (Nat.le_of_ble_eq_true rfl) rfl rfl rfl ?_
  refine g_iinc X [some (.ref (w.1 9)), some (.int x1), some (.int x2), some (.long (xs0 + xs1)), none, some (.int (x5 + 1))] dX9_belief_83 rfl (ii_1 x5) (Nat.le_of_ble_eq_true rfl) rfl rfl rfl ?_
  refine g_goto X dX9_belief_86 (tgt := 44) rfl ?_
  exact hk44 x1 x2 (xs0 + xs1) (x5 + 1) σ h

def f_HM_belief_b44 (k44 : Int32 → Int32 → Int64 → Int32 → St → Option (Int64 × St)) (x1 : Int32) (x2 : Int32) (x3 : Int64) (x5 : Int32) (σ : St) : Option (Int64 × St) :=
  if (rF σ 43) ≤ x5 then (if x2 = 0 then (ck (ib x1 60) <| some (rL σ 84 x1, σ)) else (some (x3, σ))) else (ck (ib x5 120) <| ck (ib x1 120) <| if (rI σ 69 x5) = (rI σ 69 x1) then (ck (ib x5 60) <| f_HM_belief_b81 k44 x1 x2 x5 x3 (rL σ 84 x5) σ) else (f_HM_belief_b81 k44 x1 x2 x5 x3 0 σ))
set_option maxRecDepth 4000 in
theorem ok_HM_belief_b44 {E : gE} {w : wT} {σ' : St} {r : Int64} (X : gC E w cX9_belief 6 RX9 3) (Y : gQ E w (some .long) (some (.long r)) σ') {k44 : Int32 → Int32 → Int64 → Int32 → St → Option (Int64 × St)} (hk44 : ∀ (x1 : Int32) (x2 : Int32) (x3 : Int64) (x5 : Int32) (σ : St), k44 x1 x2 x3 x5 σ = some (r, σ') → gW E w 6 σ 44 [some (.ref (w.1 9)), some (.int x1), some (.int x2), some (.long x3), none, some (.int x5)] []) {x1 : Int32} {x2 : Int32} {x3 : Int64} {x5 : Int32} (σ : St) (h : f_HM_belief_b44 k44 x1 x2 x3 x5 σ = some (r, σ')) : gW E w 6 σ 44 [some (.ref (w.1 9)), some (.int x1), some (.int x2), some (.long x3), none, some (.int x5)] [] := by
  unfold f_HM_belief_b44 at h
  refine g_iload X dX9_belief_44 rfl rfl ?_
  refine g_aload_n X dX9_belief_46 rfl rfl ?_
  refine gf_RX9_192 X dX9_belief_47 rfl ?_
  refine g_icmp_ge X dX9_belief_50 (tgt := 89) rfl rfl (fun c1 => ?_) (fun c1 => ?_)
  · replace h := if_t c1 h
    refine g_iload_n X dX9_belief_89 rfl rfl ?_
    refine g_if_ne X dX9_belief_90 (tgt := 102) rfl rfl (fun c2 => ?_) (fun c2 => ?_)
    · replace h := if_f c2 h
      refine g_lload_n X dX9_belief_102 rfl rfl ?_
      obtain ⟨rfl, rfl⟩ := rt_e h
      exact g_lret X Y dX9_belief_103
    · replace h := if_t c2 h
      refine g_aload_n X dX9_belief_93 rfl rfl ?_
      refine gf_RX9_73 X dX9_belief_94 rfl ?_
      refine g_iload_n X dX9_belief_97 rfl rfl ?_
      obtain ⟨c3, h⟩ := ck_e h
      refine g_lald X ar_84.1 ar_84.2.1 ar_84.2.2 (ib_e c3) dX9_belief_98 rfl ?_
      refine g_goto X dX9_belief_99 (tgt := 103) rfl ?_
      obtain ⟨rfl, rfl⟩ := rt_e h
      exact g_lret X Y dX9_belief_103
  · replace h := if_f c1 h
    refine g_lload_n X dX9_belief_53 rfl rfl ?_
    refine g_aload_n X dX9_belief_54 rfl rfl ?_
    refine gf_RX9_28 X dX9_belief_55 rfl ?_
    refine g_iload X dX9_belief_58 rfl rfl ?_
    obtain ⟨c4, h⟩ := ck_e h
    refine g_iald X ar_69.1 ar_69.2.1 ar_69.2.2 (ib_e c4) dX9_belief_60 rfl ?_
    refine g_aload_n X dX9_belief_61 rfl rfl ?_
    refine gf_RX9_28 X dX9_belief_62 rfl ?_
    refine g_iload_n X dX9_belief_65 rfl rfl ?_
    obtain ⟨c5, h⟩ := ck_e h
    refine g_iald X ar_69.1 ar_69.2.1 ar_69.2.2 (ib_e c5) dX9_belief_66 rfl ?_
    refine g_icmp_ne X dX9_belief_67 (tgt := 80) rfl rfl (fun c6 => ?_) (fun c6 => ?_)
    · replace h := if_f c6 h
      refine g_lconst X kL_0 dX9_belief_80 rfl ?_
      exact g_le (lle_s (lle_s (lle_s (lle_k (lle_k (lle_s (lle_0))))))) (ok_HM_belief_b81 X Y hk44 σ h)
    · replace h := if_t c6 h
      refine g_aload_n X dX9_belief_70 rfl rfl ?_
      refine gf_RX9_73 X dX9_belief_71 rfl ?_
      refine g_iload X dX9_belief_74 rfl rfl ?_
      obtain ⟨c7, h⟩ := ck_e h
      refine g_lald X ar_84.1 ar_84.2.1 ar_84.2.2 (ib_e c7) dX9_belief_76 rfl ?_
      refine g_goto X dX9_belief_77 (tgt := 81) rfl ?_
      exact g_le (lle_s (lle_s (lle_s (lle_k (lle_k (lle_s (lle_0))))))) (ok_HM_belief_b81 X Y hk44 σ h)
def f_HM_belief_l44 : Int32 → Int32 → Int64 → Int32 → St → Option (Int64 × St) := lp (fun _ _ _ _ _ => none) (f_HM_belief_b44) FU
theorem ok_HM_belief_l44 {E : gE} {w : wT} {σ' : St} {r : Int64} (X : gC E w cX9_belief 6 RX9 3) (Y : gQ E w (some .long) (some (.long r)) σ') {x1 : Int32} {x2 : Int32} {x3 : Int64} {x5 : Int32} (σ : St) (h : f_HM_belief_l44 x1 x2 x3 x5 σ = some (r, σ')) : gW E w 6 σ 44 [some (.ref (w.1 9)), some (.int x1), some (.int x2), some (.long x3), none, some (.int x5)] [] :=
  lp_ind (P := fun (k : Int32 → Int32 → Int64 → Int32 → St → Option (Int64 × St)) => ∀ (x1 : Int32) (x2 : Int32) (x3 : Int64) (x5 : Int32) (σ : St), k x1 x2 x3 x5 σ = some (r, σ') → gW E w 6 σ 44 [some (.ref (w.1 9)), some (.int x1), some (.int x2), some (.long x3), none, some (.int x5)] []) (fun _ _ _ _ _ hh => nn hh) (fun k hk x1 x2 x3 x5 σ  hh => ok_HM_belief_b44 X Y hk σ hh) FU x1 x2 x3 x5 σ  h

def f_HM_belief (x1 : Int32) (x2 : Int32) (σ : St) : Option (Int64 × St) :=
  bd (f_HM_isPlace x1 σ) fun r3 σ2 => if r3 = 0 then (some ((-9000000000000000001), σ2)) else (ck (ib x1 120) <| if (rI σ2 69 x1) = ((-1000000)) then (some ((-9000000000000000001), σ2)) else (bd (f_HM_in x2.toInt64 0 1 σ2) fun r9 σ8 => if r9 = 0 then (some ((-9000000000000000001), σ8)) else (bv (f_HM_layReach ((-1)) ((-1)) σ8) fun σ12 => f_HM_belief_l44 x1 x2 0 0 σ12)))
set_option maxRecDepth 4000 in
theorem ok_HM_belief {w : wT} (hi : wInj w) {l : Launch} {x1 : Int32} {x2 : Int32} {σ σ' : St} {r : Int64} (h : f_HM_belief x1 x2 σ = some (r, σ')) : gM w l yX9_belief cX9_belief 6 (some .long) 3 [.ref (w.1 9), .int x1, .int x2] σ (some (.long r)) σ' := by
  unfold f_HM_belief at h
  refine gM_of hi (by decide) [some (.ref (w.1 9)), some (.int x1), some (.int x2)] rfl (Nat.le_of_ble_eq_true rfl) (fun E hl X Y => ?_)
  refine g_aload_n X dX9_belief_0 rfl rfl ?_
  refine g_iload_n X dX9_belief_1 rfl rfl ?_
  obtain ⟨r3, σ2, h1, h⟩ := bd_e h
  refine g_callVI X [.int x1] (ok_HM_isPlace X.inj h1) my_yX9_isPlace mi_yX9_isPlace ms_yX9_isPlace ml_RX9_200 (by decide) rfl rfl (by decide) rfl dX9_belief_2 (Nat.le_of_ble_eq_true rfl) rfl rfl ?_
  refine g_if_eq X dX9_belief_5 (tgt := 29) rfl rfl (fun c4 => ?_) (fun c4 => ?_)
  · replace h := if_t c4 h
    refine g_ldc2 X dX9_belief_29 kc_RX9_107 rfl ?_
    obtain ⟨rfl, rfl⟩ := rt_e h
    exact g_lret X Y dX9_belief_32
  · replace h := if_f c4 h
    refine g_aload_n X dX9_belief_8 rfl rfl ?_
    refine gf_RX9_28 X dX9_belief_9 rfl ?_
    refine g_iload_n X dX9_belief_12 rfl rfl ?_
    obtain ⟨c5, h⟩ := ck_e h
    refine g_iald X ar_69.1 ar_69.2.1 ar_69.2.2 (ib_e c5) dX9_belief_13 rfl ?_
    refine g_ldc X dX9_belief_14 kc_RX9_163 rfl ?_
    refine g_icmp_eq X dX9_belief_16 (tgt := 29) rfl rfl (fun c6 => ?_) (fun c6 => ?_)
    · replace h := if_t c6 h
      refine g_ldc2 X dX9_belief_29 kc_RX9_107 rfl ?_
      obtain ⟨rfl, rfl⟩ := rt_e h
      exact g_lret X Y dX9_belief_32
    · replace h := if_f c6 h
      refine g_iload_n X dX9_belief_19 rfl rfl ?_
      refine g_i2l X dX9_belief_20 rfl ?_
      refine g_lconst X kL_0 dX9_belief_21 rfl ?_
      refine g_lconst X kL_1 dX9_belief_22 rfl ?_
      obtain ⟨r9, σ8, h7, h⟩ := bd_e h
      refine g_callSI X [.long x2.toInt64, .long 0, .long 1] (ok_HM_in X.inj h7) my_yX9_in mt_yX9_in ml_RX9_91 (by decide) rfl dX9_belief_23 (Nat.le_of_ble_eq_true rfl) rfl rfl ?_
      refine g_if_ne X dX9_belief_26 (tgt := 33) rfl rfl (fun c10 => ?_) (fun c10 => ?_)
      · replace h := if_f c10 h
        refine g_aload_n X dX9_belief_33 rfl rfl ?_
        refine g_iconst X kI_m1 dX9_belief_34 rfl ?_
        refine g_iconst X kI_m1 dX9_belief_35 rfl ?_
        obtain ⟨σ12, h11, h⟩ := bv_e h
        refine g_callVV X [.int ((-1)), .int ((-1))] (ok_HM_layReach X.inj h11) my_yX9_layReach mi_yX9_layReach ms_yX9_layReach ml_RX9_236 (by decide) rfl rfl (by decide) rfl dX9_belief_36 (Nat.le_of_ble_eq_true rfl) rfl rfl ?_
        refine g_lconst X kL_0 dX9_belief_39 rfl ?_
        refine g_lstore_n X [some (.ref (w.1 9)), some (.int x1), some (.int x2), some (.long 0), none] dX9_belief_40 (Nat.le_of_ble_eq_true rfl) rfl rfl rfl ?_
        refine g_iconst X kI_0 dX9_belief_41 rfl ?_
        refine g_istore X [some (.ref (w.1 9)), some (.int x1), some (.int x2), some (.long 0), none, some (.int 0)] dX9_belief_42 (Nat.le_of_ble_eq_true rfl) rfl rfl rfl ?_
        exact ok_HM_belief_l44 X Y σ12 h
      · replace h := if_t c10 h
        refine g_ldc2 X dX9_belief_29 kc_RX9_107 rfl ?_
        obtain ⟨rfl, rfl⟩ := rt_e h
        exact g_lret X Y dX9_belief_32

theorem dX9_through_0 : decode cX9_through 0 = .ok (.iload_n 1, 1) := by decide +kernel
theorem dX9_through_1 : decode cX9_through 1 = .ok (.istore_n 3, 1) := by decide +kernel
theorem dX9_through_2 : decode cX9_through 2 = .ok (.iload_n 3, 1) := by decide +kernel
theorem dX9_through_3 : decode cX9_through 3 = .ok (.ldc 163, 2) := by decide +kernel
theorem dX9_through_5 : decode cX9_through 5 = .ok (.if_icmp .eq 23, 3) := by decide +kernel
theorem dX9_through_8 : decode cX9_through 8 = .ok (.aload_n 0, 1) := by decide +kernel
theorem dX9_through_9 : decode cX9_through 9 = .ok (.getfield 28, 3) := by decide +kernel
theorem dX9_through_12 : decode cX9_through 12 = .ok (.iload_n 3, 1) := by decide +kernel
theorem dX9_through_13 : decode cX9_through 13 = .ok (.iaload, 1) := by decide +kernel
theorem dX9_through_14 : decode cX9_through 14 = .ok (.iload_n 2, 1) := by decide +kernel
theorem dX9_through_15 : decode cX9_through 15 = .ok (.if_icmp .eq 13, 3) := by decide +kernel
theorem dX9_through_18 : decode cX9_through 18 = .ok (.aload_n 0, 1) := by decide +kernel
theorem dX9_through_19 : decode cX9_through 19 = .ok (.getfield 34, 3) := by decide +kernel
theorem dX9_through_22 : decode cX9_through 22 = .ok (.iload_n 3, 1) := by decide +kernel
theorem dX9_through_23 : decode cX9_through 23 = .ok (.iaload, 1) := by decide +kernel
theorem dX9_through_24 : decode cX9_through 24 = .ok (.istore_n 3, 1) := by decide +kernel
theorem dX9_through_25 : decode cX9_through 25 = .ok (.goto (-23), 3) := by decide +kernel
theorem dX9_through_28 : decode cX9_through 28 = .ok (.iload_n 3, 1) := by decide +kernel
theorem dX9_through_29 : decode cX9_through 29 = .ok (.ireturn, 1) := by decide +kernel
def f_HM_through_b2 (k2 : Int32 → Int32 → St → Option (Int32 × St)) (x2 : Int32) (x3 : Int32) (σ : St) : Option (Int32 × St) :=
  if x3 = ((-1000000)) then (some (x3, σ)) else (ck (ib x3 120) <| if (rI σ 69 x3) = x2 then (some (x3, σ)) else (ck (ib x3 120) <| k2 x2 (rI σ 71 x3) σ))
set_option maxRecDepth 4000 in
theorem ok_HM_through_b2 {E : gE} {w : wT} {σ' : St} {r : Int32} (X : gC E w cX9_through 4 RX9 1) (Y : gQ E w (some .int) (some (.int r)) σ') {k2 : Int32 → Int32 → St → Option (Int32 × St)} (hk2 : ∀ (x2 : Int32) (x3 : Int32) (σ : St), k2 x2 x3 σ = some (r, σ') → gW E w 4 σ 2 [some (.ref (w.1 9)), none, some (.int x2), some (.int x3)] []) {x2 : Int32} {x3 : Int32} (σ : St) (h : f_HM_through_b2 k2 x2 x3 σ = some (r, σ')) : gW E w 4 σ 2 [some (.ref (w.1 9)), none, some (.int x2), some (.int x3)] [] := by
  unfold f_HM_through_b2 at h
  refine g_iload_n X dX9_through_2 rfl rfl ?_
  refine g_ldc X dX9_through_3 kc_RX9_163 rfl ?_
  refine g_icmp_eq X dX9_through_5 (tgt := 28) rfl rfl (fun c1 => ?_) (fun c1 => ?_)
  · replace h := if_t c1 h
    refine g_iload_n X dX9_through_28 rfl rfl ?_
    obtain ⟨rfl, rfl⟩ := rt_e h
    exact g_iret X Y dX9_through_29
  · replace h := if_f c1 h
    refine g_aload_n X dX9_through_8 rfl rfl ?_
    refine gf_RX9_28 X dX9_through_9 rfl ?_
    refine g_iload_n X dX9_through_12 rfl rfl ?_
    obtain ⟨c2, h⟩ := ck_e h
    refine g_iald X ar_69.1 ar_69.2.1 ar_69.2.2 (ib_e c2) dX9_through_13 rfl ?_
    refine g_iload_n X dX9_through_14 rfl rfl ?_
    refine g_icmp_eq X dX9_through_15 (tgt := 28) rfl rfl (fun c3 => ?_) (fun c3 => ?_)
    · replace h := if_t c3 h
      refine g_iload_n X dX9_through_28 rfl rfl ?_
      obtain ⟨rfl, rfl⟩ := rt_e h
      exact g_iret X Y dX9_through_29
    · replace h := if_f c3 h
      refine g_aload_n X dX9_through_18 rfl rfl ?_
      refine gf_RX9_34 X dX9_through_19 rfl ?_
      refine g_iload_n X dX9_through_22 rfl rfl ?_
      obtain ⟨c4, h⟩ := ck_e h
      refine g_iald X ar_71.1 ar_71.2.1 ar_71.2.2 (ib_e c4) dX9_through_23 rfl ?_
      refine g_istore_n X [some (.ref (w.1 9)), none, some (.int x2), some (.int (rI σ 71 x3))] dX9_through_24 (Nat.le_of_ble_eq_true rfl) rfl rfl rfl ?_
      refine g_goto X dX9_through_25 (tgt := 2) rfl ?_
      exact hk2 x2 (rI σ 71 x3) σ h
def f_HM_through_l2 : Int32 → Int32 → St → Option (Int32 × St) := lp (fun _ _ _ => none) (f_HM_through_b2) FU
theorem ok_HM_through_l2 {E : gE} {w : wT} {σ' : St} {r : Int32} (X : gC E w cX9_through 4 RX9 1) (Y : gQ E w (some .int) (some (.int r)) σ') {x2 : Int32} {x3 : Int32} (σ : St) (h : f_HM_through_l2 x2 x3 σ = some (r, σ')) : gW E w 4 σ 2 [some (.ref (w.1 9)), none, some (.int x2), some (.int x3)] [] :=
  lp_ind (P := fun (k : Int32 → Int32 → St → Option (Int32 × St)) => ∀ (x2 : Int32) (x3 : Int32) (σ : St), k x2 x3 σ = some (r, σ') → gW E w 4 σ 2 [some (.ref (w.1 9)), none, some (.int x2), some (.int x3)] []) (fun _ _ _ hh => nn hh) (fun k hk x2 x3 σ  hh => ok_HM_through_b2 X Y hk σ hh) FU x2 x3 σ  h

def f_HM_through (x1 : Int32) (x2 : Int32) (σ : St) : Option (Int32 × St) :=
  f_HM_through_l2 x2 x1 σ
set_option maxRecDepth 4000 in
theorem ok_HM_through {w : wT} (hi : wInj w) {l : Launch} {x1 : Int32} {x2 : Int32} {σ σ' : St} {r : Int32} (h : f_HM_through x1 x2 σ = some (r, σ')) : gM w l yX9_through cX9_through 4 (some .int) 1 [.ref (w.1 9), .int x1, .int x2] σ (some (.int r)) σ' := by
  unfold f_HM_through at h
  refine gM_of hi (by decide) [some (.ref (w.1 9)), some (.int x1), some (.int x2)] rfl (Nat.le_of_ble_eq_true rfl) (fun E hl X Y => ?_)
  refine g_iload_n X dX9_through_0 rfl rfl ?_
  refine g_istore_n X [some (.ref (w.1 9)), some (.int x1), some (.int x2), some (.int x1)] dX9_through_1 (Nat.le_of_ble_eq_true rfl) rfl rfl rfl ?_
  exact g_le (lle_s (lle_k (lle_s (lle_s (lle_0))))) (ok_HM_through_l2 X Y σ h)

theorem dX9_seeing_0 : decode cX9_seeing 0 = .ok (.aload_n 0, 1) := by decide +kernel
theorem dX9_seeing_1 : decode cX9_seeing 1 = .ok (.iload_n 1, 1) := by decide +kernel
theorem dX9_seeing_2 : decode cX9_seeing 2 = .ok (.invokevirtual 225, 3) := by decide +kernel
theorem dX9_seeing_5 : decode cX9_seeing 5 = .ok (.ifCond .ne 7, 3) := by decide +kernel
theorem dX9_seeing_8 : decode cX9_seeing 8 = .ok (.ldc2_w 107, 3) := by decide +kernel
theorem dX9_seeing_11 : decode cX9_seeing 11 = .ok (.lreturn, 1) := by decide +kernel
theorem dX9_seeing_12 : decode cX9_seeing 12 = .ok (.aload_n 0, 1) := by decide +kernel
theorem dX9_seeing_13 : decode cX9_seeing 13 = .ok (.getfield 49, 3) := by decide +kernel
theorem dX9_seeing_16 : decode cX9_seeing 16 = .ok (.iload_n 1, 1) := by decide +kernel
theorem dX9_seeing_17 : decode cX9_seeing 17 = .ok (.iaload, 1) := by decide +kernel
theorem dX9_seeing_18 : decode cX9_seeing 18 = .ok (.istore_n 2, 1) := by decide +kernel
theorem dX9_seeing_19 : decode cX9_seeing 19 = .ok (.aload_n 0, 1) := by decide +kernel
theorem dX9_seeing_20 : decode cX9_seeing 20 = .ok (.iload_n 2, 1) := by decide +kernel
theorem dX9_seeing_21 : decode cX9_seeing 21 = .ok (.invokevirtual 222, 3) := by decide +kernel
theorem dX9_seeing_24 : decode cX9_seeing 24 = .ok (.ifCond .eq 7, 3) := by decide +kernel
theorem dX9_seeing_27 : decode cX9_seeing 27 = .ok (.ldc2_w 240, 3) := by decide +kernel
theorem dX9_seeing_30 : decode cX9_seeing 30 = .ok (.lreturn, 1) := by decide +kernel
theorem dX9_seeing_31 : decode cX9_seeing 31 = .ok (.aload_n 0, 1) := by decide +kernel
theorem dX9_seeing_32 : decode cX9_seeing 32 = .ok (.iload_n 2, 1) := by decide +kernel
theorem dX9_seeing_33 : decode cX9_seeing 33 = .ok (.invokevirtual 275, 3) := by decide +kernel
theorem dX9_seeing_36 : decode cX9_seeing 36 = .ok (.lstore_n 3, 1) := by decide +kernel
theorem dX9_seeing_37 : decode cX9_seeing 37 = .ok (.iconst 0, 1) := by decide +kernel
theorem dX9_seeing_38 : decode cX9_seeing 38 = .ok (.istore 5, 2) := by decide +kernel
theorem dX9_seeing_40 : decode cX9_seeing 40 = .ok (.iload 5, 2) := by decide +kernel
theorem dX9_seeing_42 : decode cX9_seeing 42 = .ok (.aload_n 0, 1) := by decide +kernel
theorem dX9_seeing_43 : decode cX9_seeing 43 = .ok (.getfield 192, 3) := by decide +kernel
theorem dX9_seeing_46 : decode cX9_seeing 46 = .ok (.if_icmp .ge 115, 3) := by decide +kernel
theorem dX9_seeing_49 : decode cX9_seeing 49 = .ok (.aload_n 0, 1) := by decide +kernel
theorem dX9_seeing_50 : decode cX9_seeing 50 = .ok (.getfield 80, 3) := by decide +kernel
theorem dX9_seeing_53 : decode cX9_seeing 53 = .ok (.iload 5, 2) := by decide +kernel
theorem dX9_seeing_55 : decode cX9_seeing 55 = .ok (.iload 5, 2) := by decide +kernel
theorem dX9_seeing_57 : decode cX9_seeing 57 = .ok (.iastore, 1) := by decide +kernel
theorem dX9_seeing_58 : decode cX9_seeing 58 = .ok (.iload 5, 2) := by decide +kernel
theorem dX9_seeing_60 : decode cX9_seeing 60 = .ok (.iconst 1, 1) := by decide +kernel
theorem dX9_seeing_61 : decode cX9_seeing 61 = .ok (.isub, 1) := by decide +kernel
theorem dX9_seeing_62 : decode cX9_seeing 62 = .ok (.istore 6, 2) := by decide +kernel
theorem dX9_seeing_64 : decode cX9_seeing 64 = .ok (.iload 6, 2) := by decide +kernel
theorem dX9_seeing_66 : decode cX9_seeing 66 = .ok (.ifCond .lt 89, 3) := by decide +kernel
theorem dX9_seeing_69 : decode cX9_seeing 69 = .ok (.aload_n 0, 1) := by decide +kernel
theorem dX9_seeing_70 : decode cX9_seeing 70 = .ok (.iload 5, 2) := by decide +kernel
theorem dX9_seeing_72 : decode cX9_seeing 72 = .ok (.iload_n 2, 1) := by decide +kernel
theorem dX9_seeing_73 : decode cX9_seeing 73 = .ok (.invokevirtual 208, 3) := by decide +kernel
theorem dX9_seeing_76 : decode cX9_seeing 76 = .ok (.ifCond .eq 41, 3) := by decide +kernel
theorem dX9_seeing_79 : decode cX9_seeing 79 = .ok (.aload_n 0, 1) := by decide +kernel
theorem dX9_seeing_80 : decode cX9_seeing 80 = .ok (.getfield 28, 3) := by decide +kernel
theorem dX9_seeing_83 : decode cX9_seeing 83 = .ok (.iload 5, 2) := by decide +kernel
theorem dX9_seeing_85 : decode cX9_seeing 85 = .ok (.iaload, 1) := by decide +kernel
theorem dX9_seeing_86 : decode cX9_seeing 86 = .ok (.aload_n 0, 1) := by decide +kernel
theorem dX9_seeing_87 : decode cX9_seeing 87 = .ok (.getfield 28, 3) := by decide +kernel
theorem dX9_seeing_90 : decode cX9_seeing 90 = .ok (.iload 6, 2) := by decide +kernel
theorem dX9_seeing_92 : decode cX9_seeing 92 = .ok (.iaload, 1) := by decide +kernel
theorem dX9_seeing_93 : decode cX9_seeing 93 = .ok (.if_icmp .ne 24, 3) := by decide +kernel
theorem dX9_seeing_96 : decode cX9_seeing 96 = .ok (.aload_n 0, 1) := by decide +kernel
theorem dX9_seeing_97 : decode cX9_seeing 97 = .ok (.iload 5, 2) := by decide +kernel
theorem dX9_seeing_99 : decode cX9_seeing 99 = .ok (.iload_n 1, 1) := by decide +kernel
theorem dX9_seeing_100 : decode cX9_seeing 100 = .ok (.invokevirtual 281, 3) := by decide +kernel
theorem dX9_seeing_103 : decode cX9_seeing 103 = .ok (.aload_n 0, 1) := by decide +kernel
theorem dX9_seeing_104 : decode cX9_seeing 104 = .ok (.iload 6, 2) := by decide +kernel
theorem dX9_seeing_106 : decode cX9_seeing 106 = .ok (.iload_n 1, 1) := by decide +kernel
theorem dX9_seeing_107 : decode cX9_seeing 107 = .ok (.invokevirtual 281, 3) := by decide +kernel
theorem dX9_seeing_110 : decode cX9_seeing 110 = .ok (.if_icmp .ne 7, 3) := by decide +kernel
theorem dX9_seeing_113 : decode cX9_seeing 113 = .ok (.iconst 1, 1) := by decide +kernel
theorem dX9_seeing_114 : decode cX9_seeing 114 = .ok (.goto 4, 3) := by decide +kernel
theorem dX9_seeing_117 : decode cX9_seeing 117 = .ok (.iconst 0, 1) := by decide +kernel
theorem dX9_seeing_118 : decode cX9_seeing 118 = .ok (.istore 7, 2) := by decide +kernel
theorem dX9_seeing_120 : decode cX9_seeing 120 = .ok (.aload_n 0, 1) := by decide +kernel
theorem dX9_seeing_121 : decode cX9_seeing 121 = .ok (.getfield 80, 3) := by decide +kernel
theorem dX9_seeing_124 : decode cX9_seeing 124 = .ok (.iload 5, 2) := by decide +kernel
theorem dX9_seeing_126 : decode cX9_seeing 126 = .ok (.iload 7, 2) := by decide +kernel
theorem dX9_seeing_128 : decode cX9_seeing 128 = .ok (.ifCond .eq 13, 3) := by decide +kernel
theorem dX9_seeing_131 : decode cX9_seeing 131 = .ok (.aload_n 0, 1) := by decide +kernel
theorem dX9_seeing_132 : decode cX9_seeing 132 = .ok (.getfield 80, 3) := by decide +kernel
theorem dX9_seeing_135 : decode cX9_seeing 135 = .ok (.iload 6, 2) := by decide +kernel
theorem dX9_seeing_137 : decode cX9_seeing 137 = .ok (.iaload, 1) := by decide +kernel
theorem dX9_seeing_138 : decode cX9_seeing 138 = .ok (.goto 10, 3) := by decide +kernel
theorem dX9_seeing_141 : decode cX9_seeing 141 = .ok (.aload_n 0, 1) := by decide +kernel
theorem dX9_seeing_142 : decode cX9_seeing 142 = .ok (.getfield 80, 3) := by decide +kernel
theorem dX9_seeing_145 : decode cX9_seeing 145 = .ok (.iload 5, 2) := by decide +kernel
theorem dX9_seeing_147 : decode cX9_seeing 147 = .ok (.iaload, 1) := by decide +kernel
theorem dX9_seeing_148 : decode cX9_seeing 148 = .ok (.iastore, 1) := by decide +kernel
theorem dX9_seeing_149 : decode cX9_seeing 149 = .ok (.iinc 6 (-1), 3) := by decide +kernel
theorem dX9_seeing_152 : decode cX9_seeing 152 = .ok (.goto (-88), 3) := by decide +kernel
theorem dX9_seeing_155 : decode cX9_seeing 155 = .ok (.iinc 5 1, 3) := by decide +kernel
theorem dX9_seeing_158 : decode cX9_seeing 158 = .ok (.goto (-118), 3) := by decide +kernel
theorem dX9_seeing_161 : decode cX9_seeing 161 = .ok (.aload_n 0, 1) := by decide +kernel
theorem dX9_seeing_162 : decode cX9_seeing 162 = .ok (.iload_n 2, 1) := by decide +kernel
theorem dX9_seeing_163 : decode cX9_seeing 163 = .ok (.invokevirtual 272, 3) := by decide +kernel
theorem dX9_seeing_166 : decode cX9_seeing 166 = .ok (.lload_n 3, 1) := by decide +kernel
theorem dX9_seeing_167 : decode cX9_seeing 167 = .ok (.lsub, 1) := by decide +kernel
theorem dX9_seeing_168 : decode cX9_seeing 168 = .ok (.lstore 5, 2) := by decide +kernel
theorem dX9_seeing_170 : decode cX9_seeing 170 = .ok (.iload_n 2, 1) := by decide +kernel
theorem dX9_seeing_171 : decode cX9_seeing 171 = .ok (.ifCond .ne 8, 3) := by decide +kernel
theorem dX9_seeing_174 : decode cX9_seeing 174 = .ok (.lload 5, 2) := by decide +kernel
theorem dX9_seeing_176 : decode cX9_seeing 176 = .ok (.goto 6, 3) := by decide +kernel
theorem dX9_seeing_179 : decode cX9_seeing 179 = .ok (.lload 5, 2) := by decide +kernel
theorem dX9_seeing_181 : decode cX9_seeing 181 = .ok (.lneg, 1) := by decide +kernel
theorem dX9_seeing_182 : decode cX9_seeing 182 = .ok (.lreturn, 1) := by decide +kernel
def f_HM_seeing_b148 (k64 : Int32 → Int32 → Int64 → Int32 → Int32 → St → Option (Int64 × St)) (x1 : Int32) (x2 : Int32) (x3 : Int64) (x5 : Int32) (x6 : Int32) (xs1 : Int32) (xs2 : Int32) (σ : St) : Option (Int64 × St) :=
  ck (ib xs1 60) <| lE (stA σ 86 xs1.toNatClampNeg xs2) fun σ2 => k64 x1 x2 x3 x5 (x6 + (-1)) σ2
set_option maxRecDepth 4000 in
theorem ok_HM_seeing_b148 {E : gE} {w : wT} {σ' : St} {r : Int64} (X : gC E w cX9_seeing 8 RX9 6) (Y : gQ E w (some .long) (some (.long r)) σ') {k64 : Int32 → Int32 → Int64 → Int32 → Int32 → St → Option (Int64 × St)} (hk64 : ∀ (x1 : Int32) (x2 : Int32) (x3 : Int64) (x5 : Int32) (x6 : Int32) (σ : St), k64 x1 x2 x3 x5 x6 σ = some (r, σ') → gW E w 8 σ 64 [some (.ref (w.1 9)), some (.int x1), some (.int x2), some (.long x3), none, some (.int x5), some (.int x6)] []) {x1 : Int32} {x2 : Int32} {x3 : Int64} {x5 : Int32} {x6 : Int32} {xs1 : Int32} {xs2 : Int32} (σ : St) (h : f_HM_seeing_b148 k64 x1 x2 x3 x5 x6 xs1 xs2 σ = some (r, σ')) : gW E w 8 σ 148 [some (.ref (w.1 9)), some (.int x1), some (.int x2), some (.long x3), none, some (.int x5), some (.int x6)] [.int xs2, .int xs1, .ref (w.1 86)] := by
  unfold f_HM_seeing_b148 at h
  obtain ⟨c1, h⟩ := ck_e h
  refine g_iast X ar_86.1 ar_86.2.1 ar_86.2.2 (ib_e c1) dX9_seeing_148 rfl (fun σ2 e3 => ?_)
  replace h := lE_c e3 h
  refine g_iinc X [some (.ref (w.1 9)), some (.int x1), some (.int x2), some (.long x3), none, some (.int x5), some (.int (x6 + (-1)))] dX9_seeing_149 rfl (ii_m1 x6) (Nat.le_of_ble_eq_true rfl) rfl rfl rfl ?_
  refine g_goto X dX9_seeing_152 (tgt := 64) rfl ?_
  exact hk64 x1 x2 x3 x5 (x6 + (-1)) σ2 h

def f_HM_seeing_b118 (k64 : Int32 → Int32 → Int64 → Int32 → Int32 → St → Option (Int64 × St)) (x1 : Int32) (x2 : Int32) (x3 : Int64) (x5 : Int32) (x6 : Int32) (xs0 : Int32) (σ : St) : Option (Int64 × St) :=
  if xs0 = 0 then (ck (ib x5 60) <| f_HM_seeing_b148 k64 x1 x2 x3 x5 x6 x5 (rI σ 86 x5) σ) else (ck (ib x6 60) <| f_HM_seeing_b148 k64 x1 x2 x3 x5 x6 x5 (rI σ 86 x6) σ)
set_option maxRecDepth 4000 in
theorem ok_HM_seeing_b118 {E : gE} {w : wT} {σ' : St} {r : Int64} (X : gC E w cX9_seeing 8 RX9 6) (Y : gQ E w (some .long) (some (.long r)) σ') {k64 : Int32 → Int32 → Int64 → Int32 → Int32 → St → Option (Int64 × St)} (hk64 : ∀ (x1 : Int32) (x2 : Int32) (x3 : Int64) (x5 : Int32) (x6 : Int32) (σ : St), k64 x1 x2 x3 x5 x6 σ = some (r, σ') → gW E w 8 σ 64 [some (.ref (w.1 9)), some (.int x1), some (.int x2), some (.long x3), none, some (.int x5), some (.int x6)] []) {x1 : Int32} {x2 : Int32} {x3 : Int64} {x5 : Int32} {x6 : Int32} {xs0 : Int32} (σ : St) (h : f_HM_seeing_b118 k64 x1 x2 x3 x5 x6 xs0 σ = some (r, σ')) : gW E w 8 σ 118 [some (.ref (w.1 9)), some (.int x1), some (.int x2), some (.long x3), none, some (.int x5), some (.int x6)] [.int xs0] := by
  unfold f_HM_seeing_b118 at h
  refine g_istore X [some (.ref (w.1 9)), some (.int x1), some (.int x2), some (.long x3), none, some (.int x5), some (.int x6), some (.int xs0)] dX9_seeing_118 (Nat.le_of_ble_eq_true rfl) rfl rfl rfl ?_
  refine g_aload_n X dX9_seeing_120 rfl rfl ?_
  refine gf_RX9_80 X dX9_seeing_121 rfl ?_
  refine g_iload X dX9_seeing_124 rfl rfl ?_
  refine g_iload X dX9_seeing_126 rfl rfl ?_
  refine g_if_eq X dX9_seeing_128 (tgt := 141) rfl rfl (fun c1 => ?_) (fun c1 => ?_)
  · replace h := if_t c1 h
    refine g_aload_n X dX9_seeing_141 rfl rfl ?_
    refine gf_RX9_80 X dX9_seeing_142 rfl ?_
    refine g_iload X dX9_seeing_145 rfl rfl ?_
    obtain ⟨c2, h⟩ := ck_e h
    refine g_iald X ar_86.1 ar_86.2.1 ar_86.2.2 (ib_e c2) dX9_seeing_147 rfl ?_
    exact g_le (lle_s (lle_s (lle_s (lle_s (lle_k (lle_s (lle_s (lle_0)))))))) (ok_HM_seeing_b148 X Y hk64 σ h)
  · replace h := if_f c1 h
    refine g_aload_n X dX9_seeing_131 rfl rfl ?_
    refine gf_RX9_80 X dX9_seeing_132 rfl ?_
    refine g_iload X dX9_seeing_135 rfl rfl ?_
    obtain ⟨c3, h⟩ := ck_e h
    refine g_iald X ar_86.1 ar_86.2.1 ar_86.2.2 (ib_e c3) dX9_seeing_137 rfl ?_
    refine g_goto X dX9_seeing_138 (tgt := 148) rfl ?_
    exact g_le (lle_s (lle_s (lle_s (lle_s (lle_k (lle_s (lle_s (lle_0)))))))) (ok_HM_seeing_b148 X Y hk64 σ h)

def f_HM_seeing_b117 (k64 : Int32 → Int32 → Int64 → Int32 → Int32 → St → Option (Int64 × St)) (x1 : Int32) (x2 : Int32) (x3 : Int64) (x5 : Int32) (x6 : Int32) (σ : St) : Option (Int64 × St) :=
  f_HM_seeing_b118 k64 x1 x2 x3 x5 x6 0 σ
set_option maxRecDepth 4000 in
theorem ok_HM_seeing_b117 {E : gE} {w : wT} {σ' : St} {r : Int64} (X : gC E w cX9_seeing 8 RX9 6) (Y : gQ E w (some .long) (some (.long r)) σ') {k64 : Int32 → Int32 → Int64 → Int32 → Int32 → St → Option (Int64 × St)} (hk64 : ∀ (x1 : Int32) (x2 : Int32) (x3 : Int64) (x5 : Int32) (x6 : Int32) (σ : St), k64 x1 x2 x3 x5 x6 σ = some (r, σ') → gW E w 8 σ 64 [some (.ref (w.1 9)), some (.int x1), some (.int x2), some (.long x3), none, some (.int x5), some (.int x6)] []) {x1 : Int32} {x2 : Int32} {x3 : Int64} {x5 : Int32} {x6 : Int32} (σ : St) (h : f_HM_seeing_b117 k64 x1 x2 x3 x5 x6 σ = some (r, σ')) : gW E w 8 σ 117 [some (.ref (w.1 9)), some (.int x1), some (.int x2), some (.long x3), none, some (.int x5), some (.int x6)] [] := by
  unfold f_HM_seeing_b117 at h
  refine g_iconst X kI_0 dX9_seeing_117 rfl ?_
  exact ok_HM_seeing_b118 X Y hk64 σ h

def f_HM_seeing_b64 (k40 : Int32 → Int32 → Int64 → Int32 → St → Option (Int64 × St)) (k64 : Int32 → Int32 → Int64 → Int32 → Int32 → St → Option (Int64 × St)) (x1 : Int32) (x2 : Int32) (x3 : Int64) (x5 : Int32) (x6 : Int32) (σ : St) : Option (Int64 × St) :=
  if x6 < 0 then (k40 x1 x2 x3 (x5 + 1) σ) else (bd (f_HM_isOf x5 x2 σ) fun r4 σ3 => if r4 = 0 then (f_HM_seeing_b117 k64 x1 x2 x3 x5 x6 σ3) else (ck (ib x5 120) <| ck (ib x6 120) <| if (rI σ3 69 x5) = (rI σ3 69 x6) then (bd (f_HM_through x5 x1 σ3) fun r11 σ10 => bd (f_HM_through x6 x1 σ10) fun r14 σ13 => if r11 = r14 then (f_HM_seeing_b118 k64 x1 x2 x3 x5 x6 1 σ13) else (f_HM_seeing_b117 k64 x1 x2 x3 x5 x6 σ13)) else (f_HM_seeing_b117 k64 x1 x2 x3 x5 x6 σ3)))
set_option maxRecDepth 4000 in
theorem ok_HM_seeing_b64 {E : gE} {w : wT} {σ' : St} {r : Int64} (X : gC E w cX9_seeing 8 RX9 6) (Y : gQ E w (some .long) (some (.long r)) σ') {k40 : Int32 → Int32 → Int64 → Int32 → St → Option (Int64 × St)} (hk40 : ∀ (x1 : Int32) (x2 : Int32) (x3 : Int64) (x5 : Int32) (σ : St), k40 x1 x2 x3 x5 σ = some (r, σ') → gW E w 8 σ 40 [some (.ref (w.1 9)), some (.int x1), some (.int x2), some (.long x3), none, some (.int x5)] []) {k64 : Int32 → Int32 → Int64 → Int32 → Int32 → St → Option (Int64 × St)} (hk64 : ∀ (x1 : Int32) (x2 : Int32) (x3 : Int64) (x5 : Int32) (x6 : Int32) (σ : St), k64 x1 x2 x3 x5 x6 σ = some (r, σ') → gW E w 8 σ 64 [some (.ref (w.1 9)), some (.int x1), some (.int x2), some (.long x3), none, some (.int x5), some (.int x6)] []) {x1 : Int32} {x2 : Int32} {x3 : Int64} {x5 : Int32} {x6 : Int32} (σ : St) (h : f_HM_seeing_b64 k40 k64 x1 x2 x3 x5 x6 σ = some (r, σ')) : gW E w 8 σ 64 [some (.ref (w.1 9)), some (.int x1), some (.int x2), some (.long x3), none, some (.int x5), some (.int x6)] [] := by
  unfold f_HM_seeing_b64 at h
  refine g_iload X dX9_seeing_64 rfl rfl ?_
  refine g_if_lt X dX9_seeing_66 (tgt := 155) rfl rfl (fun c1 => ?_) (fun c1 => ?_)
  · replace h := if_t c1 h
    refine g_iinc X [some (.ref (w.1 9)), some (.int x1), some (.int x2), some (.long x3), none, some (.int (x5 + 1)), some (.int x6)] dX9_seeing_155 rfl (ii_1 x5) (Nat.le_of_ble_eq_true rfl) rfl rfl rfl ?_
    refine g_goto X dX9_seeing_158 (tgt := 40) rfl ?_
    exact g_le (lle_s (lle_s (lle_s (lle_s (lle_k (lle_s (lle_0))))))) (hk40 x1 x2 x3 (x5 + 1) σ h)
  · replace h := if_f c1 h
    refine g_aload_n X dX9_seeing_69 rfl rfl ?_
    refine g_iload X dX9_seeing_70 rfl rfl ?_
    refine g_iload_n X dX9_seeing_72 rfl rfl ?_
    obtain ⟨r4, σ3, h2, h⟩ := bd_e h
    refine g_callVI X [.int x5, .int x2] (ok_HM_isOf X.inj h2) my_yX9_isOf mi_yX9_isOf ms_yX9_isOf ml_RX9_208 (by decide) rfl rfl (by decide) rfl dX9_seeing_73 (Nat.le_of_ble_eq_true rfl) rfl rfl ?_
    refine g_if_eq X dX9_seeing_76 (tgt := 117) rfl rfl (fun c5 => ?_) (fun c5 => ?_)
    · replace h := if_t c5 h
      exact ok_HM_seeing_b117 X Y hk64 σ3 h
    · replace h := if_f c5 h
      refine g_aload_n X dX9_seeing_79 rfl rfl ?_
      refine gf_RX9_28 X dX9_seeing_80 rfl ?_
      refine g_iload X dX9_seeing_83 rfl rfl ?_
      obtain ⟨c6, h⟩ := ck_e h
      refine g_iald X ar_69.1 ar_69.2.1 ar_69.2.2 (ib_e c6) dX9_seeing_85 rfl ?_
      refine g_aload_n X dX9_seeing_86 rfl rfl ?_
      refine gf_RX9_28 X dX9_seeing_87 rfl ?_
      refine g_iload X dX9_seeing_90 rfl rfl ?_
      obtain ⟨c7, h⟩ := ck_e h
      refine g_iald X ar_69.1 ar_69.2.1 ar_69.2.2 (ib_e c7) dX9_seeing_92 rfl ?_
      refine g_icmp_ne X dX9_seeing_93 (tgt := 117) rfl rfl (fun c8 => ?_) (fun c8 => ?_)
      · replace h := if_f c8 h
        exact ok_HM_seeing_b117 X Y hk64 σ3 h
      · replace h := if_t c8 h
        refine g_aload_n X dX9_seeing_96 rfl rfl ?_
        refine g_iload X dX9_seeing_97 rfl rfl ?_
        refine g_iload_n X dX9_seeing_99 rfl rfl ?_
        obtain ⟨r11, σ10, h9, h⟩ := bd_e h
        refine g_callVI X [.int x5, .int x1] (ok_HM_through X.inj h9) my_yX9_through mi_yX9_through ms_yX9_through ml_RX9_281 (by decide) rfl rfl (by decide) rfl dX9_seeing_100 (Nat.le_of_ble_eq_true rfl) rfl rfl ?_
        refine g_aload_n X dX9_seeing_103 rfl rfl ?_
        refine g_iload X dX9_seeing_104 rfl rfl ?_
        refine g_iload_n X dX9_seeing_106 rfl rfl ?_
        obtain ⟨r14, σ13, h12, h⟩ := bd_e h
        refine g_callVI X [.int x6, .int x1] (ok_HM_through X.inj h12) my_yX9_through mi_yX9_through ms_yX9_through ml_RX9_281 (by decide) rfl rfl (by decide) rfl dX9_seeing_107 (Nat.le_of_ble_eq_true rfl) rfl rfl ?_
        refine g_icmp_ne X dX9_seeing_110 (tgt := 117) rfl rfl (fun c15 => ?_) (fun c15 => ?_)
        · replace h := if_f c15 h
          exact ok_HM_seeing_b117 X Y hk64 σ13 h
        · replace h := if_t c15 h
          refine g_iconst X kI_1 dX9_seeing_113 rfl ?_
          refine g_goto X dX9_seeing_114 (tgt := 118) rfl ?_
          exact ok_HM_seeing_b118 X Y hk64 σ13 h
def f_HM_seeing_l64 (k40 : Int32 → Int32 → Int64 → Int32 → St → Option (Int64 × St)) : Int32 → Int32 → Int64 → Int32 → Int32 → St → Option (Int64 × St) := lp (fun _ _ _ _ _ _ => none) (f_HM_seeing_b64 k40) FU
theorem ok_HM_seeing_l64 {E : gE} {w : wT} {σ' : St} {r : Int64} (X : gC E w cX9_seeing 8 RX9 6) (Y : gQ E w (some .long) (some (.long r)) σ') {k40 : Int32 → Int32 → Int64 → Int32 → St → Option (Int64 × St)} (hk40 : ∀ (x1 : Int32) (x2 : Int32) (x3 : Int64) (x5 : Int32) (σ : St), k40 x1 x2 x3 x5 σ = some (r, σ') → gW E w 8 σ 40 [some (.ref (w.1 9)), some (.int x1), some (.int x2), some (.long x3), none, some (.int x5)] []) {x1 : Int32} {x2 : Int32} {x3 : Int64} {x5 : Int32} {x6 : Int32} (σ : St) (h : f_HM_seeing_l64 k40 x1 x2 x3 x5 x6 σ = some (r, σ')) : gW E w 8 σ 64 [some (.ref (w.1 9)), some (.int x1), some (.int x2), some (.long x3), none, some (.int x5), some (.int x6)] [] :=
  lp_ind (P := fun (k : Int32 → Int32 → Int64 → Int32 → Int32 → St → Option (Int64 × St)) => ∀ (x1 : Int32) (x2 : Int32) (x3 : Int64) (x5 : Int32) (x6 : Int32) (σ : St), k x1 x2 x3 x5 x6 σ = some (r, σ') → gW E w 8 σ 64 [some (.ref (w.1 9)), some (.int x1), some (.int x2), some (.long x3), none, some (.int x5), some (.int x6)] []) (fun _ _ _ _ _ _ hh => nn hh) (fun k hk x1 x2 x3 x5 x6 σ  hh => ok_HM_seeing_b64 X Y hk40 hk σ hh) FU x1 x2 x3 x5 x6 σ  h

def f_HM_seeing_b40 (k40 : Int32 → Int32 → Int64 → Int32 → St → Option (Int64 × St)) (x1 : Int32) (x2 : Int32) (x3 : Int64) (x5 : Int32) (σ : St) : Option (Int64 × St) :=
  if (rF σ 43) ≤ x5 then (bd (f_HM_answerBy x2 σ) fun r4 σ3 => if x2 = 0 then (some (r4 - x3, σ3)) else (some (-(r4 - x3), σ3))) else (ck (ib x5 60) <| lE (stA σ 86 x5.toNatClampNeg x5) fun σ7 => f_HM_seeing_l64 k40 x1 x2 x3 x5 (x5 - 1) σ7)
set_option maxRecDepth 4000 in
theorem ok_HM_seeing_b40 {E : gE} {w : wT} {σ' : St} {r : Int64} (X : gC E w cX9_seeing 8 RX9 6) (Y : gQ E w (some .long) (some (.long r)) σ') {k40 : Int32 → Int32 → Int64 → Int32 → St → Option (Int64 × St)} (hk40 : ∀ (x1 : Int32) (x2 : Int32) (x3 : Int64) (x5 : Int32) (σ : St), k40 x1 x2 x3 x5 σ = some (r, σ') → gW E w 8 σ 40 [some (.ref (w.1 9)), some (.int x1), some (.int x2), some (.long x3), none, some (.int x5)] []) {x1 : Int32} {x2 : Int32} {x3 : Int64} {x5 : Int32} (σ : St) (h : f_HM_seeing_b40 k40 x1 x2 x3 x5 σ = some (r, σ')) : gW E w 8 σ 40 [some (.ref (w.1 9)), some (.int x1), some (.int x2), some (.long x3), none, some (.int x5)] [] := by
  unfold f_HM_seeing_b40 at h
  refine g_iload X dX9_seeing_40 rfl rfl ?_
  refine g_aload_n X dX9_seeing_42 rfl rfl ?_
  refine gf_RX9_192 X dX9_seeing_43 rfl ?_
  refine g_icmp_ge X dX9_seeing_46 (tgt := 161) rfl rfl (fun c1 => ?_) (fun c1 => ?_)
  · replace h := if_t c1 h
    refine g_aload_n X dX9_seeing_161 rfl rfl ?_
    refine g_iload_n X dX9_seeing_162 rfl rfl ?_
    obtain ⟨r4, σ3, h2, h⟩ := bd_e h
    refine g_callVJ X [.int x2] (ok_HM_answerBy X.inj h2) my_yX9_answerBy mi_yX9_answerBy ms_yX9_answerBy ml_RX9_272 (by decide) rfl rfl (by decide) rfl dX9_seeing_163 (Nat.le_of_ble_eq_true rfl) rfl rfl ?_
    refine g_lload_n X dX9_seeing_166 rfl rfl ?_
    refine g_lsub X dX9_seeing_167 rfl ?_
    refine g_lstore X [some (.ref (w.1 9)), some (.int x1), some (.int x2), some (.long x3), none, some (.long (r4 - x3)), none] dX9_seeing_168 (Nat.le_of_ble_eq_true rfl) rfl rfl rfl ?_
    refine g_iload_n X dX9_seeing_170 rfl rfl ?_
    refine g_if_ne X dX9_seeing_171 (tgt := 179) rfl rfl (fun c5 => ?_) (fun c5 => ?_)
    · replace h := if_f c5 h
      refine g_lload X dX9_seeing_179 rfl rfl ?_
      refine g_lneg X dX9_seeing_181 rfl ?_
      obtain ⟨rfl, rfl⟩ := rt_e h
      exact g_lret X Y dX9_seeing_182
    · replace h := if_t c5 h
      refine g_lload X dX9_seeing_174 rfl rfl ?_
      refine g_goto X dX9_seeing_176 (tgt := 182) rfl ?_
      obtain ⟨rfl, rfl⟩ := rt_e h
      exact g_lret X Y dX9_seeing_182
  · replace h := if_f c1 h
    refine g_aload_n X dX9_seeing_49 rfl rfl ?_
    refine gf_RX9_80 X dX9_seeing_50 rfl ?_
    refine g_iload X dX9_seeing_53 rfl rfl ?_
    refine g_iload X dX9_seeing_55 rfl rfl ?_
    obtain ⟨c6, h⟩ := ck_e h
    refine g_iast X ar_86.1 ar_86.2.1 ar_86.2.2 (ib_e c6) dX9_seeing_57 rfl (fun σ7 e8 => ?_)
    replace h := lE_c e8 h
    refine g_iload X dX9_seeing_58 rfl rfl ?_
    refine g_iconst X kI_1 dX9_seeing_60 rfl ?_
    refine g_isub X dX9_seeing_61 rfl ?_
    refine g_istore X [some (.ref (w.1 9)), some (.int x1), some (.int x2), some (.long x3), none, some (.int x5), some (.int (x5 - 1))] dX9_seeing_62 (Nat.le_of_ble_eq_true rfl) rfl rfl rfl ?_
    exact ok_HM_seeing_l64 X Y hk40 σ7 h
def f_HM_seeing_l40 : Int32 → Int32 → Int64 → Int32 → St → Option (Int64 × St) := lp (fun _ _ _ _ _ => none) (f_HM_seeing_b40) FU
theorem ok_HM_seeing_l40 {E : gE} {w : wT} {σ' : St} {r : Int64} (X : gC E w cX9_seeing 8 RX9 6) (Y : gQ E w (some .long) (some (.long r)) σ') {x1 : Int32} {x2 : Int32} {x3 : Int64} {x5 : Int32} (σ : St) (h : f_HM_seeing_l40 x1 x2 x3 x5 σ = some (r, σ')) : gW E w 8 σ 40 [some (.ref (w.1 9)), some (.int x1), some (.int x2), some (.long x3), none, some (.int x5)] [] :=
  lp_ind (P := fun (k : Int32 → Int32 → Int64 → Int32 → St → Option (Int64 × St)) => ∀ (x1 : Int32) (x2 : Int32) (x3 : Int64) (x5 : Int32) (σ : St), k x1 x2 x3 x5 σ = some (r, σ') → gW E w 8 σ 40 [some (.ref (w.1 9)), some (.int x1), some (.int x2), some (.long x3), none, some (.int x5)] []) (fun _ _ _ _ _ hh => nn hh) (fun k hk x1 x2 x3 x5 σ  hh => ok_HM_seeing_b40 X Y hk σ hh) FU x1 x2 x3 x5 σ  h

def f_HM_seeing (x1 : Int32) (σ : St) : Option (Int64 × St) :=
  bd (f_HM_isSet x1 σ) fun r3 σ2 => if r3 = 0 then (some ((-9000000000000000001), σ2)) else (ck (ib x1 20) <| bd (f_HM_isForgetful (rI σ2 76 x1) σ2) fun r8 σ7 => if r8 = 0 then (bd (f_HM_answerOf (rI σ2 76 x1) σ7) fun r12 σ11 => f_HM_seeing_l40 x1 (rI σ2 76 x1) r12 0 σ11) else (some ((-9000000000000000002), σ7)))
set_option maxRecDepth 4000 in
theorem ok_HM_seeing {w : wT} (hi : wInj w) {l : Launch} {x1 : Int32} {σ σ' : St} {r : Int64} (h : f_HM_seeing x1 σ = some (r, σ')) : gM w l yX9_seeing cX9_seeing 8 (some .long) 6 [.ref (w.1 9), .int x1] σ (some (.long r)) σ' := by
  unfold f_HM_seeing at h
  refine gM_of hi (by decide) [some (.ref (w.1 9)), some (.int x1)] rfl (Nat.le_of_ble_eq_true rfl) (fun E hl X Y => ?_)
  refine g_aload_n X dX9_seeing_0 rfl rfl ?_
  refine g_iload_n X dX9_seeing_1 rfl rfl ?_
  obtain ⟨r3, σ2, h1, h⟩ := bd_e h
  refine g_callVI X [.int x1] (ok_HM_isSet X.inj h1) my_yX9_isSet mi_yX9_isSet ms_yX9_isSet ml_RX9_225 (by decide) rfl rfl (by decide) rfl dX9_seeing_2 (Nat.le_of_ble_eq_true rfl) rfl rfl ?_
  refine g_if_ne X dX9_seeing_5 (tgt := 12) rfl rfl (fun c4 => ?_) (fun c4 => ?_)
  · replace h := if_f c4 h
    refine g_aload_n X dX9_seeing_12 rfl rfl ?_
    refine gf_RX9_49 X dX9_seeing_13 rfl ?_
    refine g_iload_n X dX9_seeing_16 rfl rfl ?_
    obtain ⟨c5, h⟩ := ck_e h
    refine g_iald X ar_76.1 ar_76.2.1 ar_76.2.2 (ib_e c5) dX9_seeing_17 rfl ?_
    refine g_istore_n X [some (.ref (w.1 9)), some (.int x1), some (.int (rI σ2 76 x1))] dX9_seeing_18 (Nat.le_of_ble_eq_true rfl) rfl rfl rfl ?_
    refine g_aload_n X dX9_seeing_19 rfl rfl ?_
    refine g_iload_n X dX9_seeing_20 rfl rfl ?_
    obtain ⟨r8, σ7, h6, h⟩ := bd_e h
    refine g_callVI X [.int (rI σ2 76 x1)] (ok_HM_isForgetful X.inj h6) my_yX9_isForgetful mi_yX9_isForgetful ms_yX9_isForgetful ml_RX9_222 (by decide) rfl rfl (by decide) rfl dX9_seeing_21 (Nat.le_of_ble_eq_true rfl) rfl rfl ?_
    refine g_if_eq X dX9_seeing_24 (tgt := 31) rfl rfl (fun c9 => ?_) (fun c9 => ?_)
    · replace h := if_t c9 h
      refine g_aload_n X dX9_seeing_31 rfl rfl ?_
      refine g_iload_n X dX9_seeing_32 rfl rfl ?_
      obtain ⟨r12, σ11, h10, h⟩ := bd_e h
      refine g_callVJ X [.int (rI σ2 76 x1)] (ok_HM_answerOf X.inj h10) my_yX9_answerOf mi_yX9_answerOf ms_yX9_answerOf ml_RX9_275 (by decide) rfl rfl (by decide) rfl dX9_seeing_33 (Nat.le_of_ble_eq_true rfl) rfl rfl ?_
      refine g_lstore_n X [some (.ref (w.1 9)), some (.int x1), some (.int (rI σ2 76 x1)), some (.long r12), none] dX9_seeing_36 (Nat.le_of_ble_eq_true rfl) rfl rfl rfl ?_
      refine g_iconst X kI_0 dX9_seeing_37 rfl ?_
      refine g_istore X [some (.ref (w.1 9)), some (.int x1), some (.int (rI σ2 76 x1)), some (.long r12), none, some (.int 0)] dX9_seeing_38 (Nat.le_of_ble_eq_true rfl) rfl rfl rfl ?_
      exact ok_HM_seeing_l40 X Y σ11 h
    · replace h := if_f c9 h
      refine g_ldc2 X dX9_seeing_27 kc_RX9_240 rfl ?_
      obtain ⟨rfl, rfl⟩ := rt_e h
      exact g_lret X Y dX9_seeing_30
  · replace h := if_t c4 h
    refine g_ldc2 X dX9_seeing_8 kc_RX9_107 rfl ?_
    obtain ⟨rfl, rfl⟩ := rt_e h
    exact g_lret X Y dX9_seeing_11

theorem dX9_fewer_0 : decode cX9_fewer 0 = .ok (.aload_n 0, 1) := by decide +kernel
theorem dX9_fewer_1 : decode cX9_fewer 1 = .ok (.iload_n 1, 1) := by decide +kernel
theorem dX9_fewer_2 : decode cX9_fewer 2 = .ok (.invokevirtual 225, 3) := by decide +kernel
theorem dX9_fewer_5 : decode cX9_fewer 5 = .ok (.ifCond .eq 21, 3) := by decide +kernel
theorem dX9_fewer_8 : decode cX9_fewer 8 = .ok (.iload_n 2, 1) := by decide +kernel
theorem dX9_fewer_9 : decode cX9_fewer 9 = .ok (.i2l, 1) := by decide +kernel
theorem dX9_fewer_10 : decode cX9_fewer 10 = .ok (.lconst 0, 1) := by decide +kernel
theorem dX9_fewer_11 : decode cX9_fewer 11 = .ok (.aload_n 0, 1) := by decide +kernel
theorem dX9_fewer_12 : decode cX9_fewer 12 = .ok (.getfield 52, 3) := by decide +kernel
theorem dX9_fewer_15 : decode cX9_fewer 15 = .ok (.iload_n 1, 1) := by decide +kernel
theorem dX9_fewer_16 : decode cX9_fewer 16 = .ok (.iaload, 1) := by decide +kernel
theorem dX9_fewer_17 : decode cX9_fewer 17 = .ok (.iconst 1, 1) := by decide +kernel
theorem dX9_fewer_18 : decode cX9_fewer 18 = .ok (.isub, 1) := by decide +kernel
theorem dX9_fewer_19 : decode cX9_fewer 19 = .ok (.i2l, 1) := by decide +kernel
theorem dX9_fewer_20 : decode cX9_fewer 20 = .ok (.invokestatic 91, 3) := by decide +kernel
theorem dX9_fewer_23 : decode cX9_fewer 23 = .ok (.ifCond .ne 7, 3) := by decide +kernel
theorem dX9_fewer_26 : decode cX9_fewer 26 = .ok (.ldc2_w 107, 3) := by decide +kernel
theorem dX9_fewer_29 : decode cX9_fewer 29 = .ok (.lreturn, 1) := by decide +kernel
theorem dX9_fewer_30 : decode cX9_fewer 30 = .ok (.aload_n 0, 1) := by decide +kernel
theorem dX9_fewer_31 : decode cX9_fewer 31 = .ok (.aload_n 0, 1) := by decide +kernel
theorem dX9_fewer_32 : decode cX9_fewer 32 = .ok (.getfield 49, 3) := by decide +kernel
theorem dX9_fewer_35 : decode cX9_fewer 35 = .ok (.iload_n 1, 1) := by decide +kernel
theorem dX9_fewer_36 : decode cX9_fewer 36 = .ok (.iaload, 1) := by decide +kernel
theorem dX9_fewer_37 : decode cX9_fewer 37 = .ok (.invokevirtual 222, 3) := by decide +kernel
theorem dX9_fewer_40 : decode cX9_fewer 40 = .ok (.ifCond .eq 7, 3) := by decide +kernel
theorem dX9_fewer_43 : decode cX9_fewer 43 = .ok (.ldc2_w 240, 3) := by decide +kernel
theorem dX9_fewer_46 : decode cX9_fewer 46 = .ok (.lreturn, 1) := by decide +kernel
theorem dX9_fewer_47 : decode cX9_fewer 47 = .ok (.aload_n 0, 1) := by decide +kernel
theorem dX9_fewer_48 : decode cX9_fewer 48 = .ok (.invokevirtual 266, 3) := by decide +kernel
theorem dX9_fewer_51 : decode cX9_fewer 51 = .ok (.aload_n 0, 1) := by decide +kernel
theorem dX9_fewer_52 : decode cX9_fewer 52 = .ok (.aload_n 0, 1) := by decide +kernel
theorem dX9_fewer_53 : decode cX9_fewer 53 = .ok (.getfield 49, 3) := by decide +kernel
theorem dX9_fewer_56 : decode cX9_fewer 56 = .ok (.iload_n 1, 1) := by decide +kernel
theorem dX9_fewer_57 : decode cX9_fewer 57 = .ok (.iaload, 1) := by decide +kernel
theorem dX9_fewer_58 : decode cX9_fewer 58 = .ok (.invokevirtual 269, 3) := by decide +kernel
theorem dX9_fewer_61 : decode cX9_fewer 61 = .ok (.aload_n 0, 1) := by decide +kernel
theorem dX9_fewer_62 : decode cX9_fewer 62 = .ok (.iload_n 1, 1) := by decide +kernel
theorem dX9_fewer_63 : decode cX9_fewer 63 = .ok (.putfield 246, 3) := by decide +kernel
theorem dX9_fewer_66 : decode cX9_fewer 66 = .ok (.aload_n 0, 1) := by decide +kernel
theorem dX9_fewer_67 : decode cX9_fewer 67 = .ok (.iload_n 2, 1) := by decide +kernel
theorem dX9_fewer_68 : decode cX9_fewer 68 = .ok (.putfield 249, 3) := by decide +kernel
theorem dX9_fewer_71 : decode cX9_fewer 71 = .ok (.aload_n 0, 1) := by decide +kernel
theorem dX9_fewer_72 : decode cX9_fewer 72 = .ok (.aload_n 0, 1) := by decide +kernel
theorem dX9_fewer_73 : decode cX9_fewer 73 = .ok (.getfield 49, 3) := by decide +kernel
theorem dX9_fewer_76 : decode cX9_fewer 76 = .ok (.iload_n 1, 1) := by decide +kernel
theorem dX9_fewer_77 : decode cX9_fewer 77 = .ok (.iaload, 1) := by decide +kernel
theorem dX9_fewer_78 : decode cX9_fewer 78 = .ok (.invokevirtual 272, 3) := by decide +kernel
theorem dX9_fewer_81 : decode cX9_fewer 81 = .ok (.lreturn, 1) := by decide +kernel
def f_HM_fewer (x1 : Int32) (x2 : Int32) (σ : St) : Option (Int64 × St) :=
  bd (f_HM_isSet x1 σ) fun r3 σ2 => if r3 = 0 then (some ((-9000000000000000001), σ2)) else (ck (ib x1 20) <| bd (f_HM_in x2.toInt64 0 (((rI σ2 77 x1) - 1).toInt64) σ2) fun r8 σ7 => if r8 = 0 then (some ((-9000000000000000001), σ7)) else (ck (ib x1 20) <| bd (f_HM_isForgetful (rI σ7 76 x1) σ7) fun r13 σ12 => if r13 = 0 then (bv (f_HM_layGroups σ12) fun σ16 => ck (ib x1 20) <| bv (f_HM_layCounts (rI σ16 76 x1) σ16) fun σ19 => lE (stF σ19 52 x1) fun σ20 => lE (stF σ20 53 x2) fun σ22 => ck (ib x1 20) <| bd (f_HM_answerBy (rI σ22 76 x1) σ22) fun r27 σ26 => some (r27, σ26)) else (some ((-9000000000000000002), σ12))))
set_option maxRecDepth 4000 in
theorem ok_HM_fewer {w : wT} (hi : wInj w) {l : Launch} {x1 : Int32} {x2 : Int32} {σ σ' : St} {r : Int64} (h : f_HM_fewer x1 x2 σ = some (r, σ')) : gM w l yX9_fewer cX9_fewer 3 (some .long) 5 [.ref (w.1 9), .int x1, .int x2] σ (some (.long r)) σ' := by
  unfold f_HM_fewer at h
  refine gM_of hi (by decide) [some (.ref (w.1 9)), some (.int x1), some (.int x2)] rfl (Nat.le_of_ble_eq_true rfl) (fun E hl X Y => ?_)
  refine g_aload_n X dX9_fewer_0 rfl rfl ?_
  refine g_iload_n X dX9_fewer_1 rfl rfl ?_
  obtain ⟨r3, σ2, h1, h⟩ := bd_e h
  refine g_callVI X [.int x1] (ok_HM_isSet X.inj h1) my_yX9_isSet mi_yX9_isSet ms_yX9_isSet ml_RX9_225 (by decide) rfl rfl (by decide) rfl dX9_fewer_2 (Nat.le_of_ble_eq_true rfl) rfl rfl ?_
  refine g_if_eq X dX9_fewer_5 (tgt := 26) rfl rfl (fun c4 => ?_) (fun c4 => ?_)
  · replace h := if_t c4 h
    refine g_ldc2 X dX9_fewer_26 kc_RX9_107 rfl ?_
    obtain ⟨rfl, rfl⟩ := rt_e h
    exact g_lret X Y dX9_fewer_29
  · replace h := if_f c4 h
    refine g_iload_n X dX9_fewer_8 rfl rfl ?_
    refine g_i2l X dX9_fewer_9 rfl ?_
    refine g_lconst X kL_0 dX9_fewer_10 rfl ?_
    refine g_aload_n X dX9_fewer_11 rfl rfl ?_
    refine gf_RX9_52 X dX9_fewer_12 rfl ?_
    refine g_iload_n X dX9_fewer_15 rfl rfl ?_
    obtain ⟨c5, h⟩ := ck_e h
    refine g_iald X ar_77.1 ar_77.2.1 ar_77.2.2 (ib_e c5) dX9_fewer_16 rfl ?_
    refine g_iconst X kI_1 dX9_fewer_17 rfl ?_
    refine g_isub X dX9_fewer_18 rfl ?_
    refine g_i2l X dX9_fewer_19 rfl ?_
    obtain ⟨r8, σ7, h6, h⟩ := bd_e h
    refine g_callSI X [.long x2.toInt64, .long 0, .long (((rI σ2 77 x1) - 1).toInt64)] (ok_HM_in X.inj h6) my_yX9_in mt_yX9_in ml_RX9_91 (by decide) rfl dX9_fewer_20 (Nat.le_of_ble_eq_true rfl) rfl rfl ?_
    refine g_if_ne X dX9_fewer_23 (tgt := 30) rfl rfl (fun c9 => ?_) (fun c9 => ?_)
    · replace h := if_f c9 h
      refine g_aload_n X dX9_fewer_30 rfl rfl ?_
      refine g_aload_n X dX9_fewer_31 rfl rfl ?_
      refine gf_RX9_49 X dX9_fewer_32 rfl ?_
      refine g_iload_n X dX9_fewer_35 rfl rfl ?_
      obtain ⟨c10, h⟩ := ck_e h
      refine g_iald X ar_76.1 ar_76.2.1 ar_76.2.2 (ib_e c10) dX9_fewer_36 rfl ?_
      obtain ⟨r13, σ12, h11, h⟩ := bd_e h
      refine g_callVI X [.int (rI σ7 76 x1)] (ok_HM_isForgetful X.inj h11) my_yX9_isForgetful mi_yX9_isForgetful ms_yX9_isForgetful ml_RX9_222 (by decide) rfl rfl (by decide) rfl dX9_fewer_37 (Nat.le_of_ble_eq_true rfl) rfl rfl ?_
      refine g_if_eq X dX9_fewer_40 (tgt := 47) rfl rfl (fun c14 => ?_) (fun c14 => ?_)
      · replace h := if_t c14 h
        refine g_aload_n X dX9_fewer_47 rfl rfl ?_
        obtain ⟨σ16, h15, h⟩ := bv_e h
        refine g_callVV X [] (ok_HM_layGroups X.inj h15) my_yX9_layGroups mi_yX9_layGroups ms_yX9_layGroups ml_RX9_266 (by decide) rfl rfl (by decide) rfl dX9_fewer_48 (Nat.le_of_ble_eq_true rfl) rfl rfl ?_
        refine g_aload_n X dX9_fewer_51 rfl rfl ?_
        refine g_aload_n X dX9_fewer_52 rfl rfl ?_
        refine gf_RX9_49 X dX9_fewer_53 rfl ?_
        refine g_iload_n X dX9_fewer_56 rfl rfl ?_
        obtain ⟨c17, h⟩ := ck_e h
        refine g_iald X ar_76.1 ar_76.2.1 ar_76.2.2 (ib_e c17) dX9_fewer_57 rfl ?_
        obtain ⟨σ19, h18, h⟩ := bv_e h
        refine g_callVV X [.int (rI σ16 76 x1)] (ok_HM_layCounts X.inj h18) my_yX9_layCounts mi_yX9_layCounts ms_yX9_layCounts ml_RX9_269 (by decide) rfl rfl (by decide) rfl dX9_fewer_58 (Nat.le_of_ble_eq_true rfl) rfl rfl ?_
        refine g_aload_n X dX9_fewer_61 rfl rfl ?_
        refine g_iload_n X dX9_fewer_62 rfl rfl ?_
        refine gp_RX9_246 X dX9_fewer_63 rfl (fun σ20 e21 => ?_)
        replace h := lE_c e21 h
        refine g_aload_n X dX9_fewer_66 rfl rfl ?_
        refine g_iload_n X dX9_fewer_67 rfl rfl ?_
        refine gp_RX9_249 X dX9_fewer_68 rfl (fun σ22 e23 => ?_)
        replace h := lE_c e23 h
        refine g_aload_n X dX9_fewer_71 rfl rfl ?_
        refine g_aload_n X dX9_fewer_72 rfl rfl ?_
        refine gf_RX9_49 X dX9_fewer_73 rfl ?_
        refine g_iload_n X dX9_fewer_76 rfl rfl ?_
        obtain ⟨c24, h⟩ := ck_e h
        refine g_iald X ar_76.1 ar_76.2.1 ar_76.2.2 (ib_e c24) dX9_fewer_77 rfl ?_
        obtain ⟨r27, σ26, h25, h⟩ := bd_e h
        refine g_callVJ X [.int (rI σ22 76 x1)] (ok_HM_answerBy X.inj h25) my_yX9_answerBy mi_yX9_answerBy ms_yX9_answerBy ml_RX9_272 (by decide) rfl rfl (by decide) rfl dX9_fewer_78 (Nat.le_of_ble_eq_true rfl) rfl rfl ?_
        obtain ⟨rfl, rfl⟩ := rt_e h
        exact g_lret X Y dX9_fewer_81
      · replace h := if_f c14 h
        refine g_ldc2 X dX9_fewer_43 kc_RX9_240 rfl ?_
        obtain ⟨rfl, rfl⟩ := rt_e h
        exact g_lret X Y dX9_fewer_46
    · replace h := if_t c9 h
      refine g_ldc2 X dX9_fewer_26 kc_RX9_107 rfl ?_
      obtain ⟨rfl, rfl⟩ := rt_e h
      exact g_lret X Y dX9_fewer_29

theorem dX9_againstRounds_0 : decode cX9_againstRounds 0 = .ok (.aload_n 0, 1) := by decide +kernel
theorem dX9_againstRounds_1 : decode cX9_againstRounds 1 = .ok (.invokevirtual 266, 3) := by decide +kernel
theorem dX9_againstRounds_4 : decode cX9_againstRounds 4 = .ok (.iconst 0, 1) := by decide +kernel
theorem dX9_againstRounds_5 : decode cX9_againstRounds 5 = .ok (.istore_n 2, 1) := by decide +kernel
theorem dX9_againstRounds_6 : decode cX9_againstRounds 6 = .ok (.iload_n 2, 1) := by decide +kernel
theorem dX9_againstRounds_7 : decode cX9_againstRounds 7 = .ok (.aload_n 0, 1) := by decide +kernel
theorem dX9_againstRounds_8 : decode cX9_againstRounds 8 = .ok (.getfield 192, 3) := by decide +kernel
theorem dX9_againstRounds_11 : decode cX9_againstRounds 11 = .ok (.if_icmp .ge 16, 3) := by decide +kernel
theorem dX9_againstRounds_14 : decode cX9_againstRounds 14 = .ok (.aload_n 0, 1) := by decide +kernel
theorem dX9_againstRounds_15 : decode cX9_againstRounds 15 = .ok (.getfield 77, 3) := by decide +kernel
theorem dX9_againstRounds_18 : decode cX9_againstRounds 18 = .ok (.iload_n 2, 1) := by decide +kernel
theorem dX9_againstRounds_19 : decode cX9_againstRounds 19 = .ok (.lconst 0, 1) := by decide +kernel
theorem dX9_againstRounds_20 : decode cX9_againstRounds 20 = .ok (.lastore, 1) := by decide +kernel
theorem dX9_againstRounds_21 : decode cX9_againstRounds 21 = .ok (.iinc 2 1, 3) := by decide +kernel
theorem dX9_againstRounds_24 : decode cX9_againstRounds 24 = .ok (.goto (-18), 3) := by decide +kernel
theorem dX9_againstRounds_27 : decode cX9_againstRounds 27 = .ok (.iconst 0, 1) := by decide +kernel
theorem dX9_againstRounds_28 : decode cX9_againstRounds 28 = .ok (.istore_n 2, 1) := by decide +kernel
theorem dX9_againstRounds_29 : decode cX9_againstRounds 29 = .ok (.iload_n 2, 1) := by decide +kernel
theorem dX9_againstRounds_30 : decode cX9_againstRounds 30 = .ok (.aload_n 0, 1) := by decide +kernel
theorem dX9_againstRounds_31 : decode cX9_againstRounds 31 = .ok (.getfield 195, 3) := by decide +kernel
theorem dX9_againstRounds_34 : decode cX9_againstRounds 34 = .ok (.if_icmp .ge 46, 3) := by decide +kernel
theorem dX9_againstRounds_37 : decode cX9_againstRounds 37 = .ok (.aload_n 0, 1) := by decide +kernel
theorem dX9_againstRounds_38 : decode cX9_againstRounds 38 = .ok (.iload_n 1, 1) := by decide +kernel
theorem dX9_againstRounds_39 : decode cX9_againstRounds 39 = .ok (.iload_n 2, 1) := by decide +kernel
theorem dX9_againstRounds_40 : decode cX9_againstRounds 40 = .ok (.invokevirtual 236, 3) := by decide +kernel
theorem dX9_againstRounds_43 : decode cX9_againstRounds 43 = .ok (.iconst 0, 1) := by decide +kernel
theorem dX9_againstRounds_44 : decode cX9_againstRounds 44 = .ok (.istore_n 3, 1) := by decide +kernel
theorem dX9_againstRounds_45 : decode cX9_againstRounds 45 = .ok (.iload_n 3, 1) := by decide +kernel
theorem dX9_againstRounds_46 : decode cX9_againstRounds 46 = .ok (.aload_n 0, 1) := by decide +kernel
theorem dX9_againstRounds_47 : decode cX9_againstRounds 47 = .ok (.getfield 192, 3) := by decide +kernel
theorem dX9_againstRounds_50 : decode cX9_againstRounds 50 = .ok (.if_icmp .ge 24, 3) := by decide +kernel
theorem dX9_againstRounds_53 : decode cX9_againstRounds 53 = .ok (.aload_n 0, 1) := by decide +kernel
theorem dX9_againstRounds_54 : decode cX9_againstRounds 54 = .ok (.getfield 77, 3) := by decide +kernel
theorem dX9_againstRounds_57 : decode cX9_againstRounds 57 = .ok (.iload_n 3, 1) := by decide +kernel
theorem dX9_againstRounds_58 : decode cX9_againstRounds 58 = .ok (.dup2, 1) := by decide +kernel
theorem dX9_againstRounds_59 : decode cX9_againstRounds 59 = .ok (.laload, 1) := by decide +kernel
theorem dX9_againstRounds_60 : decode cX9_againstRounds 60 = .ok (.aload_n 0, 1) := by decide +kernel
theorem dX9_againstRounds_61 : decode cX9_againstRounds 61 = .ok (.getfield 73, 3) := by decide +kernel
theorem dX9_againstRounds_64 : decode cX9_againstRounds 64 = .ok (.iload_n 3, 1) := by decide +kernel
theorem dX9_againstRounds_65 : decode cX9_againstRounds 65 = .ok (.laload, 1) := by decide +kernel
theorem dX9_againstRounds_66 : decode cX9_againstRounds 66 = .ok (.ladd, 1) := by decide +kernel
theorem dX9_againstRounds_67 : decode cX9_againstRounds 67 = .ok (.lastore, 1) := by decide +kernel
theorem dX9_againstRounds_68 : decode cX9_againstRounds 68 = .ok (.iinc 3 1, 3) := by decide +kernel
theorem dX9_againstRounds_71 : decode cX9_againstRounds 71 = .ok (.goto (-26), 3) := by decide +kernel
theorem dX9_againstRounds_74 : decode cX9_againstRounds 74 = .ok (.iinc 2 1, 3) := by decide +kernel
theorem dX9_againstRounds_77 : decode cX9_againstRounds 77 = .ok (.goto (-48), 3) := by decide +kernel
theorem dX9_againstRounds_80 : decode cX9_againstRounds 80 = .ok (.aload_n 0, 1) := by decide +kernel
theorem dX9_againstRounds_81 : decode cX9_againstRounds 81 = .ok (.iload_n 1, 1) := by decide +kernel
theorem dX9_againstRounds_82 : decode cX9_againstRounds 82 = .ok (.invokevirtual 272, 3) := by decide +kernel
theorem dX9_againstRounds_85 : decode cX9_againstRounds 85 = .ok (.lreturn, 1) := by decide +kernel
def f_HM_againstRounds_b45 (k29 : Int32 → Int32 → St → Option (Int64 × St)) (k45 : Int32 → Int32 → Int32 → St → Option (Int64 × St)) (x1 : Int32) (x2 : Int32) (x3 : Int32) (σ : St) : Option (Int64 × St) :=
  if (rF σ 43) ≤ x3 then (k29 x1 (x2 + 1) σ) else (ck (ib x3 60) <| ck (ib x3 60) <| ck (ib x3 60) <| lE (stL σ 85 x3.toNatClampNeg ((rL σ 85 x3) + (rL σ 84 x3))) fun σ5 => k45 x1 x2 (x3 + 1) σ5)
set_option maxRecDepth 4000 in
theorem ok_HM_againstRounds_b45 {E : gE} {w : wT} {σ' : St} {r : Int64} (X : gC E w cX9_againstRounds 4 RX9 5) (Y : gQ E w (some .long) (some (.long r)) σ') {k29 : Int32 → Int32 → St → Option (Int64 × St)} (hk29 : ∀ (x1 : Int32) (x2 : Int32) (σ : St), k29 x1 x2 σ = some (r, σ') → gW E w 4 σ 29 [some (.ref (w.1 9)), some (.int x1), some (.int x2)] []) {k45 : Int32 → Int32 → Int32 → St → Option (Int64 × St)} (hk45 : ∀ (x1 : Int32) (x2 : Int32) (x3 : Int32) (σ : St), k45 x1 x2 x3 σ = some (r, σ') → gW E w 4 σ 45 [some (.ref (w.1 9)), some (.int x1), some (.int x2), some (.int x3)] []) {x1 : Int32} {x2 : Int32} {x3 : Int32} (σ : St) (h : f_HM_againstRounds_b45 k29 k45 x1 x2 x3 σ = some (r, σ')) : gW E w 4 σ 45 [some (.ref (w.1 9)), some (.int x1), some (.int x2), some (.int x3)] [] := by
  unfold f_HM_againstRounds_b45 at h
  refine g_iload_n X dX9_againstRounds_45 rfl rfl ?_
  refine g_aload_n X dX9_againstRounds_46 rfl rfl ?_
  refine gf_RX9_192 X dX9_againstRounds_47 rfl ?_
  refine g_icmp_ge X dX9_againstRounds_50 (tgt := 74) rfl rfl (fun c1 => ?_) (fun c1 => ?_)
  · replace h := if_t c1 h
    refine g_iinc X [some (.ref (w.1 9)), some (.int x1), some (.int (x2 + 1)), some (.int x3)] dX9_againstRounds_74 rfl (ii_1 x2) (Nat.le_of_ble_eq_true rfl) rfl rfl rfl ?_
    refine g_goto X dX9_againstRounds_77 (tgt := 29) rfl ?_
    exact g_le (lle_s (lle_s (lle_s (lle_0)))) (hk29 x1 (x2 + 1) σ h)
  · replace h := if_f c1 h
    refine g_aload_n X dX9_againstRounds_53 rfl rfl ?_
    refine gf_RX9_77 X dX9_againstRounds_54 rfl ?_
    refine g_iload_n X dX9_againstRounds_57 rfl rfl ?_
    refine g_dup2 X dX9_againstRounds_58 rfl rfl rfl ?_
    obtain ⟨c2, h⟩ := ck_e h
    refine g_lald X ar_85.1 ar_85.2.1 ar_85.2.2 (ib_e c2) dX9_againstRounds_59 rfl ?_
    refine g_aload_n X dX9_againstRounds_60 rfl rfl ?_
    refine gf_RX9_73 X dX9_againstRounds_61 rfl ?_
    refine g_iload_n X dX9_againstRounds_64 rfl rfl ?_
    obtain ⟨c3, h⟩ := ck_e h
    refine g_lald X ar_84.1 ar_84.2.1 ar_84.2.2 (ib_e c3) dX9_againstRounds_65 rfl ?_
    refine g_ladd X dX9_againstRounds_66 rfl ?_
    obtain ⟨c4, h⟩ := ck_e h
    refine g_last X ar_85.1 ar_85.2.1 ar_85.2.2 (ib_e c4) dX9_againstRounds_67 rfl (fun σ5 e6 => ?_)
    replace h := lE_c e6 h
    refine g_iinc X [some (.ref (w.1 9)), some (.int x1), some (.int x2), some (.int (x3 + 1))] dX9_againstRounds_68 rfl (ii_1 x3) (Nat.le_of_ble_eq_true rfl) rfl rfl rfl ?_
    refine g_goto X dX9_againstRounds_71 (tgt := 45) rfl ?_
    exact hk45 x1 x2 (x3 + 1) σ5 h
def f_HM_againstRounds_l45 (k29 : Int32 → Int32 → St → Option (Int64 × St)) : Int32 → Int32 → Int32 → St → Option (Int64 × St) := lp (fun _ _ _ _ => none) (f_HM_againstRounds_b45 k29) FU
theorem ok_HM_againstRounds_l45 {E : gE} {w : wT} {σ' : St} {r : Int64} (X : gC E w cX9_againstRounds 4 RX9 5) (Y : gQ E w (some .long) (some (.long r)) σ') {k29 : Int32 → Int32 → St → Option (Int64 × St)} (hk29 : ∀ (x1 : Int32) (x2 : Int32) (σ : St), k29 x1 x2 σ = some (r, σ') → gW E w 4 σ 29 [some (.ref (w.1 9)), some (.int x1), some (.int x2)] []) {x1 : Int32} {x2 : Int32} {x3 : Int32} (σ : St) (h : f_HM_againstRounds_l45 k29 x1 x2 x3 σ = some (r, σ')) : gW E w 4 σ 45 [some (.ref (w.1 9)), some (.int x1), some (.int x2), some (.int x3)] [] :=
  lp_ind (P := fun (k : Int32 → Int32 → Int32 → St → Option (Int64 × St)) => ∀ (x1 : Int32) (x2 : Int32) (x3 : Int32) (σ : St), k x1 x2 x3 σ = some (r, σ') → gW E w 4 σ 45 [some (.ref (w.1 9)), some (.int x1), some (.int x2), some (.int x3)] []) (fun _ _ _ _ hh => nn hh) (fun k hk x1 x2 x3 σ  hh => ok_HM_againstRounds_b45 X Y hk29 hk σ hh) FU x1 x2 x3 σ  h

def f_HM_againstRounds_b29 (k29 : Int32 → Int32 → St → Option (Int64 × St)) (x1 : Int32) (x2 : Int32) (σ : St) : Option (Int64 × St) :=
  if (rF σ 44) ≤ x2 then (bd (f_HM_answerBy x1 σ) fun r4 σ3 => some (r4, σ3)) else (bv (f_HM_layReach x1 x2 σ) fun σ6 => f_HM_againstRounds_l45 k29 x1 x2 0 σ6)
set_option maxRecDepth 4000 in
theorem ok_HM_againstRounds_b29 {E : gE} {w : wT} {σ' : St} {r : Int64} (X : gC E w cX9_againstRounds 4 RX9 5) (Y : gQ E w (some .long) (some (.long r)) σ') {k29 : Int32 → Int32 → St → Option (Int64 × St)} (hk29 : ∀ (x1 : Int32) (x2 : Int32) (σ : St), k29 x1 x2 σ = some (r, σ') → gW E w 4 σ 29 [some (.ref (w.1 9)), some (.int x1), some (.int x2)] []) {x1 : Int32} {x2 : Int32} (σ : St) (h : f_HM_againstRounds_b29 k29 x1 x2 σ = some (r, σ')) : gW E w 4 σ 29 [some (.ref (w.1 9)), some (.int x1), some (.int x2)] [] := by
  unfold f_HM_againstRounds_b29 at h
  refine g_iload_n X dX9_againstRounds_29 rfl rfl ?_
  refine g_aload_n X dX9_againstRounds_30 rfl rfl ?_
  refine gf_RX9_195 X dX9_againstRounds_31 rfl ?_
  refine g_icmp_ge X dX9_againstRounds_34 (tgt := 80) rfl rfl (fun c1 => ?_) (fun c1 => ?_)
  · replace h := if_t c1 h
    refine g_aload_n X dX9_againstRounds_80 rfl rfl ?_
    refine g_iload_n X dX9_againstRounds_81 rfl rfl ?_
    obtain ⟨r4, σ3, h2, h⟩ := bd_e h
    refine g_callVJ X [.int x1] (ok_HM_answerBy X.inj h2) my_yX9_answerBy mi_yX9_answerBy ms_yX9_answerBy ml_RX9_272 (by decide) rfl rfl (by decide) rfl dX9_againstRounds_82 (Nat.le_of_ble_eq_true rfl) rfl rfl ?_
    obtain ⟨rfl, rfl⟩ := rt_e h
    exact g_lret X Y dX9_againstRounds_85
  · replace h := if_f c1 h
    refine g_aload_n X dX9_againstRounds_37 rfl rfl ?_
    refine g_iload_n X dX9_againstRounds_38 rfl rfl ?_
    refine g_iload_n X dX9_againstRounds_39 rfl rfl ?_
    obtain ⟨σ6, h5, h⟩ := bv_e h
    refine g_callVV X [.int x1, .int x2] (ok_HM_layReach X.inj h5) my_yX9_layReach mi_yX9_layReach ms_yX9_layReach ml_RX9_236 (by decide) rfl rfl (by decide) rfl dX9_againstRounds_40 (Nat.le_of_ble_eq_true rfl) rfl rfl ?_
    refine g_iconst X kI_0 dX9_againstRounds_43 rfl ?_
    refine g_istore_n X [some (.ref (w.1 9)), some (.int x1), some (.int x2), some (.int 0)] dX9_againstRounds_44 (Nat.le_of_ble_eq_true rfl) rfl rfl rfl ?_
    exact ok_HM_againstRounds_l45 X Y hk29 σ6 h
def f_HM_againstRounds_l29 : Int32 → Int32 → St → Option (Int64 × St) := lp (fun _ _ _ => none) (f_HM_againstRounds_b29) FU
theorem ok_HM_againstRounds_l29 {E : gE} {w : wT} {σ' : St} {r : Int64} (X : gC E w cX9_againstRounds 4 RX9 5) (Y : gQ E w (some .long) (some (.long r)) σ') {x1 : Int32} {x2 : Int32} (σ : St) (h : f_HM_againstRounds_l29 x1 x2 σ = some (r, σ')) : gW E w 4 σ 29 [some (.ref (w.1 9)), some (.int x1), some (.int x2)] [] :=
  lp_ind (P := fun (k : Int32 → Int32 → St → Option (Int64 × St)) => ∀ (x1 : Int32) (x2 : Int32) (σ : St), k x1 x2 σ = some (r, σ') → gW E w 4 σ 29 [some (.ref (w.1 9)), some (.int x1), some (.int x2)] []) (fun _ _ _ hh => nn hh) (fun k hk x1 x2 σ  hh => ok_HM_againstRounds_b29 X Y hk σ hh) FU x1 x2 σ  h

def f_HM_againstRounds_b6 (k6 : Int32 → Int32 → St → Option (Int64 × St)) (x1 : Int32) (x2 : Int32) (σ : St) : Option (Int64 × St) :=
  if (rF σ 43) ≤ x2 then (f_HM_againstRounds_l29 x1 0 σ) else (ck (ib x2 60) <| lE (stL σ 85 x2.toNatClampNeg 0) fun σ3 => k6 x1 (x2 + 1) σ3)
set_option maxRecDepth 4000 in
theorem ok_HM_againstRounds_b6 {E : gE} {w : wT} {σ' : St} {r : Int64} (X : gC E w cX9_againstRounds 4 RX9 5) (Y : gQ E w (some .long) (some (.long r)) σ') {k6 : Int32 → Int32 → St → Option (Int64 × St)} (hk6 : ∀ (x1 : Int32) (x2 : Int32) (σ : St), k6 x1 x2 σ = some (r, σ') → gW E w 4 σ 6 [some (.ref (w.1 9)), some (.int x1), some (.int x2)] []) {x1 : Int32} {x2 : Int32} (σ : St) (h : f_HM_againstRounds_b6 k6 x1 x2 σ = some (r, σ')) : gW E w 4 σ 6 [some (.ref (w.1 9)), some (.int x1), some (.int x2)] [] := by
  unfold f_HM_againstRounds_b6 at h
  refine g_iload_n X dX9_againstRounds_6 rfl rfl ?_
  refine g_aload_n X dX9_againstRounds_7 rfl rfl ?_
  refine gf_RX9_192 X dX9_againstRounds_8 rfl ?_
  refine g_icmp_ge X dX9_againstRounds_11 (tgt := 27) rfl rfl (fun c1 => ?_) (fun c1 => ?_)
  · replace h := if_t c1 h
    refine g_iconst X kI_0 dX9_againstRounds_27 rfl ?_
    refine g_istore_n X [some (.ref (w.1 9)), some (.int x1), some (.int 0)] dX9_againstRounds_28 (Nat.le_of_ble_eq_true rfl) rfl rfl rfl ?_
    exact ok_HM_againstRounds_l29 X Y σ h
  · replace h := if_f c1 h
    refine g_aload_n X dX9_againstRounds_14 rfl rfl ?_
    refine gf_RX9_77 X dX9_againstRounds_15 rfl ?_
    refine g_iload_n X dX9_againstRounds_18 rfl rfl ?_
    refine g_lconst X kL_0 dX9_againstRounds_19 rfl ?_
    obtain ⟨c2, h⟩ := ck_e h
    refine g_last X ar_85.1 ar_85.2.1 ar_85.2.2 (ib_e c2) dX9_againstRounds_20 rfl (fun σ3 e4 => ?_)
    replace h := lE_c e4 h
    refine g_iinc X [some (.ref (w.1 9)), some (.int x1), some (.int (x2 + 1))] dX9_againstRounds_21 rfl (ii_1 x2) (Nat.le_of_ble_eq_true rfl) rfl rfl rfl ?_
    refine g_goto X dX9_againstRounds_24 (tgt := 6) rfl ?_
    exact hk6 x1 (x2 + 1) σ3 h
def f_HM_againstRounds_l6 : Int32 → Int32 → St → Option (Int64 × St) := lp (fun _ _ _ => none) (f_HM_againstRounds_b6) FU
theorem ok_HM_againstRounds_l6 {E : gE} {w : wT} {σ' : St} {r : Int64} (X : gC E w cX9_againstRounds 4 RX9 5) (Y : gQ E w (some .long) (some (.long r)) σ') {x1 : Int32} {x2 : Int32} (σ : St) (h : f_HM_againstRounds_l6 x1 x2 σ = some (r, σ')) : gW E w 4 σ 6 [some (.ref (w.1 9)), some (.int x1), some (.int x2)] [] :=
  lp_ind (P := fun (k : Int32 → Int32 → St → Option (Int64 × St)) => ∀ (x1 : Int32) (x2 : Int32) (σ : St), k x1 x2 σ = some (r, σ') → gW E w 4 σ 6 [some (.ref (w.1 9)), some (.int x1), some (.int x2)] []) (fun _ _ _ hh => nn hh) (fun k hk x1 x2 σ  hh => ok_HM_againstRounds_b6 X Y hk σ hh) FU x1 x2 σ  h

def f_HM_againstRounds (x1 : Int32) (σ : St) : Option (Int64 × St) :=
  bv (f_HM_layGroups σ) fun σ2 => f_HM_againstRounds_l6 x1 0 σ2
set_option maxRecDepth 4000 in
theorem ok_HM_againstRounds {w : wT} (hi : wInj w) {l : Launch} {x1 : Int32} {σ σ' : St} {r : Int64} (h : f_HM_againstRounds x1 σ = some (r, σ')) : gM w l yX9_againstRounds cX9_againstRounds 4 (some .long) 5 [.ref (w.1 9), .int x1] σ (some (.long r)) σ' := by
  unfold f_HM_againstRounds at h
  refine gM_of hi (by decide) [some (.ref (w.1 9)), some (.int x1)] rfl (Nat.le_of_ble_eq_true rfl) (fun E hl X Y => ?_)
  refine g_aload_n X dX9_againstRounds_0 rfl rfl ?_
  obtain ⟨σ2, h1, h⟩ := bv_e h
  refine g_callVV X [] (ok_HM_layGroups X.inj h1) my_yX9_layGroups mi_yX9_layGroups ms_yX9_layGroups ml_RX9_266 (by decide) rfl rfl (by decide) rfl dX9_againstRounds_1 (Nat.le_of_ble_eq_true rfl) rfl rfl ?_
  refine g_iconst X kI_0 dX9_againstRounds_4 rfl ?_
  refine g_istore_n X [some (.ref (w.1 9)), some (.int x1), some (.int 0)] dX9_againstRounds_5 (Nat.le_of_ble_eq_true rfl) rfl rfl rfl ?_
  exact ok_HM_againstRounds_l6 X Y σ2 h

theorem dX9_rounds_0 : decode cX9_rounds 0 = .ok (.iload_n 1, 1) := by decide +kernel
theorem dX9_rounds_1 : decode cX9_rounds 1 = .ok (.i2l, 1) := by decide +kernel
theorem dX9_rounds_2 : decode cX9_rounds 2 = .ok (.lconst 1, 1) := by decide +kernel
theorem dX9_rounds_3 : decode cX9_rounds 3 = .ok (.ldc2_w 284, 3) := by decide +kernel
theorem dX9_rounds_6 : decode cX9_rounds 6 = .ok (.invokestatic 91, 3) := by decide +kernel
theorem dX9_rounds_9 : decode cX9_rounds 9 = .ok (.ifCond .ne 7, 3) := by decide +kernel
theorem dX9_rounds_12 : decode cX9_rounds 12 = .ok (.ldc2_w 107, 3) := by decide +kernel
theorem dX9_rounds_15 : decode cX9_rounds 15 = .ok (.lreturn, 1) := by decide +kernel
theorem dX9_rounds_16 : decode cX9_rounds 16 = .ok (.aload_n 0, 1) := by decide +kernel
theorem dX9_rounds_17 : decode cX9_rounds 17 = .ok (.getfield 192, 3) := by decide +kernel
theorem dX9_rounds_20 : decode cX9_rounds 20 = .ok (.ifCond .eq 19, 3) := by decide +kernel
theorem dX9_rounds_23 : decode cX9_rounds 23 = .ok (.aload_n 0, 1) := by decide +kernel
theorem dX9_rounds_24 : decode cX9_rounds 24 = .ok (.iconst 0, 1) := by decide +kernel
theorem dX9_rounds_25 : decode cX9_rounds 25 = .ok (.invokevirtual 222, 3) := by decide +kernel
theorem dX9_rounds_28 : decode cX9_rounds 28 = .ok (.ifCond .ne 11, 3) := by decide +kernel
theorem dX9_rounds_31 : decode cX9_rounds 31 = .ok (.aload_n 0, 1) := by decide +kernel
theorem dX9_rounds_32 : decode cX9_rounds 32 = .ok (.iconst 1, 1) := by decide +kernel
theorem dX9_rounds_33 : decode cX9_rounds 33 = .ok (.invokevirtual 222, 3) := by decide +kernel
theorem dX9_rounds_36 : decode cX9_rounds 36 = .ok (.ifCond .eq 7, 3) := by decide +kernel
theorem dX9_rounds_39 : decode cX9_rounds 39 = .ok (.ldc2_w 240, 3) := by decide +kernel
theorem dX9_rounds_42 : decode cX9_rounds 42 = .ok (.lreturn, 1) := by decide +kernel
theorem dX9_rounds_43 : decode cX9_rounds 43 = .ok (.iconst 0, 1) := by decide +kernel
theorem dX9_rounds_44 : decode cX9_rounds 44 = .ok (.istore_n 2, 1) := by decide +kernel
theorem dX9_rounds_45 : decode cX9_rounds 45 = .ok (.iload_n 2, 1) := by decide +kernel
theorem dX9_rounds_46 : decode cX9_rounds 46 = .ok (.iload_n 1, 1) := by decide +kernel
theorem dX9_rounds_47 : decode cX9_rounds 47 = .ok (.if_icmp .ge 114, 3) := by decide +kernel
theorem dX9_rounds_50 : decode cX9_rounds 50 = .ok (.aload_n 0, 1) := by decide +kernel
theorem dX9_rounds_51 : decode cX9_rounds 51 = .ok (.getfield 195, 3) := by decide +kernel
theorem dX9_rounds_54 : decode cX9_rounds 54 = .ok (.bipush 60, 2) := by decide +kernel
theorem dX9_rounds_56 : decode cX9_rounds 56 = .ok (.if_icmp .ge 105, 3) := by decide +kernel
theorem dX9_rounds_59 : decode cX9_rounds 59 = .ok (.iconst 0, 1) := by decide +kernel
theorem dX9_rounds_60 : decode cX9_rounds 60 = .ok (.istore_n 3, 1) := by decide +kernel
theorem dX9_rounds_61 : decode cX9_rounds 61 = .ok (.iload_n 3, 1) := by decide +kernel
theorem dX9_rounds_62 : decode cX9_rounds 62 = .ok (.iconst 2, 1) := by decide +kernel
theorem dX9_rounds_63 : decode cX9_rounds 63 = .ok (.if_icmp .ge 82, 3) := by decide +kernel
theorem dX9_rounds_66 : decode cX9_rounds 66 = .ok (.aload_n 0, 1) := by decide +kernel
theorem dX9_rounds_67 : decode cX9_rounds 67 = .ok (.getfield 195, 3) := by decide +kernel
theorem dX9_rounds_70 : decode cX9_rounds 70 = .ok (.ifCond .le 9, 3) := by decide +kernel
theorem dX9_rounds_73 : decode cX9_rounds 73 = .ok (.aload_n 0, 1) := by decide +kernel
theorem dX9_rounds_74 : decode cX9_rounds 74 = .ok (.iload_n 3, 1) := by decide +kernel
theorem dX9_rounds_75 : decode cX9_rounds 75 = .ok (.invokevirtual 286, 3) := by decide +kernel
theorem dX9_rounds_78 : decode cX9_rounds 78 = .ok (.pop2, 1) := by decide +kernel
theorem dX9_rounds_79 : decode cX9_rounds 79 = .ok (.iconst 0, 1) := by decide +kernel
theorem dX9_rounds_80 : decode cX9_rounds 80 = .ok (.istore 4, 2) := by decide +kernel
theorem dX9_rounds_82 : decode cX9_rounds 82 = .ok (.iload 4, 2) := by decide +kernel
theorem dX9_rounds_84 : decode cX9_rounds 84 = .ok (.bipush 10, 2) := by decide +kernel
theorem dX9_rounds_86 : decode cX9_rounds 86 = .ok (.if_icmp .ge 53, 3) := by decide +kernel
theorem dX9_rounds_89 : decode cX9_rounds 89 = .ok (.aload_n 0, 1) := by decide +kernel
theorem dX9_rounds_90 : decode cX9_rounds 90 = .ok (.getfield 49, 3) := by decide +kernel
theorem dX9_rounds_93 : decode cX9_rounds 93 = .ok (.iload 4, 2) := by decide +kernel
theorem dX9_rounds_95 : decode cX9_rounds 95 = .ok (.iaload, 1) := by decide +kernel
theorem dX9_rounds_96 : decode cX9_rounds 96 = .ok (.iload_n 3, 1) := by decide +kernel
theorem dX9_rounds_97 : decode cX9_rounds 97 = .ok (.if_icmp .ne 36, 3) := by decide +kernel
theorem dX9_rounds_100 : decode cX9_rounds 100 = .ok (.aload_n 0, 1) := by decide +kernel
theorem dX9_rounds_101 : decode cX9_rounds 101 = .ok (.getfield 58, 3) := by decide +kernel
theorem dX9_rounds_104 : decode cX9_rounds 104 = .ok (.bipush 10, 2) := by decide +kernel
theorem dX9_rounds_106 : decode cX9_rounds 106 = .ok (.aload_n 0, 1) := by decide +kernel
theorem dX9_rounds_107 : decode cX9_rounds 107 = .ok (.getfield 195, 3) := by decide +kernel
theorem dX9_rounds_110 : decode cX9_rounds 110 = .ok (.imul, 1) := by decide +kernel
theorem dX9_rounds_111 : decode cX9_rounds 111 = .ok (.iload 4, 2) := by decide +kernel
theorem dX9_rounds_113 : decode cX9_rounds 113 = .ok (.iadd, 1) := by decide +kernel
theorem dX9_rounds_114 : decode cX9_rounds 114 = .ok (.aload_n 0, 1) := by decide +kernel
theorem dX9_rounds_115 : decode cX9_rounds 115 = .ok (.getfield 195, 3) := by decide +kernel
theorem dX9_rounds_118 : decode cX9_rounds 118 = .ok (.ifCond .ne 7, 3) := by decide +kernel
theorem dX9_rounds_121 : decode cX9_rounds 121 = .ok (.iconst 0, 1) := by decide +kernel
theorem dX9_rounds_122 : decode cX9_rounds 122 = .ok (.goto 10, 3) := by decide +kernel
theorem dX9_rounds_125 : decode cX9_rounds 125 = .ok (.aload_n 0, 1) := by decide +kernel
theorem dX9_rounds_126 : decode cX9_rounds 126 = .ok (.getfield 86, 3) := by decide +kernel
theorem dX9_rounds_129 : decode cX9_rounds 129 = .ok (.iload 4, 2) := by decide +kernel
theorem dX9_rounds_131 : decode cX9_rounds 131 = .ok (.iaload, 1) := by decide +kernel
theorem dX9_rounds_132 : decode cX9_rounds 132 = .ok (.iastore, 1) := by decide +kernel
theorem dX9_rounds_133 : decode cX9_rounds 133 = .ok (.iinc 4 1, 3) := by decide +kernel
theorem dX9_rounds_136 : decode cX9_rounds 136 = .ok (.goto (-54), 3) := by decide +kernel
theorem dX9_rounds_139 : decode cX9_rounds 139 = .ok (.iinc 3 1, 3) := by decide +kernel
theorem dX9_rounds_142 : decode cX9_rounds 142 = .ok (.goto (-81), 3) := by decide +kernel
theorem dX9_rounds_145 : decode cX9_rounds 145 = .ok (.aload_n 0, 1) := by decide +kernel
theorem dX9_rounds_146 : decode cX9_rounds 146 = .ok (.dup, 1) := by decide +kernel
theorem dX9_rounds_147 : decode cX9_rounds 147 = .ok (.getfield 195, 3) := by decide +kernel
theorem dX9_rounds_150 : decode cX9_rounds 150 = .ok (.iconst 1, 1) := by decide +kernel
theorem dX9_rounds_151 : decode cX9_rounds 151 = .ok (.iadd, 1) := by decide +kernel
theorem dX9_rounds_152 : decode cX9_rounds 152 = .ok (.putfield 195, 3) := by decide +kernel
theorem dX9_rounds_155 : decode cX9_rounds 155 = .ok (.iinc 2 1, 3) := by decide +kernel
theorem dX9_rounds_158 : decode cX9_rounds 158 = .ok (.goto (-113), 3) := by decide +kernel
theorem dX9_rounds_161 : decode cX9_rounds 161 = .ok (.aload_n 0, 1) := by decide +kernel
theorem dX9_rounds_162 : decode cX9_rounds 162 = .ok (.getfield 195, 3) := by decide +kernel
theorem dX9_rounds_165 : decode cX9_rounds 165 = .ok (.i2l, 1) := by decide +kernel
theorem dX9_rounds_166 : decode cX9_rounds 166 = .ok (.lreturn, 1) := by decide +kernel
def f_HM_rounds_b161 (σ : St) : Option (Int64 × St) :=
  some ((rF σ 44).toInt64, σ)
set_option maxRecDepth 4000 in
theorem ok_HM_rounds_b161 {E : gE} {w : wT} {σ' : St} {r : Int64} (X : gC E w cX9_rounds 5 RX9 6) (Y : gQ E w (some .long) (some (.long r)) σ') (σ : St) (h : f_HM_rounds_b161 σ = some (r, σ')) : gW E w 5 σ 161 [some (.ref (w.1 9))] [] := by
  unfold f_HM_rounds_b161 at h
  refine g_aload_n X dX9_rounds_161 rfl rfl ?_
  refine gf_RX9_195 X dX9_rounds_162 rfl ?_
  refine g_i2l X dX9_rounds_165 rfl ?_
  obtain ⟨rfl, rfl⟩ := rt_e h
  exact g_lret X Y dX9_rounds_166

def f_HM_rounds_b133 (k82 : Int32 → Int32 → Int32 → Int32 → St → Option (Int64 × St)) (x1 : Int32) (x2 : Int32) (x3 : Int32) (x4 : Int32) (σ : St) : Option (Int64 × St) :=
  k82 x1 x2 x3 (x4 + 1) σ
set_option maxRecDepth 4000 in
theorem ok_HM_rounds_b133 {E : gE} {w : wT} {σ' : St} {r : Int64} (X : gC E w cX9_rounds 5 RX9 6) (Y : gQ E w (some .long) (some (.long r)) σ') {k82 : Int32 → Int32 → Int32 → Int32 → St → Option (Int64 × St)} (hk82 : ∀ (x1 : Int32) (x2 : Int32) (x3 : Int32) (x4 : Int32) (σ : St), k82 x1 x2 x3 x4 σ = some (r, σ') → gW E w 5 σ 82 [some (.ref (w.1 9)), some (.int x1), some (.int x2), some (.int x3), some (.int x4)] []) {x1 : Int32} {x2 : Int32} {x3 : Int32} {x4 : Int32} (σ : St) (h : f_HM_rounds_b133 k82 x1 x2 x3 x4 σ = some (r, σ')) : gW E w 5 σ 133 [some (.ref (w.1 9)), some (.int x1), some (.int x2), some (.int x3), some (.int x4)] [] := by
  unfold f_HM_rounds_b133 at h
  refine g_iinc X [some (.ref (w.1 9)), some (.int x1), some (.int x2), some (.int x3), some (.int (x4 + 1))] dX9_rounds_133 rfl (ii_1 x4) (Nat.le_of_ble_eq_true rfl) rfl rfl rfl ?_
  refine g_goto X dX9_rounds_136 (tgt := 82) rfl ?_
  exact hk82 x1 x2 x3 (x4 + 1) σ h

def f_HM_rounds_b132 (k82 : Int32 → Int32 → Int32 → Int32 → St → Option (Int64 × St)) (x1 : Int32) (x2 : Int32) (x3 : Int32) (x4 : Int32) (xs1 : Int32) (xs2 : Int32) (σ : St) : Option (Int64 × St) :=
  ck (ib xs1 600) <| lE (stA σ 79 xs1.toNatClampNeg xs2) fun σ2 => f_HM_rounds_b133 k82 x1 x2 x3 x4 σ2
set_option maxRecDepth 4000 in
theorem ok_HM_rounds_b132 {E : gE} {w : wT} {σ' : St} {r : Int64} (X : gC E w cX9_rounds 5 RX9 6) (Y : gQ E w (some .long) (some (.long r)) σ') {k82 : Int32 → Int32 → Int32 → Int32 → St → Option (Int64 × St)} (hk82 : ∀ (x1 : Int32) (x2 : Int32) (x3 : Int32) (x4 : Int32) (σ : St), k82 x1 x2 x3 x4 σ = some (r, σ') → gW E w 5 σ 82 [some (.ref (w.1 9)), some (.int x1), some (.int x2), some (.int x3), some (.int x4)] []) {x1 : Int32} {x2 : Int32} {x3 : Int32} {x4 : Int32} {xs1 : Int32} {xs2 : Int32} (σ : St) (h : f_HM_rounds_b132 k82 x1 x2 x3 x4 xs1 xs2 σ = some (r, σ')) : gW E w 5 σ 132 [some (.ref (w.1 9)), some (.int x1), some (.int x2), some (.int x3), some (.int x4)] [.int xs2, .int xs1, .ref (w.1 79)] := by
  unfold f_HM_rounds_b132 at h
  obtain ⟨c1, h⟩ := ck_e h
  refine g_iast X ar_79.1 ar_79.2.1 ar_79.2.2 (ib_e c1) dX9_rounds_132 rfl (fun σ2 e3 => ?_)
  replace h := lE_c e3 h
  exact ok_HM_rounds_b133 X Y hk82 σ2 h

def f_HM_rounds_b82 (k61 : Int32 → Int32 → Int32 → St → Option (Int64 × St)) (k82 : Int32 → Int32 → Int32 → Int32 → St → Option (Int64 × St)) (x1 : Int32) (x2 : Int32) (x3 : Int32) (x4 : Int32) (σ : St) : Option (Int64 × St) :=
  if (10 : Int32) ≤ x4 then (k61 x1 x2 (x3 + 1) σ) else (ck (ib x4 20) <| if (rI σ 76 x4) = x3 then (if (rF σ 44) = 0 then (f_HM_rounds_b132 k82 x1 x2 x3 x4 ((10 * (rF σ 44)) + x4) 0 σ) else (ck (ib x4 60) <| f_HM_rounds_b132 k82 x1 x2 x3 x4 ((10 * (rF σ 44)) + x4) (rI σ 88 x4) σ)) else (f_HM_rounds_b133 k82 x1 x2 x3 x4 σ))
set_option maxRecDepth 4000 in
theorem ok_HM_rounds_b82 {E : gE} {w : wT} {σ' : St} {r : Int64} (X : gC E w cX9_rounds 5 RX9 6) (Y : gQ E w (some .long) (some (.long r)) σ') {k61 : Int32 → Int32 → Int32 → St → Option (Int64 × St)} (hk61 : ∀ (x1 : Int32) (x2 : Int32) (x3 : Int32) (σ : St), k61 x1 x2 x3 σ = some (r, σ') → gW E w 5 σ 61 [some (.ref (w.1 9)), some (.int x1), some (.int x2), some (.int x3)] []) {k82 : Int32 → Int32 → Int32 → Int32 → St → Option (Int64 × St)} (hk82 : ∀ (x1 : Int32) (x2 : Int32) (x3 : Int32) (x4 : Int32) (σ : St), k82 x1 x2 x3 x4 σ = some (r, σ') → gW E w 5 σ 82 [some (.ref (w.1 9)), some (.int x1), some (.int x2), some (.int x3), some (.int x4)] []) {x1 : Int32} {x2 : Int32} {x3 : Int32} {x4 : Int32} (σ : St) (h : f_HM_rounds_b82 k61 k82 x1 x2 x3 x4 σ = some (r, σ')) : gW E w 5 σ 82 [some (.ref (w.1 9)), some (.int x1), some (.int x2), some (.int x3), some (.int x4)] [] := by
  unfold f_HM_rounds_b82 at h
  refine g_iload X dX9_rounds_82 rfl rfl ?_
  refine g_bipush X kB_10 dX9_rounds_84 rfl ?_
  refine g_icmp_ge X dX9_rounds_86 (tgt := 139) rfl rfl (fun c1 => ?_) (fun c1 => ?_)
  · replace h := if_t c1 h
    refine g_iinc X [some (.ref (w.1 9)), some (.int x1), some (.int x2), some (.int (x3 + 1)), some (.int x4)] dX9_rounds_139 rfl (ii_1 x3) (Nat.le_of_ble_eq_true rfl) rfl rfl rfl ?_
    refine g_goto X dX9_rounds_142 (tgt := 61) rfl ?_
    exact g_le (lle_s (lle_s (lle_s (lle_s (lle_0))))) (hk61 x1 x2 (x3 + 1) σ h)
  · replace h := if_f c1 h
    refine g_aload_n X dX9_rounds_89 rfl rfl ?_
    refine gf_RX9_49 X dX9_rounds_90 rfl ?_
    refine g_iload X dX9_rounds_93 rfl rfl ?_
    obtain ⟨c2, h⟩ := ck_e h
    refine g_iald X ar_76.1 ar_76.2.1 ar_76.2.2 (ib_e c2) dX9_rounds_95 rfl ?_
    refine g_iload_n X dX9_rounds_96 rfl rfl ?_
    refine g_icmp_ne X dX9_rounds_97 (tgt := 133) rfl rfl (fun c3 => ?_) (fun c3 => ?_)
    · replace h := if_f c3 h
      exact ok_HM_rounds_b133 X Y hk82 σ h
    · replace h := if_t c3 h
      refine g_aload_n X dX9_rounds_100 rfl rfl ?_
      refine gf_RX9_58 X dX9_rounds_101 rfl ?_
      refine g_bipush X kB_10 dX9_rounds_104 rfl ?_
      refine g_aload_n X dX9_rounds_106 rfl rfl ?_
      refine gf_RX9_195 X dX9_rounds_107 rfl ?_
      refine g_imul X dX9_rounds_110 rfl ?_
      refine g_iload X dX9_rounds_111 rfl rfl ?_
      refine g_iadd X dX9_rounds_113 rfl ?_
      refine g_aload_n X dX9_rounds_114 rfl rfl ?_
      refine gf_RX9_195 X dX9_rounds_115 rfl ?_
      refine g_if_ne X dX9_rounds_118 (tgt := 125) rfl rfl (fun c4 => ?_) (fun c4 => ?_)
      · replace h := if_f c4 h
        refine g_aload_n X dX9_rounds_125 rfl rfl ?_
        refine gf_RX9_86 X dX9_rounds_126 rfl ?_
        refine g_iload X dX9_rounds_129 rfl rfl ?_
        obtain ⟨c5, h⟩ := ck_e h
        refine g_iald X ar_88.1 ar_88.2.1 ar_88.2.2 (ib_e c5) dX9_rounds_131 rfl ?_
        exact ok_HM_rounds_b132 X Y hk82 σ h
      · replace h := if_t c4 h
        refine g_iconst X kI_0 dX9_rounds_121 rfl ?_
        refine g_goto X dX9_rounds_122 (tgt := 132) rfl ?_
        exact ok_HM_rounds_b132 X Y hk82 σ h
def f_HM_rounds_l82 (k61 : Int32 → Int32 → Int32 → St → Option (Int64 × St)) : Int32 → Int32 → Int32 → Int32 → St → Option (Int64 × St) := lp (fun _ _ _ _ _ => none) (f_HM_rounds_b82 k61) FU
theorem ok_HM_rounds_l82 {E : gE} {w : wT} {σ' : St} {r : Int64} (X : gC E w cX9_rounds 5 RX9 6) (Y : gQ E w (some .long) (some (.long r)) σ') {k61 : Int32 → Int32 → Int32 → St → Option (Int64 × St)} (hk61 : ∀ (x1 : Int32) (x2 : Int32) (x3 : Int32) (σ : St), k61 x1 x2 x3 σ = some (r, σ') → gW E w 5 σ 61 [some (.ref (w.1 9)), some (.int x1), some (.int x2), some (.int x3)] []) {x1 : Int32} {x2 : Int32} {x3 : Int32} {x4 : Int32} (σ : St) (h : f_HM_rounds_l82 k61 x1 x2 x3 x4 σ = some (r, σ')) : gW E w 5 σ 82 [some (.ref (w.1 9)), some (.int x1), some (.int x2), some (.int x3), some (.int x4)] [] :=
  lp_ind (P := fun (k : Int32 → Int32 → Int32 → Int32 → St → Option (Int64 × St)) => ∀ (x1 : Int32) (x2 : Int32) (x3 : Int32) (x4 : Int32) (σ : St), k x1 x2 x3 x4 σ = some (r, σ') → gW E w 5 σ 82 [some (.ref (w.1 9)), some (.int x1), some (.int x2), some (.int x3), some (.int x4)] []) (fun _ _ _ _ _ hh => nn hh) (fun k hk x1 x2 x3 x4 σ  hh => ok_HM_rounds_b82 X Y hk61 hk σ hh) FU x1 x2 x3 x4 σ  h

def f_HM_rounds_b79 (k61 : Int32 → Int32 → Int32 → St → Option (Int64 × St)) (x1 : Int32) (x2 : Int32) (x3 : Int32) (σ : St) : Option (Int64 × St) :=
  f_HM_rounds_l82 k61 x1 x2 x3 0 σ
set_option maxRecDepth 4000 in
theorem ok_HM_rounds_b79 {E : gE} {w : wT} {σ' : St} {r : Int64} (X : gC E w cX9_rounds 5 RX9 6) (Y : gQ E w (some .long) (some (.long r)) σ') {k61 : Int32 → Int32 → Int32 → St → Option (Int64 × St)} (hk61 : ∀ (x1 : Int32) (x2 : Int32) (x3 : Int32) (σ : St), k61 x1 x2 x3 σ = some (r, σ') → gW E w 5 σ 61 [some (.ref (w.1 9)), some (.int x1), some (.int x2), some (.int x3)] []) {x1 : Int32} {x2 : Int32} {x3 : Int32} (σ : St) (h : f_HM_rounds_b79 k61 x1 x2 x3 σ = some (r, σ')) : gW E w 5 σ 79 [some (.ref (w.1 9)), some (.int x1), some (.int x2), some (.int x3)] [] := by
  unfold f_HM_rounds_b79 at h
  refine g_iconst X kI_0 dX9_rounds_79 rfl ?_
  refine g_istore X [some (.ref (w.1 9)), some (.int x1), some (.int x2), some (.int x3), some (.int 0)] dX9_rounds_80 (Nat.le_of_ble_eq_true rfl) rfl rfl rfl ?_
  exact ok_HM_rounds_l82 X Y hk61 σ h

def f_HM_rounds_b61 (k45 : Int32 → Int32 → St → Option (Int64 × St)) (k61 : Int32 → Int32 → Int32 → St → Option (Int64 × St)) (x1 : Int32) (x2 : Int32) (x3 : Int32) (σ : St) : Option (Int64 × St) :=
  if (2 : Int32) ≤ x3 then (lE (stF σ 44 ((rF σ 44) + 1)) fun σ2 => k45 x1 (x2 + 1) σ2) else (if (rF σ 44) ≤ 0 then (f_HM_rounds_b79 k61 x1 x2 x3 σ) else (bd (f_HM_againstRounds x3 σ) fun r7 σ6 => f_HM_rounds_b79 k61 x1 x2 x3 σ6))
set_option maxRecDepth 4000 in
theorem ok_HM_rounds_b61 {E : gE} {w : wT} {σ' : St} {r : Int64} (X : gC E w cX9_rounds 5 RX9 6) (Y : gQ E w (some .long) (some (.long r)) σ') {k45 : Int32 → Int32 → St → Option (Int64 × St)} (hk45 : ∀ (x1 : Int32) (x2 : Int32) (σ : St), k45 x1 x2 σ = some (r, σ') → gW E w 5 σ 45 [some (.ref (w.1 9)), some (.int x1), some (.int x2)] []) {k61 : Int32 → Int32 → Int32 → St → Option (Int64 × St)} (hk61 : ∀ (x1 : Int32) (x2 : Int32) (x3 : Int32) (σ : St), k61 x1 x2 x3 σ = some (r, σ') → gW E w 5 σ 61 [some (.ref (w.1 9)), some (.int x1), some (.int x2), some (.int x3)] []) {x1 : Int32} {x2 : Int32} {x3 : Int32} (σ : St) (h : f_HM_rounds_b61 k45 k61 x1 x2 x3 σ = some (r, σ')) : gW E w 5 σ 61 [some (.ref (w.1 9)), some (.int x1), some (.int x2), some (.int x3)] [] := by
  unfold f_HM_rounds_b61 at h
  refine g_iload_n X dX9_rounds_61 rfl rfl ?_
  refine g_iconst X kI_2 dX9_rounds_62 rfl ?_
  refine g_icmp_ge X dX9_rounds_63 (tgt := 145) rfl rfl (fun c1 => ?_) (fun c1 => ?_)
  · replace h := if_t c1 h
    refine g_aload_n X dX9_rounds_145 rfl rfl ?_
    refine g_dup X dX9_rounds_146 rfl rfl ?_
    refine gf_RX9_195 X dX9_rounds_147 rfl ?_
    refine g_iconst X kI_1 dX9_rounds_150 rfl ?_
    refine g_iadd X dX9_rounds_151 rfl ?_
    refine gp_RX9_195 X dX9_rounds_152 rfl (fun σ2 e3 => ?_)
    replace h := lE_c e3 h
    refine g_iinc X [some (.ref (w.1 9)), some (.int x1), some (.int (x2 + 1)), some (.int x3)] dX9_rounds_155 rfl (ii_1 x2) (Nat.le_of_ble_eq_true rfl) rfl rfl rfl ?_
    refine g_goto X dX9_rounds_158 (tgt := 45) rfl ?_
    exact g_le (lle_s (lle_s (lle_s (lle_0)))) (hk45 x1 (x2 + 1) σ2 h)
  · replace h := if_f c1 h
    refine g_aload_n X dX9_rounds_66 rfl rfl ?_
    refine gf_RX9_195 X dX9_rounds_67 rfl ?_
    refine g_if_le X dX9_rounds_70 (tgt := 79) rfl rfl (fun c4 => ?_) (fun c4 => ?_)
    · replace h := if_t c4 h
      exact ok_HM_rounds_b79 X Y hk61 σ h
    · replace h := if_f c4 h
      refine g_aload_n X dX9_rounds_73 rfl rfl ?_
      refine g_iload_n X dX9_rounds_74 rfl rfl ?_
      obtain ⟨r7, σ6, h5, h⟩ := bd_e h
      refine g_callVJ X [.int x3] (ok_HM_againstRounds X.inj h5) my_yX9_againstRounds mi_yX9_againstRounds ms_yX9_againstRounds ml_RX9_286 (by decide) rfl rfl (by decide) rfl dX9_rounds_75 (Nat.le_of_ble_eq_true rfl) rfl rfl ?_
      refine g_pop2 X dX9_rounds_78 rfl rfl ?_
      exact ok_HM_rounds_b79 X Y hk61 σ6 h
def f_HM_rounds_l61 (k45 : Int32 → Int32 → St → Option (Int64 × St)) : Int32 → Int32 → Int32 → St → Option (Int64 × St) := lp (fun _ _ _ _ => none) (f_HM_rounds_b61 k45) FU
theorem ok_HM_rounds_l61 {E : gE} {w : wT} {σ' : St} {r : Int64} (X : gC E w cX9_rounds 5 RX9 6) (Y : gQ E w (some .long) (some (.long r)) σ') {k45 : Int32 → Int32 → St → Option (Int64 × St)} (hk45 : ∀ (x1 : Int32) (x2 : Int32) (σ : St), k45 x1 x2 σ = some (r, σ') → gW E w 5 σ 45 [some (.ref (w.1 9)), some (.int x1), some (.int x2)] []) {x1 : Int32} {x2 : Int32} {x3 : Int32} (σ : St) (h : f_HM_rounds_l61 k45 x1 x2 x3 σ = some (r, σ')) : gW E w 5 σ 61 [some (.ref (w.1 9)), some (.int x1), some (.int x2), some (.int x3)] [] :=
  lp_ind (P := fun (k : Int32 → Int32 → Int32 → St → Option (Int64 × St)) => ∀ (x1 : Int32) (x2 : Int32) (x3 : Int32) (σ : St), k x1 x2 x3 σ = some (r, σ') → gW E w 5 σ 61 [some (.ref (w.1 9)), some (.int x1), some (.int x2), some (.int x3)] []) (fun _ _ _ _ hh => nn hh) (fun k hk x1 x2 x3 σ  hh => ok_HM_rounds_b61 X Y hk45 hk σ hh) FU x1 x2 x3 σ  h

def f_HM_rounds_b45 (k45 : Int32 → Int32 → St → Option (Int64 × St)) (x1 : Int32) (x2 : Int32) (σ : St) : Option (Int64 × St) :=
  if x1 ≤ x2 then (f_HM_rounds_b161 σ) else (if (60 : Int32) ≤ (rF σ 44) then (f_HM_rounds_b161 σ) else (f_HM_rounds_l61 k45 x1 x2 0 σ))
set_option maxRecDepth 4000 in
theorem ok_HM_rounds_b45 {E : gE} {w : wT} {σ' : St} {r : Int64} (X : gC E w cX9_rounds 5 RX9 6) (Y : gQ E w (some .long) (some (.long r)) σ') {k45 : Int32 → Int32 → St → Option (Int64 × St)} (hk45 : ∀ (x1 : Int32) (x2 : Int32) (σ : St), k45 x1 x2 σ = some (r, σ') → gW E w 5 σ 45 [some (.ref (w.1 9)), some (.int x1), some (.int x2)] []) {x1 : Int32} {x2 : Int32} (σ : St) (h : f_HM_rounds_b45 k45 x1 x2 σ = some (r, σ')) : gW E w 5 σ 45 [some (.ref (w.1 9)), some (.int x1), some (.int x2)] [] := by
  unfold f_HM_rounds_b45 at h
  refine g_iload_n X dX9_rounds_45 rfl rfl ?_
  refine g_iload_n X dX9_rounds_46 rfl rfl ?_
  refine g_icmp_ge X dX9_rounds_47 (tgt := 161) rfl rfl (fun c1 => ?_) (fun c1 => ?_)
  · replace h := if_t c1 h
    exact g_le (lle_s (lle_0)) (ok_HM_rounds_b161 X Y σ h)
  · replace h := if_f c1 h
    refine g_aload_n X dX9_rounds_50 rfl rfl ?_
    refine gf_RX9_195 X dX9_rounds_51 rfl ?_
    refine g_bipush X kB_60 dX9_rounds_54 rfl ?_
    refine g_icmp_ge X dX9_rounds_56 (tgt := 161) rfl rfl (fun c2 => ?_) (fun c2 => ?_)
    · replace h := if_t c2 h
      exact g_le (lle_s (lle_0)) (ok_HM_rounds_b161 X Y σ h)
    · replace h := if_f c2 h
      refine g_iconst X kI_0 dX9_rounds_59 rfl ?_
      refine g_istore_n X [some (.ref (w.1 9)), some (.int x1), some (.int x2), some (.int 0)] dX9_rounds_60 (Nat.le_of_ble_eq_true rfl) rfl rfl rfl ?_
      exact ok_HM_rounds_l61 X Y hk45 σ h
def f_HM_rounds_l45 : Int32 → Int32 → St → Option (Int64 × St) := lp (fun _ _ _ => none) (f_HM_rounds_b45) FU
theorem ok_HM_rounds_l45 {E : gE} {w : wT} {σ' : St} {r : Int64} (X : gC E w cX9_rounds 5 RX9 6) (Y : gQ E w (some .long) (some (.long r)) σ') {x1 : Int32} {x2 : Int32} (σ : St) (h : f_HM_rounds_l45 x1 x2 σ = some (r, σ')) : gW E w 5 σ 45 [some (.ref (w.1 9)), some (.int x1), some (.int x2)] [] :=
  lp_ind (P := fun (k : Int32 → Int32 → St → Option (Int64 × St)) => ∀ (x1 : Int32) (x2 : Int32) (σ : St), k x1 x2 σ = some (r, σ') → gW E w 5 σ 45 [some (.ref (w.1 9)), some (.int x1), some (.int x2)] []) (fun _ _ _ hh => nn hh) (fun k hk x1 x2 σ  hh => ok_HM_rounds_b45 X Y hk σ hh) FU x1 x2 σ  h

def f_HM_rounds (x1 : Int32) (σ : St) : Option (Int64 × St) :=
  bd (f_HM_in x1.toInt64 1 60 σ) fun r3 σ2 => if r3 = 0 then (some ((-9000000000000000001), σ2)) else (if (rF σ2 43) = 0 then (some ((-9000000000000000002), σ2)) else (bd (f_HM_isForgetful 0 σ2) fun r8 σ7 => if r8 = 0 then (bd (f_HM_isForgetful 1 σ7) fun r12 σ11 => if r12 = 0 then (f_HM_rounds_l45 x1 0 σ11) else (some ((-9000000000000000002), σ11))) else (some ((-9000000000000000002), σ7))))
set_option maxRecDepth 4000 in
theorem ok_HM_rounds {w : wT} (hi : wInj w) {l : Launch} {x1 : Int32} {σ σ' : St} {r : Int64} (h : f_HM_rounds x1 σ = some (r, σ')) : gM w l yX9_rounds cX9_rounds 5 (some .long) 6 [.ref (w.1 9), .int x1] σ (some (.long r)) σ' := by
  unfold f_HM_rounds at h
  refine gM_of hi (by decide) [some (.ref (w.1 9)), some (.int x1)] rfl (Nat.le_of_ble_eq_true rfl) (fun E hl X Y => ?_)
  refine g_iload_n X dX9_rounds_0 rfl rfl ?_
  refine g_i2l X dX9_rounds_1 rfl ?_
  refine g_lconst X kL_1 dX9_rounds_2 rfl ?_
  refine g_ldc2 X dX9_rounds_3 kc_RX9_284 rfl ?_
  obtain ⟨r3, σ2, h1, h⟩ := bd_e h
  refine g_callSI X [.long x1.toInt64, .long 1, .long 60] (ok_HM_in X.inj h1) my_yX9_in mt_yX9_in ml_RX9_91 (by decide) rfl dX9_rounds_6 (Nat.le_of_ble_eq_true rfl) rfl rfl ?_
  refine g_if_ne X dX9_rounds_9 (tgt := 16) rfl rfl (fun c4 => ?_) (fun c4 => ?_)
  · replace h := if_f c4 h
    refine g_aload_n X dX9_rounds_16 rfl rfl ?_
    refine gf_RX9_192 X dX9_rounds_17 rfl ?_
    refine g_if_eq X dX9_rounds_20 (tgt := 39) rfl rfl (fun c5 => ?_) (fun c5 => ?_)
    · replace h := if_t c5 h
      refine g_ldc2 X dX9_rounds_39 kc_RX9_240 rfl ?_
      obtain ⟨rfl, rfl⟩ := rt_e h
      exact g_lret X Y dX9_rounds_42
    · replace h := if_f c5 h
      refine g_aload_n X dX9_rounds_23 rfl rfl ?_
      refine g_iconst X kI_0 dX9_rounds_24 rfl ?_
      obtain ⟨r8, σ7, h6, h⟩ := bd_e h
      refine g_callVI X [.int 0] (ok_HM_isForgetful X.inj h6) my_yX9_isForgetful mi_yX9_isForgetful ms_yX9_isForgetful ml_RX9_222 (by decide) rfl rfl (by decide) rfl dX9_rounds_25 (Nat.le_of_ble_eq_true rfl) rfl rfl ?_
      refine g_if_ne X dX9_rounds_28 (tgt := 39) rfl rfl (fun c9 => ?_) (fun c9 => ?_)
      · replace h := if_f c9 h
        refine g_ldc2 X dX9_rounds_39 kc_RX9_240 rfl ?_
        obtain ⟨rfl, rfl⟩ := rt_e h
        exact g_lret X Y dX9_rounds_42
      · replace h := if_t c9 h
        refine g_aload_n X dX9_rounds_31 rfl rfl ?_
        refine g_iconst X kI_1 dX9_rounds_32 rfl ?_
        obtain ⟨r12, σ11, h10, h⟩ := bd_e h
        refine g_callVI X [.int 1] (ok_HM_isForgetful X.inj h10) my_yX9_isForgetful mi_yX9_isForgetful ms_yX9_isForgetful ml_RX9_222 (by decide) rfl rfl (by decide) rfl dX9_rounds_33 (Nat.le_of_ble_eq_true rfl) rfl rfl ?_
        refine g_if_eq X dX9_rounds_36 (tgt := 43) rfl rfl (fun c13 => ?_) (fun c13 => ?_)
        · replace h := if_t c13 h
          refine g_iconst X kI_0 dX9_rounds_43 rfl ?_
          refine g_istore_n X [some (.ref (w.1 9)), some (.int x1), some (.int 0)] dX9_rounds_44 (Nat.le_of_ble_eq_true rfl) rfl rfl rfl ?_
          exact ok_HM_rounds_l45 X Y σ11 h
        · replace h := if_f c13 h
          refine g_ldc2 X dX9_rounds_39 kc_RX9_240 rfl ?_
          obtain ⟨rfl, rfl⟩ := rt_e h
          exact g_lret X Y dX9_rounds_42
  · replace h := if_t c4 h
    refine g_ldc2 X dX9_rounds_12 kc_RX9_107 rfl ?_
    obtain ⟨rfl, rfl⟩ := rt_e h
    exact g_lret X Y dX9_rounds_15

theorem dX9_bound_0 : decode cX9_bound 0 = .ok (.iload_n 1, 1) := by decide +kernel
theorem dX9_bound_1 : decode cX9_bound 1 = .ok (.i2l, 1) := by decide +kernel
theorem dX9_bound_2 : decode cX9_bound 2 = .ok (.lconst 0, 1) := by decide +kernel
theorem dX9_bound_3 : decode cX9_bound 3 = .ok (.ldc2_w 105, 3) := by decide +kernel
theorem dX9_bound_6 : decode cX9_bound 6 = .ok (.invokestatic 91, 3) := by decide +kernel
theorem dX9_bound_9 : decode cX9_bound 9 = .ok (.ifCond .ne 7, 3) := by decide +kernel
theorem dX9_bound_12 : decode cX9_bound 12 = .ok (.ldc2_w 107, 3) := by decide +kernel
theorem dX9_bound_15 : decode cX9_bound 15 = .ok (.lreturn, 1) := by decide +kernel
theorem dX9_bound_16 : decode cX9_bound 16 = .ok (.iload_n 1, 1) := by decide +kernel
theorem dX9_bound_17 : decode cX9_bound 17 = .ok (.iconst 2, 1) := by decide +kernel
theorem dX9_bound_18 : decode cX9_bound 18 = .ok (.if_icmp .ge 14, 3) := by decide +kernel
theorem dX9_bound_21 : decode cX9_bound 21 = .ok (.aload_n 0, 1) := by decide +kernel
theorem dX9_bound_22 : decode cX9_bound 22 = .ok (.getfield 195, 3) := by decide +kernel
theorem dX9_bound_25 : decode cX9_bound 25 = .ok (.ifCond .ne 7, 3) := by decide +kernel
theorem dX9_bound_28 : decode cX9_bound 28 = .ok (.ldc2_w 240, 3) := by decide +kernel
theorem dX9_bound_31 : decode cX9_bound 31 = .ok (.lreturn, 1) := by decide +kernel
theorem dX9_bound_32 : decode cX9_bound 32 = .ok (.iload_n 1, 1) := by decide +kernel
theorem dX9_bound_33 : decode cX9_bound 33 = .ok (.iconst 2, 1) := by decide +kernel
theorem dX9_bound_34 : decode cX9_bound 34 = .ok (.if_icmp .ne 11, 3) := by decide +kernel
theorem dX9_bound_37 : decode cX9_bound 37 = .ok (.aload_n 0, 1) := by decide +kernel
theorem dX9_bound_38 : decode cX9_bound 38 = .ok (.getfield 195, 3) := by decide +kernel
theorem dX9_bound_41 : decode cX9_bound 41 = .ok (.i2l, 1) := by decide +kernel
theorem dX9_bound_42 : decode cX9_bound 42 = .ok (.goto 10, 3) := by decide +kernel
theorem dX9_bound_45 : decode cX9_bound 45 = .ok (.aload_n 0, 1) := by decide +kernel
theorem dX9_bound_46 : decode cX9_bound 46 = .ok (.iconst 1, 1) := by decide +kernel
theorem dX9_bound_47 : decode cX9_bound 47 = .ok (.iload_n 1, 1) := by decide +kernel
theorem dX9_bound_48 : decode cX9_bound 48 = .ok (.isub, 1) := by decide +kernel
theorem dX9_bound_49 : decode cX9_bound 49 = .ok (.invokevirtual 286, 3) := by decide +kernel
theorem dX9_bound_52 : decode cX9_bound 52 = .ok (.lreturn, 1) := by decide +kernel
def f_HM_bound_b32 (x1 : Int32) (σ : St) : Option (Int64 × St) :=
  if x1 = 2 then (some ((rF σ 44).toInt64, σ)) else (bd (f_HM_againstRounds (1 - x1) σ) fun r4 σ3 => some (r4, σ3))
set_option maxRecDepth 4000 in
theorem ok_HM_bound_b32 {E : gE} {w : wT} {σ' : St} {r : Int64} (X : gC E w cX9_bound 2 RX9 6) (Y : gQ E w (some .long) (some (.long r)) σ') {x1 : Int32} (σ : St) (h : f_HM_bound_b32 x1 σ = some (r, σ')) : gW E w 2 σ 32 [some (.ref (w.1 9)), some (.int x1)] [] := by
  unfold f_HM_bound_b32 at h
  refine g_iload_n X dX9_bound_32 rfl rfl ?_
  refine g_iconst X kI_2 dX9_bound_33 rfl ?_
  refine g_icmp_ne X dX9_bound_34 (tgt := 45) rfl rfl (fun c1 => ?_) (fun c1 => ?_)
  · replace h := if_f c1 h
    refine g_aload_n X dX9_bound_45 rfl rfl ?_
    refine g_iconst X kI_1 dX9_bound_46 rfl ?_
    refine g_iload_n X dX9_bound_47 rfl rfl ?_
    refine g_isub X dX9_bound_48 rfl ?_
    obtain ⟨r4, σ3, h2, h⟩ := bd_e h
    refine g_callVJ X [.int (1 - x1)] (ok_HM_againstRounds X.inj h2) my_yX9_againstRounds mi_yX9_againstRounds ms_yX9_againstRounds ml_RX9_286 (by decide) rfl rfl (by decide) rfl dX9_bound_49 (Nat.le_of_ble_eq_true rfl) rfl rfl ?_
    obtain ⟨rfl, rfl⟩ := rt_e h
    exact g_lret X Y dX9_bound_52
  · replace h := if_t c1 h
    refine g_aload_n X dX9_bound_37 rfl rfl ?_
    refine gf_RX9_195 X dX9_bound_38 rfl ?_
    refine g_i2l X dX9_bound_41 rfl ?_
    refine g_goto X dX9_bound_42 (tgt := 52) rfl ?_
    obtain ⟨rfl, rfl⟩ := rt_e h
    exact g_lret X Y dX9_bound_52

def f_HM_bound (x1 : Int32) (σ : St) : Option (Int64 × St) :=
  bd (f_HM_in x1.toInt64 0 2 σ) fun r3 σ2 => if r3 = 0 then (some ((-9000000000000000001), σ2)) else (if (2 : Int32) ≤ x1 then (f_HM_bound_b32 x1 σ2) else (if (rF σ2 44) = 0 then (some ((-9000000000000000002), σ2)) else (f_HM_bound_b32 x1 σ2)))
set_option maxRecDepth 4000 in
theorem ok_HM_bound {w : wT} (hi : wInj w) {l : Launch} {x1 : Int32} {σ σ' : St} {r : Int64} (h : f_HM_bound x1 σ = some (r, σ')) : gM w l yX9_bound cX9_bound 2 (some .long) 6 [.ref (w.1 9), .int x1] σ (some (.long r)) σ' := by
  unfold f_HM_bound at h
  refine gM_of hi (by decide) [some (.ref (w.1 9)), some (.int x1)] rfl (Nat.le_of_ble_eq_true rfl) (fun E hl X Y => ?_)
  refine g_iload_n X dX9_bound_0 rfl rfl ?_
  refine g_i2l X dX9_bound_1 rfl ?_
  refine g_lconst X kL_0 dX9_bound_2 rfl ?_
  refine g_ldc2 X dX9_bound_3 kc_RX9_105 rfl ?_
  obtain ⟨r3, σ2, h1, h⟩ := bd_e h
  refine g_callSI X [.long x1.toInt64, .long 0, .long 2] (ok_HM_in X.inj h1) my_yX9_in mt_yX9_in ml_RX9_91 (by decide) rfl dX9_bound_6 (Nat.le_of_ble_eq_true rfl) rfl rfl ?_
  refine g_if_ne X dX9_bound_9 (tgt := 16) rfl rfl (fun c4 => ?_) (fun c4 => ?_)
  · replace h := if_f c4 h
    refine g_iload_n X dX9_bound_16 rfl rfl ?_
    refine g_iconst X kI_2 dX9_bound_17 rfl ?_
    refine g_icmp_ge X dX9_bound_18 (tgt := 32) rfl rfl (fun c5 => ?_) (fun c5 => ?_)
    · replace h := if_t c5 h
      exact ok_HM_bound_b32 X Y σ2 h
    · replace h := if_f c5 h
      refine g_aload_n X dX9_bound_21 rfl rfl ?_
      refine gf_RX9_195 X dX9_bound_22 rfl ?_
      refine g_if_ne X dX9_bound_25 (tgt := 32) rfl rfl (fun c6 => ?_) (fun c6 => ?_)
      · replace h := if_f c6 h
        exact ok_HM_bound_b32 X Y σ2 h
      · replace h := if_t c6 h
        refine g_ldc2 X dX9_bound_28 kc_RX9_240 rfl ?_
        obtain ⟨rfl, rfl⟩ := rt_e h
        exact g_lret X Y dX9_bound_31
  · replace h := if_t c4 h
    refine g_ldc2 X dX9_bound_12 kc_RX9_107 rfl ?_
    obtain ⟨rfl, rfl⟩ := rt_e h
    exact g_lret X Y dX9_bound_15
