theorem dX9_mean_0 : decode cX9_mean 0 = .ok (.aload_n 0, 1) := by decide +kernel
theorem dX9_mean_1 : decode cX9_mean 1 = .ok (.iload_n 1, 1) := by decide +kernel
theorem dX9_mean_2 : decode cX9_mean 2 = .ok (.invokevirtual 225, 3) := by decide +kernel
theorem dX9_mean_5 : decode cX9_mean 5 = .ok (.ifCond .eq 21, 3) := by decide +kernel
theorem dX9_mean_8 : decode cX9_mean 8 = .ok (.iload_n 2, 1) := by decide +kernel
theorem dX9_mean_9 : decode cX9_mean 9 = .ok (.i2l, 1) := by decide +kernel
theorem dX9_mean_10 : decode cX9_mean 10 = .ok (.lconst 0, 1) := by decide +kernel
theorem dX9_mean_11 : decode cX9_mean 11 = .ok (.aload_n 0, 1) := by decide +kernel
theorem dX9_mean_12 : decode cX9_mean 12 = .ok (.getfield 52, 3) := by decide +kernel
theorem dX9_mean_15 : decode cX9_mean 15 = .ok (.iload_n 1, 1) := by decide +kernel
theorem dX9_mean_16 : decode cX9_mean 16 = .ok (.iaload, 1) := by decide +kernel
theorem dX9_mean_17 : decode cX9_mean 17 = .ok (.iconst 1, 1) := by decide +kernel
theorem dX9_mean_18 : decode cX9_mean 18 = .ok (.isub, 1) := by decide +kernel
theorem dX9_mean_19 : decode cX9_mean 19 = .ok (.i2l, 1) := by decide +kernel
theorem dX9_mean_20 : decode cX9_mean 20 = .ok (.invokestatic 91, 3) := by decide +kernel
theorem dX9_mean_23 : decode cX9_mean 23 = .ok (.ifCond .ne 7, 3) := by decide +kernel
theorem dX9_mean_26 : decode cX9_mean 26 = .ok (.ldc2_w 107, 3) := by decide +kernel
theorem dX9_mean_29 : decode cX9_mean 29 = .ok (.lreturn, 1) := by decide +kernel
theorem dX9_mean_30 : decode cX9_mean 30 = .ok (.iconst 0, 1) := by decide +kernel
theorem dX9_mean_31 : decode cX9_mean 31 = .ok (.istore_n 3, 1) := by decide +kernel
theorem dX9_mean_32 : decode cX9_mean 32 = .ok (.iconst 0, 1) := by decide +kernel
theorem dX9_mean_33 : decode cX9_mean 33 = .ok (.istore 4, 2) := by decide +kernel
theorem dX9_mean_35 : decode cX9_mean 35 = .ok (.iload 4, 2) := by decide +kernel
theorem dX9_mean_37 : decode cX9_mean 37 = .ok (.aload_n 0, 1) := by decide +kernel
theorem dX9_mean_38 : decode cX9_mean 38 = .ok (.getfield 195, 3) := by decide +kernel
theorem dX9_mean_41 : decode cX9_mean 41 = .ok (.if_icmp .ge 33, 3) := by decide +kernel
theorem dX9_mean_44 : decode cX9_mean 44 = .ok (.iload_n 3, 1) := by decide +kernel
theorem dX9_mean_45 : decode cX9_mean 45 = .ok (.aload_n 0, 1) := by decide +kernel
theorem dX9_mean_46 : decode cX9_mean 46 = .ok (.getfield 58, 3) := by decide +kernel
theorem dX9_mean_49 : decode cX9_mean 49 = .ok (.bipush 10, 2) := by decide +kernel
theorem dX9_mean_51 : decode cX9_mean 51 = .ok (.iload 4, 2) := by decide +kernel
theorem dX9_mean_53 : decode cX9_mean 53 = .ok (.imul, 1) := by decide +kernel
theorem dX9_mean_54 : decode cX9_mean 54 = .ok (.iload_n 1, 1) := by decide +kernel
theorem dX9_mean_55 : decode cX9_mean 55 = .ok (.iadd, 1) := by decide +kernel
theorem dX9_mean_56 : decode cX9_mean 56 = .ok (.iaload, 1) := by decide +kernel
theorem dX9_mean_57 : decode cX9_mean 57 = .ok (.iload_n 2, 1) := by decide +kernel
theorem dX9_mean_58 : decode cX9_mean 58 = .ok (.if_icmp .ne 7, 3) := by decide +kernel
theorem dX9_mean_61 : decode cX9_mean 61 = .ok (.iconst 1, 1) := by decide +kernel
theorem dX9_mean_62 : decode cX9_mean 62 = .ok (.goto 4, 3) := by decide +kernel
theorem dX9_mean_65 : decode cX9_mean 65 = .ok (.iconst 0, 1) := by decide +kernel
theorem dX9_mean_66 : decode cX9_mean 66 = .ok (.iadd, 1) := by decide +kernel
theorem dX9_mean_67 : decode cX9_mean 67 = .ok (.istore_n 3, 1) := by decide +kernel
theorem dX9_mean_68 : decode cX9_mean 68 = .ok (.iinc 4 1, 3) := by decide +kernel
theorem dX9_mean_71 : decode cX9_mean 71 = .ok (.goto (-36), 3) := by decide +kernel
theorem dX9_mean_74 : decode cX9_mean 74 = .ok (.iload_n 3, 1) := by decide +kernel
theorem dX9_mean_75 : decode cX9_mean 75 = .ok (.i2l, 1) := by decide +kernel
theorem dX9_mean_76 : decode cX9_mean 76 = .ok (.lreturn, 1) := by decide +kernel
def f_HM_mean_b66 (k35 : Int32 → Int32 → Int32 → Int32 → St → Option (Int64 × St)) (x1 : Int32) (x2 : Int32) (x4 : Int32) (xs0 : Int32) (xs1 : Int32) (σ : St) : Option (Int64 × St) :=
  k35 x1 x2 (xs0 + xs1) (x4 + 1) σ
set_option maxRecDepth 4000 in
theorem ok_HM_mean_b66 {E : gE} {w : wT} {σ' : St} {r : Int64} (X : gC E w cX9_mean 5 RX9 3) (Y : gQ E w (some .long) (some (.long r)) σ') {k35 : Int32 → Int32 → Int32 → Int32 → St → Option (Int64 × St)} (hk35 : ∀ (x1 : Int32) (x2 : Int32) (x3 : Int32) (x4 : Int32) (σ : St), k35 x1 x2 x3 x4 σ = some (r, σ') → gW E w 5 σ 35 [some (.ref (w.1 9)), some (.int x1), some (.int x2), some (.int x3), some (.int x4)] []) {x1 : Int32} {x2 : Int32} {x4 : Int32} {xs0 : Int32} {xs1 : Int32} (σ : St) (h : f_HM_mean_b66 k35 x1 x2 x4 xs0 xs1 σ = some (r, σ')) : gW E w 5 σ 66 [some (.ref (w.1 9)), some (.int x1), some (.int x2), none, some (.int x4)] [.int xs1, .int xs0] := by
  unfold f_HM_mean_b66 at h
  refine g_iadd X dX9_mean_66 rfl ?_
  refine g_istore_n X [some (.ref (w.1 9)), some (.int x1), some (.int x2), some (.int (xs0 + xs1)), some (.int x4)] dX9_mean_67 (Nat.le_of_ble_eq_true rfl) rfl rfl rfl ?_
  refine g_iinc X [some (.ref (w.1 9)), some (.int x1), some (.int x2), some (.int (xs0 + xs1)), some (.int (x4 + 1))] dX9_mean_68 rfl (ii_1 x4) (Nat.le_of_ble_eq_true rfl) rfl rfl rfl ?_
  refine g_goto X dX9_mean_71 (tgt := 35) rfl ?_
  exact hk35 x1 x2 (xs0 + xs1) (x4 + 1) σ h

def f_HM_mean_b35 (k35 : Int32 → Int32 → Int32 → Int32 → St → Option (Int64 × St)) (x1 : Int32) (x2 : Int32) (x3 : Int32) (x4 : Int32) (σ : St) : Option (Int64 × St) :=
  if (rF σ 44) ≤ x4 then (some (x3.toInt64, σ)) else (ck (ib ((10 * x4) + x1) 600) <| if (rI σ 79 ((10 * x4) + x1)) = x2 then (f_HM_mean_b66 k35 x1 x2 x4 x3 1 σ) else (f_HM_mean_b66 k35 x1 x2 x4 x3 0 σ))
set_option maxRecDepth 4000 in
theorem ok_HM_mean_b35 {E : gE} {w : wT} {σ' : St} {r : Int64} (X : gC E w cX9_mean 5 RX9 3) (Y : gQ E w (some .long) (some (.long r)) σ') {k35 : Int32 → Int32 → Int32 → Int32 → St → Option (Int64 × St)} (hk35 : ∀ (x1 : Int32) (x2 : Int32) (x3 : Int32) (x4 : Int32) (σ : St), k35 x1 x2 x3 x4 σ = some (r, σ') → gW E w 5 σ 35 [some (.ref (w.1 9)), some (.int x1), some (.int x2), some (.int x3), some (.int x4)] []) {x1 : Int32} {x2 : Int32} {x3 : Int32} {x4 : Int32} (σ : St) (h : f_HM_mean_b35 k35 x1 x2 x3 x4 σ = some (r, σ')) : gW E w 5 σ 35 [some (.ref (w.1 9)), some (.int x1), some (.int x2), some (.int x3), some (.int x4)] [] := by
  unfold f_HM_mean_b35 at h
  refine g_iload X dX9_mean_35 rfl rfl ?_
  refine g_aload_n X dX9_mean_37 rfl rfl ?_
  refine gf_RX9_195 X dX9_mean_38 rfl ?_
  refine g_icmp_ge X dX9_mean_41 (tgt := 74) rfl rfl (fun c1 => ?_) (fun c1 => ?_)
  · replace h := if_t c1 h
    refine g_iload_n X dX9_mean_74 rfl rfl ?_
    refine g_i2l X dX9_mean_75 rfl ?_
    obtain ⟨rfl, rfl⟩ := rt_e h
    exact g_lret X Y dX9_mean_76
  · replace h := if_f c1 h
    refine g_iload_n X dX9_mean_44 rfl rfl ?_
    refine g_aload_n X dX9_mean_45 rfl rfl ?_
    refine gf_RX9_58 X dX9_mean_46 rfl ?_
    refine g_bipush X kB_10 dX9_mean_49 rfl ?_
    refine g_iload X dX9_mean_51 rfl rfl ?_
    refine g_imul X dX9_mean_53 rfl ?_
    refine g_iload_n X dX9_mean_54 rfl rfl ?_
    refine g_iadd X dX9_mean_55 rfl ?_
    obtain ⟨c2, h⟩ := ck_e h
    refine g_iald X ar_79.1 ar_79.2.1 ar_79.2.2 (ib_e c2) dX9_mean_56 rfl ?_
    refine g_iload_n X dX9_mean_57 rfl rfl ?_
    refine g_icmp_ne X dX9_mean_58 (tgt := 65) rfl rfl (fun c3 => ?_) (fun c3 => ?_)
    · replace h := if_f c3 h
      refine g_iconst X kI_0 dX9_mean_65 rfl ?_
      exact g_le (lle_s (lle_s (lle_s (lle_k (lle_s (lle_0)))))) (ok_HM_mean_b66 X Y hk35 σ h)
    · replace h := if_t c3 h
      refine g_iconst X kI_1 dX9_mean_61 rfl ?_
      refine g_goto X dX9_mean_62 (tgt := 66) rfl ?_
      exact g_le (lle_s (lle_s (lle_s (lle_k (lle_s (lle_0)))))) (ok_HM_mean_b66 X Y hk35 σ h)
def f_HM_mean_l35 : Int32 → Int32 → Int32 → Int32 → St → Option (Int64 × St) := lp (fun _ _ _ _ _ => none) (f_HM_mean_b35) FU
theorem ok_HM_mean_l35 {E : gE} {w : wT} {σ' : St} {r : Int64} (X : gC E w cX9_mean 5 RX9 3) (Y : gQ E w (some .long) (some (.long r)) σ') {x1 : Int32} {x2 : Int32} {x3 : Int32} {x4 : Int32} (σ : St) (h : f_HM_mean_l35 x1 x2 x3 x4 σ = some (r, σ')) : gW E w 5 σ 35 [some (.ref (w.1 9)), some (.int x1), some (.int x2), some (.int x3), some (.int x4)] [] :=
  lp_ind (P := fun (k : Int32 → Int32 → Int32 → Int32 → St → Option (Int64 × St)) => ∀ (x1 : Int32) (x2 : Int32) (x3 : Int32) (x4 : Int32) (σ : St), k x1 x2 x3 x4 σ = some (r, σ') → gW E w 5 σ 35 [some (.ref (w.1 9)), some (.int x1), some (.int x2), some (.int x3), some (.int x4)] []) (fun _ _ _ _ _ hh => nn hh) (fun k hk x1 x2 x3 x4 σ  hh => ok_HM_mean_b35 X Y hk σ hh) FU x1 x2 x3 x4 σ  h

def f_HM_mean (x1 : Int32) (x2 : Int32) (σ : St) : Option (Int64 × St) :=
  bd (f_HM_isSet x1 σ) fun r3 σ2 => if r3 = 0 then (some ((-9000000000000000001), σ2)) else (ck (ib x1 20) <| bd (f_HM_in x2.toInt64 0 (((rI σ2 77 x1) - 1).toInt64) σ2) fun r8 σ7 => if r8 = 0 then (some ((-9000000000000000001), σ7)) else (f_HM_mean_l35 x1 x2 0 0 σ7))
set_option maxRecDepth 4000 in
theorem ok_HM_mean {w : wT} (hi : wInj w) {l : Launch} {x1 : Int32} {x2 : Int32} {σ σ' : St} {r : Int64} (h : f_HM_mean x1 x2 σ = some (r, σ')) : gM w l yX9_mean cX9_mean 5 (some .long) 3 [.ref (w.1 9), .int x1, .int x2] σ (some (.long r)) σ' := by
  unfold f_HM_mean at h
  refine gM_of hi (by decide) [some (.ref (w.1 9)), some (.int x1), some (.int x2)] rfl (Nat.le_of_ble_eq_true rfl) (fun E hl X Y => ?_)
  refine g_aload_n X dX9_mean_0 rfl rfl ?_
  refine g_iload_n X dX9_mean_1 rfl rfl ?_
  obtain ⟨r3, σ2, h1, h⟩ := bd_e h
  refine g_callVI X [.int x1] (ok_HM_isSet X.inj h1) my_yX9_isSet mi_yX9_isSet ms_yX9_isSet ml_RX9_225 (by decide) rfl rfl (by decide) rfl dX9_mean_2 (Nat.le_of_ble_eq_true rfl) rfl rfl ?_
  refine g_if_eq X dX9_mean_5 (tgt := 26) rfl rfl (fun c4 => ?_) (fun c4 => ?_)
  · replace h := if_t c4 h
    refine g_ldc2 X dX9_mean_26 kc_RX9_107 rfl ?_
    obtain ⟨rfl, rfl⟩ := rt_e h
    exact g_lret X Y dX9_mean_29
  · replace h := if_f c4 h
    refine g_iload_n X dX9_mean_8 rfl rfl ?_
    refine g_i2l X dX9_mean_9 rfl ?_
    refine g_lconst X kL_0 dX9_mean_10 rfl ?_
    refine g_aload_n X dX9_mean_11 rfl rfl ?_
    refine gf_RX9_52 X dX9_mean_12 rfl ?_
    refine g_iload_n X dX9_mean_15 rfl rfl ?_
    obtain ⟨c5, h⟩ := ck_e h
    refine g_iald X ar_77.1 ar_77.2.1 ar_77.2.2 (ib_e c5) dX9_mean_16 rfl ?_
    refine g_iconst X kI_1 dX9_mean_17 rfl ?_
    refine g_isub X dX9_mean_18 rfl ?_
    refine g_i2l X dX9_mean_19 rfl ?_
    obtain ⟨r8, σ7, h6, h⟩ := bd_e h
    refine g_callSI X [.long x2.toInt64, .long 0, .long (((rI σ2 77 x1) - 1).toInt64)] (ok_HM_in X.inj h6) my_yX9_in mt_yX9_in ml_RX9_91 (by decide) rfl dX9_mean_20 (Nat.le_of_ble_eq_true rfl) rfl rfl ?_
    refine g_if_ne X dX9_mean_23 (tgt := 30) rfl rfl (fun c9 => ?_) (fun c9 => ?_)
    · replace h := if_f c9 h
      refine g_iconst X kI_0 dX9_mean_30 rfl ?_
      refine g_istore_n X [some (.ref (w.1 9)), some (.int x1), some (.int x2), some (.int 0)] dX9_mean_31 (Nat.le_of_ble_eq_true rfl) rfl rfl rfl ?_
      refine g_iconst X kI_0 dX9_mean_32 rfl ?_
      refine g_istore X [some (.ref (w.1 9)), some (.int x1), some (.int x2), some (.int 0), some (.int 0)] dX9_mean_33 (Nat.le_of_ble_eq_true rfl) rfl rfl rfl ?_
      exact ok_HM_mean_l35 X Y σ7 h
    · replace h := if_t c9 h
      refine g_ldc2 X dX9_mean_26 kc_RX9_107 rfl ?_
      obtain ⟨rfl, rfl⟩ := rt_e h
      exact g_lret X Y dX9_mean_29

theorem dX9_take_0 : decode cX9_take 0 = .ok (.iload_n 1, 1) := by decide +kernel
theorem dX9_take_1 : decode cX9_take 1 = .ok (.i2l, 1) := by decide +kernel
theorem dX9_take_2 : decode cX9_take 2 = .ok (.lconst 0, 1) := by decide +kernel
theorem dX9_take_3 : decode cX9_take 3 = .ok (.aload_n 0, 1) := by decide +kernel
theorem dX9_take_4 : decode cX9_take 4 = .ok (.getfield 195, 3) := by decide +kernel
theorem dX9_take_7 : decode cX9_take 7 = .ok (.iconst 1, 1) := by decide +kernel
theorem dX9_take_8 : decode cX9_take 8 = .ok (.isub, 1) := by decide +kernel
theorem dX9_take_9 : decode cX9_take 9 = .ok (.i2l, 1) := by decide +kernel
theorem dX9_take_10 : decode cX9_take 10 = .ok (.invokestatic 91, 3) := by decide +kernel
theorem dX9_take_13 : decode cX9_take 13 = .ok (.ifCond .ne 7, 3) := by decide +kernel
theorem dX9_take_16 : decode cX9_take 16 = .ok (.ldc2_w 107, 3) := by decide +kernel
theorem dX9_take_19 : decode cX9_take 19 = .ok (.lreturn, 1) := by decide +kernel
theorem dX9_take_20 : decode cX9_take 20 = .ok (.iconst 0, 1) := by decide +kernel
theorem dX9_take_21 : decode cX9_take 21 = .ok (.istore_n 2, 1) := by decide +kernel
theorem dX9_take_22 : decode cX9_take 22 = .ok (.iload_n 2, 1) := by decide +kernel
theorem dX9_take_23 : decode cX9_take 23 = .ok (.bipush 10, 2) := by decide +kernel
theorem dX9_take_25 : decode cX9_take 25 = .ok (.if_icmp .ge 62, 3) := by decide +kernel
theorem dX9_take_28 : decode cX9_take 28 = .ok (.iconst 0, 1) := by decide +kernel
theorem dX9_take_29 : decode cX9_take 29 = .ok (.istore_n 3, 1) := by decide +kernel
theorem dX9_take_30 : decode cX9_take 30 = .ok (.iload_n 3, 1) := by decide +kernel
theorem dX9_take_31 : decode cX9_take 31 = .ok (.iconst 3, 1) := by decide +kernel
theorem dX9_take_32 : decode cX9_take 32 = .ok (.if_icmp .ge 49, 3) := by decide +kernel
theorem dX9_take_35 : decode cX9_take 35 = .ok (.aload_n 0, 1) := by decide +kernel
theorem dX9_take_36 : decode cX9_take 36 = .ok (.getfield 55, 3) := by decide +kernel
theorem dX9_take_39 : decode cX9_take 39 = .ok (.iconst 3, 1) := by decide +kernel
theorem dX9_take_40 : decode cX9_take 40 = .ok (.iload_n 2, 1) := by decide +kernel
theorem dX9_take_41 : decode cX9_take 41 = .ok (.imul, 1) := by decide +kernel
theorem dX9_take_42 : decode cX9_take 42 = .ok (.iload_n 3, 1) := by decide +kernel
theorem dX9_take_43 : decode cX9_take 43 = .ok (.iadd, 1) := by decide +kernel
theorem dX9_take_44 : decode cX9_take 44 = .ok (.aload_n 0, 1) := by decide +kernel
theorem dX9_take_45 : decode cX9_take 45 = .ok (.getfield 49, 3) := by decide +kernel
theorem dX9_take_48 : decode cX9_take 48 = .ok (.iload_n 2, 1) := by decide +kernel
theorem dX9_take_49 : decode cX9_take 49 = .ok (.iaload, 1) := by decide +kernel
theorem dX9_take_50 : decode cX9_take 50 = .ok (.ifCond .lt 23, 3) := by decide +kernel
theorem dX9_take_53 : decode cX9_take 53 = .ok (.aload_n 0, 1) := by decide +kernel
theorem dX9_take_54 : decode cX9_take 54 = .ok (.getfield 58, 3) := by decide +kernel
theorem dX9_take_57 : decode cX9_take 57 = .ok (.bipush 10, 2) := by decide +kernel
theorem dX9_take_59 : decode cX9_take 59 = .ok (.iload_n 1, 1) := by decide +kernel
theorem dX9_take_60 : decode cX9_take 60 = .ok (.imul, 1) := by decide +kernel
theorem dX9_take_61 : decode cX9_take 61 = .ok (.iload_n 2, 1) := by decide +kernel
theorem dX9_take_62 : decode cX9_take 62 = .ok (.iadd, 1) := by decide +kernel
theorem dX9_take_63 : decode cX9_take 63 = .ok (.iaload, 1) := by decide +kernel
theorem dX9_take_64 : decode cX9_take 64 = .ok (.iload_n 3, 1) := by decide +kernel
theorem dX9_take_65 : decode cX9_take 65 = .ok (.if_icmp .ne 8, 3) := by decide +kernel
theorem dX9_take_68 : decode cX9_take 68 = .ok (.bipush 12, 2) := by decide +kernel
theorem dX9_take_70 : decode cX9_take 70 = .ok (.goto 4, 3) := by decide +kernel
theorem dX9_take_73 : decode cX9_take 73 = .ok (.iconst 0, 1) := by decide +kernel
theorem dX9_take_74 : decode cX9_take 74 = .ok (.iastore, 1) := by decide +kernel
theorem dX9_take_75 : decode cX9_take 75 = .ok (.iinc 3 1, 3) := by decide +kernel
theorem dX9_take_78 : decode cX9_take 78 = .ok (.goto (-48), 3) := by decide +kernel
theorem dX9_take_81 : decode cX9_take 81 = .ok (.iinc 2 1, 3) := by decide +kernel
theorem dX9_take_84 : decode cX9_take 84 = .ok (.goto (-62), 3) := by decide +kernel
theorem dX9_take_87 : decode cX9_take 87 = .ok (.lconst 1, 1) := by decide +kernel
theorem dX9_take_88 : decode cX9_take 88 = .ok (.lreturn, 1) := by decide +kernel
def f_HM_take_b74 (k30 : Int32 → Int32 → Int32 → St → Option (Int64 × St)) (x1 : Int32) (x2 : Int32) (x3 : Int32) (xs1 : Int32) (xs2 : Int32) (σ : St) : Option (Int64 × St) :=
  ck (ib xs1 30) <| lE (stA σ 78 xs1.toNatClampNeg xs2) fun σ2 => k30 x1 x2 (x3 + 1) σ2
set_option maxRecDepth 4000 in
theorem ok_HM_take_b74 {E : gE} {w : wT} {σ' : St} {r : Int64} (X : gC E w cX9_take 4 RX9 2) (Y : gQ E w (some .long) (some (.long r)) σ') {k30 : Int32 → Int32 → Int32 → St → Option (Int64 × St)} (hk30 : ∀ (x1 : Int32) (x2 : Int32) (x3 : Int32) (σ : St), k30 x1 x2 x3 σ = some (r, σ') → gW E w 4 σ 30 [some (.ref (w.1 9)), some (.int x1), some (.int x2), some (.int x3)] []) {x1 : Int32} {x2 : Int32} {x3 : Int32} {xs1 : Int32} {xs2 : Int32} (σ : St) (h : f_HM_take_b74 k30 x1 x2 x3 xs1 xs2 σ = some (r, σ')) : gW E w 4 σ 74 [some (.ref (w.1 9)), some (.int x1), some (.int x2), some (.int x3)] [.int xs2, .int xs1, .ref (w.1 78)] := by
  unfold f_HM_take_b74 at h
  obtain ⟨c1, h⟩ := ck_e h
  refine g_iast X ar_78.1 ar_78.2.1 ar_78.2.2 (ib_e c1) dX9_take_74 rfl (fun σ2 e3 => ?_)
  replace h := lE_c e3 h
  refine g_iinc X [some (.ref (w.1 9)), some (.int x1), some (.int x2), some (.int (x3 + 1))] dX9_take_75 rfl (ii_1 x3) (Nat.le_of_ble_eq_true rfl) rfl rfl rfl ?_
  refine g_goto X dX9_take_78 (tgt := 30) rfl ?_
  exact hk30 x1 x2 (x3 + 1) σ2 h

def f_HM_take_b73 (k30 : Int32 → Int32 → Int32 → St → Option (Int64 × St)) (x1 : Int32) (x2 : Int32) (x3 : Int32) (xs1 : Int32) (σ : St) : Option (Int64 × St) :=
  f_HM_take_b74 k30 x1 x2 x3 xs1 0 σ
set_option maxRecDepth 4000 in
theorem ok_HM_take_b73 {E : gE} {w : wT} {σ' : St} {r : Int64} (X : gC E w cX9_take 4 RX9 2) (Y : gQ E w (some .long) (some (.long r)) σ') {k30 : Int32 → Int32 → Int32 → St → Option (Int64 × St)} (hk30 : ∀ (x1 : Int32) (x2 : Int32) (x3 : Int32) (σ : St), k30 x1 x2 x3 σ = some (r, σ') → gW E w 4 σ 30 [some (.ref (w.1 9)), some (.int x1), some (.int x2), some (.int x3)] []) {x1 : Int32} {x2 : Int32} {x3 : Int32} {xs1 : Int32} (σ : St) (h : f_HM_take_b73 k30 x1 x2 x3 xs1 σ = some (r, σ')) : gW E w 4 σ 73 [some (.ref (w.1 9)), some (.int x1), some (.int x2), some (.int x3)] [.int xs1, .ref (w.1 78)] := by
  unfold f_HM_take_b73 at h
  refine g_iconst X kI_0 dX9_take_73 rfl ?_
  exact ok_HM_take_b74 X Y hk30 σ h

def f_HM_take_b30 (k22 : Int32 → Int32 → St → Option (Int64 × St)) (k30 : Int32 → Int32 → Int32 → St → Option (Int64 × St)) (x1 : Int32) (x2 : Int32) (x3 : Int32) (σ : St) : Option (Int64 × St) :=
  if (3 : Int32) ≤ x3 then (k22 x1 (x2 + 1) σ) else (ck (ib x2 20) <| if (rI σ 76 x2) < 0 then (f_HM_take_b73 k30 x1 x2 x3 ((3 * x2) + x3) σ) else (ck (ib ((10 * x1) + x2) 600) <| if (rI σ 79 ((10 * x1) + x2)) = x3 then (f_HM_take_b74 k30 x1 x2 x3 ((3 * x2) + x3) 12 σ) else (f_HM_take_b73 k30 x1 x2 x3 ((3 * x2) + x3) σ)))
set_option maxRecDepth 4000 in
theorem ok_HM_take_b30 {E : gE} {w : wT} {σ' : St} {r : Int64} (X : gC E w cX9_take 4 RX9 2) (Y : gQ E w (some .long) (some (.long r)) σ') {k22 : Int32 → Int32 → St → Option (Int64 × St)} (hk22 : ∀ (x1 : Int32) (x2 : Int32) (σ : St), k22 x1 x2 σ = some (r, σ') → gW E w 4 σ 22 [some (.ref (w.1 9)), some (.int x1), some (.int x2)] []) {k30 : Int32 → Int32 → Int32 → St → Option (Int64 × St)} (hk30 : ∀ (x1 : Int32) (x2 : Int32) (x3 : Int32) (σ : St), k30 x1 x2 x3 σ = some (r, σ') → gW E w 4 σ 30 [some (.ref (w.1 9)), some (.int x1), some (.int x2), some (.int x3)] []) {x1 : Int32} {x2 : Int32} {x3 : Int32} (σ : St) (h : f_HM_take_b30 k22 k30 x1 x2 x3 σ = some (r, σ')) : gW E w 4 σ 30 [some (.ref (w.1 9)), some (.int x1), some (.int x2), some (.int x3)] [] := by
  unfold f_HM_take_b30 at h
  refine g_iload_n X dX9_take_30 rfl rfl ?_
  refine g_iconst X kI_3 dX9_take_31 rfl ?_
  refine g_icmp_ge X dX9_take_32 (tgt := 81) rfl rfl (fun c1 => ?_) (fun c1 => ?_)
  · replace h := if_t c1 h
    refine g_iinc X [some (.ref (w.1 9)), some (.int x1), some (.int (x2 + 1)), some (.int x3)] dX9_take_81 rfl (ii_1 x2) (Nat.le_of_ble_eq_true rfl) rfl rfl rfl ?_
    refine g_goto X dX9_take_84 (tgt := 22) rfl ?_
    exact g_le (lle_s (lle_s (lle_s (lle_0)))) (hk22 x1 (x2 + 1) σ h)
  · replace h := if_f c1 h
    refine g_aload_n X dX9_take_35 rfl rfl ?_
    refine gf_RX9_55 X dX9_take_36 rfl ?_
    refine g_iconst X kI_3 dX9_take_39 rfl ?_
    refine g_iload_n X dX9_take_40 rfl rfl ?_
    refine g_imul X dX9_take_41 rfl ?_
    refine g_iload_n X dX9_take_42 rfl rfl ?_
    refine g_iadd X dX9_take_43 rfl ?_
    refine g_aload_n X dX9_take_44 rfl rfl ?_
    refine gf_RX9_49 X dX9_take_45 rfl ?_
    refine g_iload_n X dX9_take_48 rfl rfl ?_
    obtain ⟨c2, h⟩ := ck_e h
    refine g_iald X ar_76.1 ar_76.2.1 ar_76.2.2 (ib_e c2) dX9_take_49 rfl ?_
    refine g_if_lt X dX9_take_50 (tgt := 73) rfl rfl (fun c3 => ?_) (fun c3 => ?_)
    · replace h := if_t c3 h
      exact ok_HM_take_b73 X Y hk30 σ h
    · replace h := if_f c3 h
      refine g_aload_n X dX9_take_53 rfl rfl ?_
      refine gf_RX9_58 X dX9_take_54 rfl ?_
      refine g_bipush X kB_10 dX9_take_57 rfl ?_
      refine g_iload_n X dX9_take_59 rfl rfl ?_
      refine g_imul X dX9_take_60 rfl ?_
      refine g_iload_n X dX9_take_61 rfl rfl ?_
      refine g_iadd X dX9_take_62 rfl ?_
      obtain ⟨c4, h⟩ := ck_e h
      refine g_iald X ar_79.1 ar_79.2.1 ar_79.2.2 (ib_e c4) dX9_take_63 rfl ?_
      refine g_iload_n X dX9_take_64 rfl rfl ?_
      refine g_icmp_ne X dX9_take_65 (tgt := 73) rfl rfl (fun c5 => ?_) (fun c5 => ?_)
      · replace h := if_f c5 h
        exact ok_HM_take_b73 X Y hk30 σ h
      · replace h := if_t c5 h
        refine g_bipush X kB_12 dX9_take_68 rfl ?_
        refine g_goto X dX9_take_70 (tgt := 74) rfl ?_
        exact ok_HM_take_b74 X Y hk30 σ h
def f_HM_take_l30 (k22 : Int32 → Int32 → St → Option (Int64 × St)) : Int32 → Int32 → Int32 → St → Option (Int64 × St) := lp (fun _ _ _ _ => none) (f_HM_take_b30 k22) FU
theorem ok_HM_take_l30 {E : gE} {w : wT} {σ' : St} {r : Int64} (X : gC E w cX9_take 4 RX9 2) (Y : gQ E w (some .long) (some (.long r)) σ') {k22 : Int32 → Int32 → St → Option (Int64 × St)} (hk22 : ∀ (x1 : Int32) (x2 : Int32) (σ : St), k22 x1 x2 σ = some (r, σ') → gW E w 4 σ 22 [some (.ref (w.1 9)), some (.int x1), some (.int x2)] []) {x1 : Int32} {x2 : Int32} {x3 : Int32} (σ : St) (h : f_HM_take_l30 k22 x1 x2 x3 σ = some (r, σ')) : gW E w 4 σ 30 [some (.ref (w.1 9)), some (.int x1), some (.int x2), some (.int x3)] [] :=
  lp_ind (P := fun (k : Int32 → Int32 → Int32 → St → Option (Int64 × St)) => ∀ (x1 : Int32) (x2 : Int32) (x3 : Int32) (σ : St), k x1 x2 x3 σ = some (r, σ') → gW E w 4 σ 30 [some (.ref (w.1 9)), some (.int x1), some (.int x2), some (.int x3)] []) (fun _ _ _ _ hh => nn hh) (fun k hk x1 x2 x3 σ  hh => ok_HM_take_b30 X Y hk22 hk σ hh) FU x1 x2 x3 σ  h

def f_HM_take_b22 (k22 : Int32 → Int32 → St → Option (Int64 × St)) (x1 : Int32) (x2 : Int32) (σ : St) : Option (Int64 × St) :=
  if (10 : Int32) ≤ x2 then (some (1, σ)) else (f_HM_take_l30 k22 x1 x2 0 σ)
set_option maxRecDepth 4000 in
theorem ok_HM_take_b22 {E : gE} {w : wT} {σ' : St} {r : Int64} (X : gC E w cX9_take 4 RX9 2) (Y : gQ E w (some .long) (some (.long r)) σ') {k22 : Int32 → Int32 → St → Option (Int64 × St)} (hk22 : ∀ (x1 : Int32) (x2 : Int32) (σ : St), k22 x1 x2 σ = some (r, σ') → gW E w 4 σ 22 [some (.ref (w.1 9)), some (.int x1), some (.int x2)] []) {x1 : Int32} {x2 : Int32} (σ : St) (h : f_HM_take_b22 k22 x1 x2 σ = some (r, σ')) : gW E w 4 σ 22 [some (.ref (w.1 9)), some (.int x1), some (.int x2)] [] := by
  unfold f_HM_take_b22 at h
  refine g_iload_n X dX9_take_22 rfl rfl ?_
  refine g_bipush X kB_10 dX9_take_23 rfl ?_
  refine g_icmp_ge X dX9_take_25 (tgt := 87) rfl rfl (fun c1 => ?_) (fun c1 => ?_)
  · replace h := if_t c1 h
    refine g_lconst X kL_1 dX9_take_87 rfl ?_
    obtain ⟨rfl, rfl⟩ := rt_e h
    exact g_lret X Y dX9_take_88
  · replace h := if_f c1 h
    refine g_iconst X kI_0 dX9_take_28 rfl ?_
    refine g_istore_n X [some (.ref (w.1 9)), some (.int x1), some (.int x2), some (.int 0)] dX9_take_29 (Nat.le_of_ble_eq_true rfl) rfl rfl rfl ?_
    exact ok_HM_take_l30 X Y hk22 σ h
def f_HM_take_l22 : Int32 → Int32 → St → Option (Int64 × St) := lp (fun _ _ _ => none) (f_HM_take_b22) FU
theorem ok_HM_take_l22 {E : gE} {w : wT} {σ' : St} {r : Int64} (X : gC E w cX9_take 4 RX9 2) (Y : gQ E w (some .long) (some (.long r)) σ') {x1 : Int32} {x2 : Int32} (σ : St) (h : f_HM_take_l22 x1 x2 σ = some (r, σ')) : gW E w 4 σ 22 [some (.ref (w.1 9)), some (.int x1), some (.int x2)] [] :=
  lp_ind (P := fun (k : Int32 → Int32 → St → Option (Int64 × St)) => ∀ (x1 : Int32) (x2 : Int32) (σ : St), k x1 x2 σ = some (r, σ') → gW E w 4 σ 22 [some (.ref (w.1 9)), some (.int x1), some (.int x2)] []) (fun _ _ _ hh => nn hh) (fun k hk x1 x2 σ  hh => ok_HM_take_b22 X Y hk σ hh) FU x1 x2 σ  h

def f_HM_take (x1 : Int32) (σ : St) : Option (Int64 × St) :=
  bd (f_HM_in x1.toInt64 0 (((rF σ 44) - 1).toInt64) σ) fun r3 σ2 => if r3 = 0 then (some ((-9000000000000000001), σ2)) else (f_HM_take_l22 x1 0 σ2)
set_option maxRecDepth 4000 in
theorem ok_HM_take {w : wT} (hi : wInj w) {l : Launch} {x1 : Int32} {σ σ' : St} {r : Int64} (h : f_HM_take x1 σ = some (r, σ')) : gM w l yX9_take cX9_take 4 (some .long) 2 [.ref (w.1 9), .int x1] σ (some (.long r)) σ' := by
  unfold f_HM_take at h
  refine gM_of hi (by decide) [some (.ref (w.1 9)), some (.int x1)] rfl (Nat.le_of_ble_eq_true rfl) (fun E hl X Y => ?_)
  refine g_iload_n X dX9_take_0 rfl rfl ?_
  refine g_i2l X dX9_take_1 rfl ?_
  refine g_lconst X kL_0 dX9_take_2 rfl ?_
  refine g_aload_n X dX9_take_3 rfl rfl ?_
  refine gf_RX9_195 X dX9_take_4 rfl ?_
  refine g_iconst X kI_1 dX9_take_7 rfl ?_
  refine g_isub X dX9_take_8 rfl ?_
  refine g_i2l X dX9_take_9 rfl ?_
  obtain ⟨r3, σ2, h1, h⟩ := bd_e h
  refine g_callSI X [.long x1.toInt64, .long 0, .long (((rF σ 44) - 1).toInt64)] (ok_HM_in X.inj h1) my_yX9_in mt_yX9_in ml_RX9_91 (by decide) rfl dX9_take_10 (Nat.le_of_ble_eq_true rfl) rfl rfl ?_
  refine g_if_ne X dX9_take_13 (tgt := 20) rfl rfl (fun c4 => ?_) (fun c4 => ?_)
  · replace h := if_f c4 h
    refine g_iconst X kI_0 dX9_take_20 rfl ?_
    refine g_istore_n X [some (.ref (w.1 9)), some (.int x1), some (.int 0)] dX9_take_21 (Nat.le_of_ble_eq_true rfl) rfl rfl rfl ?_
    exact ok_HM_take_l22 X Y σ2 h
  · replace h := if_t c4 h
    refine g_ldc2 X dX9_take_16 kc_RX9_107 rfl ?_
    obtain ⟨rfl, rfl⟩ := rt_e h
    exact g_lret X Y dX9_take_19

theorem dX9_kindOf_0 : decode cX9_kindOf 0 = .ok (.aload_n 0, 1) := by decide +kernel
theorem dX9_kindOf_1 : decode cX9_kindOf 1 = .ok (.getfield 22, 3) := by decide +kernel
theorem dX9_kindOf_4 : decode cX9_kindOf 4 = .ok (.iload_n 1, 1) := by decide +kernel
theorem dX9_kindOf_5 : decode cX9_kindOf 5 = .ok (.iaload, 1) := by decide +kernel
theorem dX9_kindOf_6 : decode cX9_kindOf 6 = .ok (.ifCond .ne 22, 3) := by decide +kernel
theorem dX9_kindOf_9 : decode cX9_kindOf 9 = .ok (.aload_n 0, 1) := by decide +kernel
theorem dX9_kindOf_10 : decode cX9_kindOf 10 = .ok (.getfield 25, 3) := by decide +kernel
theorem dX9_kindOf_13 : decode cX9_kindOf 13 = .ok (.iload_n 1, 1) := by decide +kernel
theorem dX9_kindOf_14 : decode cX9_kindOf 14 = .ok (.iaload, 1) := by decide +kernel
theorem dX9_kindOf_15 : decode cX9_kindOf 15 = .ok (.bipush 50, 2) := by decide +kernel
theorem dX9_kindOf_17 : decode cX9_kindOf 17 = .ok (.if_icmp .lt 7, 3) := by decide +kernel
theorem dX9_kindOf_20 : decode cX9_kindOf 20 = .ok (.iconst 5, 1) := by decide +kernel
theorem dX9_kindOf_21 : decode cX9_kindOf 21 = .ok (.goto 40, 3) := by decide +kernel
theorem dX9_kindOf_24 : decode cX9_kindOf 24 = .ok (.iconst 4, 1) := by decide +kernel
theorem dX9_kindOf_25 : decode cX9_kindOf 25 = .ok (.goto 36, 3) := by decide +kernel
theorem dX9_kindOf_28 : decode cX9_kindOf 28 = .ok (.aload_n 0, 1) := by decide +kernel
theorem dX9_kindOf_29 : decode cX9_kindOf 29 = .ok (.getfield 22, 3) := by decide +kernel
theorem dX9_kindOf_32 : decode cX9_kindOf 32 = .ok (.iload_n 1, 1) := by decide +kernel
theorem dX9_kindOf_33 : decode cX9_kindOf 33 = .ok (.iaload, 1) := by decide +kernel
theorem dX9_kindOf_34 : decode cX9_kindOf 34 = .ok (.iconst 1, 1) := by decide +kernel
theorem dX9_kindOf_35 : decode cX9_kindOf 35 = .ok (.if_icmp .ne 7, 3) := by decide +kernel
theorem dX9_kindOf_38 : decode cX9_kindOf 38 = .ok (.iconst 1, 1) := by decide +kernel
theorem dX9_kindOf_39 : decode cX9_kindOf 39 = .ok (.goto 22, 3) := by decide +kernel
theorem dX9_kindOf_42 : decode cX9_kindOf 42 = .ok (.aload_n 0, 1) := by decide +kernel
theorem dX9_kindOf_43 : decode cX9_kindOf 43 = .ok (.aload_n 0, 1) := by decide +kernel
theorem dX9_kindOf_44 : decode cX9_kindOf 44 = .ok (.getfield 28, 3) := by decide +kernel
theorem dX9_kindOf_47 : decode cX9_kindOf 47 = .ok (.iload_n 1, 1) := by decide +kernel
theorem dX9_kindOf_48 : decode cX9_kindOf 48 = .ok (.iaload, 1) := by decide +kernel
theorem dX9_kindOf_49 : decode cX9_kindOf 49 = .ok (.invokevirtual 205, 3) := by decide +kernel
theorem dX9_kindOf_52 : decode cX9_kindOf 52 = .ok (.iconst 1, 1) := by decide +kernel
theorem dX9_kindOf_53 : decode cX9_kindOf 53 = .ok (.if_icmp .le 7, 3) := by decide +kernel
theorem dX9_kindOf_56 : decode cX9_kindOf 56 = .ok (.iconst 3, 1) := by decide +kernel
theorem dX9_kindOf_57 : decode cX9_kindOf 57 = .ok (.goto 4, 3) := by decide +kernel
theorem dX9_kindOf_60 : decode cX9_kindOf 60 = .ok (.iconst 2, 1) := by decide +kernel
theorem dX9_kindOf_61 : decode cX9_kindOf 61 = .ok (.ireturn, 1) := by decide +kernel
def f_HM_kindOf (x1 : Int32) (σ : St) : Option (Int32 × St) :=
  ck (ib x1 120) <| if (rI σ 67 x1) = 0 then (ck (ib x1 120) <| if (rI σ 68 x1) < 50 then (some (4, σ)) else (some (5, σ))) else (ck (ib x1 120) <| if (rI σ 67 x1) = 1 then (some (1, σ)) else (ck (ib x1 120) <| bd (f_HM_placesIn (rI σ 69 x1) σ) fun r8 σ7 => if r8 ≤ 1 then (some (2, σ7)) else (some (3, σ7))))
set_option maxRecDepth 4000 in
theorem ok_HM_kindOf {w : wT} (hi : wInj w) {l : Launch} {x1 : Int32} {σ σ' : St} {r : Int32} (h : f_HM_kindOf x1 σ = some (r, σ')) : gM w l yX9_kindOf cX9_kindOf 2 (some .int) 2 [.ref (w.1 9), .int x1] σ (some (.int r)) σ' := by
  unfold f_HM_kindOf at h
  refine gM_of hi (by decide) [some (.ref (w.1 9)), some (.int x1)] rfl (Nat.le_of_ble_eq_true rfl) (fun E hl X Y => ?_)
  refine g_aload_n X dX9_kindOf_0 rfl rfl ?_
  refine gf_RX9_22 X dX9_kindOf_1 rfl ?_
  refine g_iload_n X dX9_kindOf_4 rfl rfl ?_
  obtain ⟨c1, h⟩ := ck_e h
  refine g_iald X ar_67.1 ar_67.2.1 ar_67.2.2 (ib_e c1) dX9_kindOf_5 rfl ?_
  refine g_if_ne X dX9_kindOf_6 (tgt := 28) rfl rfl (fun c2 => ?_) (fun c2 => ?_)
  · replace h := if_f c2 h
    refine g_aload_n X dX9_kindOf_28 rfl rfl ?_
    refine gf_RX9_22 X dX9_kindOf_29 rfl ?_
    refine g_iload_n X dX9_kindOf_32 rfl rfl ?_
    obtain ⟨c3, h⟩ := ck_e h
    refine g_iald X ar_67.1 ar_67.2.1 ar_67.2.2 (ib_e c3) dX9_kindOf_33 rfl ?_
    refine g_iconst X kI_1 dX9_kindOf_34 rfl ?_
    refine g_icmp_ne X dX9_kindOf_35 (tgt := 42) rfl rfl (fun c4 => ?_) (fun c4 => ?_)
    · replace h := if_f c4 h
      refine g_aload_n X dX9_kindOf_42 rfl rfl ?_
      refine g_aload_n X dX9_kindOf_43 rfl rfl ?_
      refine gf_RX9_28 X dX9_kindOf_44 rfl ?_
      refine g_iload_n X dX9_kindOf_47 rfl rfl ?_
      obtain ⟨c5, h⟩ := ck_e h
      refine g_iald X ar_69.1 ar_69.2.1 ar_69.2.2 (ib_e c5) dX9_kindOf_48 rfl ?_
      obtain ⟨r8, σ7, h6, h⟩ := bd_e h
      refine g_callVI X [.int (rI σ 69 x1)] (ok_HM_placesIn X.inj h6) my_yX9_placesIn mi_yX9_placesIn ms_yX9_placesIn ml_RX9_205 (by decide) rfl rfl (by decide) rfl dX9_kindOf_49 (Nat.le_of_ble_eq_true rfl) rfl rfl ?_
      refine g_iconst X kI_1 dX9_kindOf_52 rfl ?_
      refine g_icmp_le X dX9_kindOf_53 (tgt := 60) rfl rfl (fun c9 => ?_) (fun c9 => ?_)
      · replace h := if_t c9 h
        refine g_iconst X kI_2 dX9_kindOf_60 rfl ?_
        obtain ⟨rfl, rfl⟩ := rt_e h
        exact g_iret X Y dX9_kindOf_61
      · replace h := if_f c9 h
        refine g_iconst X kI_3 dX9_kindOf_56 rfl ?_
        refine g_goto X dX9_kindOf_57 (tgt := 61) rfl ?_
        obtain ⟨rfl, rfl⟩ := rt_e h
        exact g_iret X Y dX9_kindOf_61
    · replace h := if_t c4 h
      refine g_iconst X kI_1 dX9_kindOf_38 rfl ?_
      refine g_goto X dX9_kindOf_39 (tgt := 61) rfl ?_
      obtain ⟨rfl, rfl⟩ := rt_e h
      exact g_iret X Y dX9_kindOf_61
  · replace h := if_t c2 h
    refine g_aload_n X dX9_kindOf_9 rfl rfl ?_
    refine gf_RX9_25 X dX9_kindOf_10 rfl ?_
    refine g_iload_n X dX9_kindOf_13 rfl rfl ?_
    obtain ⟨c10, h⟩ := ck_e h
    refine g_iald X ar_68.1 ar_68.2.1 ar_68.2.2 (ib_e c10) dX9_kindOf_14 rfl ?_
    refine g_bipush X kB_50 dX9_kindOf_15 rfl ?_
    refine g_icmp_lt X dX9_kindOf_17 (tgt := 24) rfl rfl (fun c11 => ?_) (fun c11 => ?_)
    · replace h := if_t c11 h
      refine g_iconst X kI_4 dX9_kindOf_24 rfl ?_
      refine g_goto X dX9_kindOf_25 (tgt := 61) rfl ?_
      obtain ⟨rfl, rfl⟩ := rt_e h
      exact g_iret X Y dX9_kindOf_61
    · replace h := if_f c11 h
      refine g_iconst X kI_5 dX9_kindOf_20 rfl ?_
      refine g_goto X dX9_kindOf_21 (tgt := 61) rfl ?_
      obtain ⟨rfl, rfl⟩ := rt_e h
      exact g_iret X Y dX9_kindOf_61

theorem dX9_kind_0 : decode cX9_kind 0 = .ok (.aload_n 0, 1) := by decide +kernel
theorem dX9_kind_1 : decode cX9_kind 1 = .ok (.iload_n 1, 1) := by decide +kernel
theorem dX9_kind_2 : decode cX9_kind 2 = .ok (.invokevirtual 200, 3) := by decide +kernel
theorem dX9_kind_5 : decode cX9_kind 5 = .ok (.ifCond .eq 12, 3) := by decide +kernel
theorem dX9_kind_8 : decode cX9_kind 8 = .ok (.aload_n 0, 1) := by decide +kernel
theorem dX9_kind_9 : decode cX9_kind 9 = .ok (.iload_n 1, 1) := by decide +kernel
theorem dX9_kind_10 : decode cX9_kind 10 = .ok (.invokevirtual 289, 3) := by decide +kernel
theorem dX9_kind_13 : decode cX9_kind 13 = .ok (.i2l, 1) := by decide +kernel
theorem dX9_kind_14 : decode cX9_kind 14 = .ok (.goto 6, 3) := by decide +kernel
theorem dX9_kind_17 : decode cX9_kind 17 = .ok (.ldc2_w 107, 3) := by decide +kernel
theorem dX9_kind_20 : decode cX9_kind 20 = .ok (.lreturn, 1) := by decide +kernel
def f_HM_kind (x1 : Int32) (σ : St) : Option (Int64 × St) :=
  bd (f_HM_isPlace x1 σ) fun r3 σ2 => if r3 = 0 then (some ((-9000000000000000001), σ2)) else (bd (f_HM_kindOf x1 σ2) fun r7 σ6 => some (r7.toInt64, σ6))
set_option maxRecDepth 4000 in
theorem ok_HM_kind {w : wT} (hi : wInj w) {l : Launch} {x1 : Int32} {σ σ' : St} {r : Int64} (h : f_HM_kind x1 σ = some (r, σ')) : gM w l yX9_kind cX9_kind 2 (some .long) 3 [.ref (w.1 9), .int x1] σ (some (.long r)) σ' := by
  unfold f_HM_kind at h
  refine gM_of hi (by decide) [some (.ref (w.1 9)), some (.int x1)] rfl (Nat.le_of_ble_eq_true rfl) (fun E hl X Y => ?_)
  refine g_aload_n X dX9_kind_0 rfl rfl ?_
  refine g_iload_n X dX9_kind_1 rfl rfl ?_
  obtain ⟨r3, σ2, h1, h⟩ := bd_e h
  refine g_callVI X [.int x1] (ok_HM_isPlace X.inj h1) my_yX9_isPlace mi_yX9_isPlace ms_yX9_isPlace ml_RX9_200 (by decide) rfl rfl (by decide) rfl dX9_kind_2 (Nat.le_of_ble_eq_true rfl) rfl rfl ?_
  refine g_if_eq X dX9_kind_5 (tgt := 17) rfl rfl (fun c4 => ?_) (fun c4 => ?_)
  · replace h := if_t c4 h
    refine g_ldc2 X dX9_kind_17 kc_RX9_107 rfl ?_
    obtain ⟨rfl, rfl⟩ := rt_e h
    exact g_lret X Y dX9_kind_20
  · replace h := if_f c4 h
    refine g_aload_n X dX9_kind_8 rfl rfl ?_
    refine g_iload_n X dX9_kind_9 rfl rfl ?_
    obtain ⟨r7, σ6, h5, h⟩ := bd_e h
    refine g_callVI X [.int x1] (ok_HM_kindOf X.inj h5) my_yX9_kindOf mi_yX9_kindOf ms_yX9_kindOf ml_RX9_289 (by decide) rfl rfl (by decide) rfl dX9_kind_10 (Nat.le_of_ble_eq_true rfl) rfl rfl ?_
    refine g_i2l X dX9_kind_13 rfl ?_
    refine g_goto X dX9_kind_14 (tgt := 20) rfl ?_
    obtain ⟨rfl, rfl⟩ := rt_e h
    exact g_lret X Y dX9_kind_20

theorem dX9_as_0 : decode cX9_as 0 = .ok (.aload_n 0, 1) := by decide +kernel
theorem dX9_as_1 : decode cX9_as 1 = .ok (.iload_n 1, 1) := by decide +kernel
theorem dX9_as_2 : decode cX9_as 2 = .ok (.invokevirtual 200, 3) := by decide +kernel
theorem dX9_as_5 : decode cX9_as 5 = .ok (.ifCond .eq 15, 3) := by decide +kernel
theorem dX9_as_8 : decode cX9_as 8 = .ok (.iload_n 2, 1) := by decide +kernel
theorem dX9_as_9 : decode cX9_as 9 = .ok (.i2l, 1) := by decide +kernel
theorem dX9_as_10 : decode cX9_as 10 = .ok (.lconst 0, 1) := by decide +kernel
theorem dX9_as_11 : decode cX9_as 11 = .ok (.ldc2_w 292, 3) := by decide +kernel
theorem dX9_as_14 : decode cX9_as 14 = .ok (.invokestatic 91, 3) := by decide +kernel
theorem dX9_as_17 : decode cX9_as 17 = .ok (.ifCond .ne 7, 3) := by decide +kernel
theorem dX9_as_20 : decode cX9_as 20 = .ok (.ldc2_w 107, 3) := by decide +kernel
theorem dX9_as_23 : decode cX9_as 23 = .ok (.lreturn, 1) := by decide +kernel
theorem dX9_as_24 : decode cX9_as 24 = .ok (.aload_n 0, 1) := by decide +kernel
theorem dX9_as_25 : decode cX9_as 25 = .ok (.iload_n 1, 1) := by decide +kernel
theorem dX9_as_26 : decode cX9_as 26 = .ok (.invokevirtual 289, 3) := by decide +kernel
theorem dX9_as_29 : decode cX9_as 29 = .ok (.istore_n 3, 1) := by decide +kernel
theorem dX9_as_30 : decode cX9_as 30 = .ok (.iload_n 2, 1) := by decide +kernel
theorem dX9_as_31 : decode cX9_as 31 = .ok (.ifCond .eq 28, 3) := by decide +kernel
theorem dX9_as_34 : decode cX9_as 34 = .ok (.iload_n 2, 1) := by decide +kernel
theorem dX9_as_35 : decode cX9_as 35 = .ok (.iload_n 3, 1) := by decide +kernel
theorem dX9_as_36 : decode cX9_as 36 = .ok (.if_icmp .eq 23, 3) := by decide +kernel
theorem dX9_as_39 : decode cX9_as 39 = .ok (.iload_n 2, 1) := by decide +kernel
theorem dX9_as_40 : decode cX9_as 40 = .ok (.iconst 2, 1) := by decide +kernel
theorem dX9_as_41 : decode cX9_as 41 = .ok (.if_icmp .ne 8, 3) := by decide +kernel
theorem dX9_as_44 : decode cX9_as 44 = .ok (.iload_n 3, 1) := by decide +kernel
theorem dX9_as_45 : decode cX9_as 45 = .ok (.iconst 3, 1) := by decide +kernel
theorem dX9_as_46 : decode cX9_as 46 = .ok (.if_icmp .eq 13, 3) := by decide +kernel
theorem dX9_as_49 : decode cX9_as 49 = .ok (.iload_n 2, 1) := by decide +kernel
theorem dX9_as_50 : decode cX9_as 50 = .ok (.iconst 4, 1) := by decide +kernel
theorem dX9_as_51 : decode cX9_as 51 = .ok (.if_icmp .ne 12, 3) := by decide +kernel
theorem dX9_as_54 : decode cX9_as 54 = .ok (.iload_n 3, 1) := by decide +kernel
theorem dX9_as_55 : decode cX9_as 55 = .ok (.iconst 5, 1) := by decide +kernel
theorem dX9_as_56 : decode cX9_as 56 = .ok (.if_icmp .ne 7, 3) := by decide +kernel
theorem dX9_as_59 : decode cX9_as 59 = .ok (.iconst 1, 1) := by decide +kernel
theorem dX9_as_60 : decode cX9_as 60 = .ok (.goto 4, 3) := by decide +kernel
theorem dX9_as_63 : decode cX9_as 63 = .ok (.iconst 0, 1) := by decide +kernel
theorem dX9_as_64 : decode cX9_as 64 = .ok (.istore 4, 2) := by decide +kernel
theorem dX9_as_66 : decode cX9_as 66 = .ok (.iload 4, 2) := by decide +kernel
theorem dX9_as_68 : decode cX9_as 68 = .ok (.ifCond .eq 17, 3) := by decide +kernel
theorem dX9_as_71 : decode cX9_as 71 = .ok (.aload_n 0, 1) := by decide +kernel
theorem dX9_as_72 : decode cX9_as 72 = .ok (.aload_n 0, 1) := by decide +kernel
theorem dX9_as_73 : decode cX9_as 73 = .ok (.getfield 43, 3) := by decide +kernel
theorem dX9_as_76 : decode cX9_as 76 = .ok (.iload_n 1, 1) := by decide +kernel
theorem dX9_as_77 : decode cX9_as 77 = .ok (.iaload, 1) := by decide +kernel
theorem dX9_as_78 : decode cX9_as 78 = .ok (.i2l, 1) := by decide +kernel
theorem dX9_as_79 : decode cX9_as 79 = .ok (.invokevirtual 113, 3) := by decide +kernel
theorem dX9_as_82 : decode cX9_as 82 = .ok (.goto 8, 3) := by decide +kernel
theorem dX9_as_85 : decode cX9_as 85 = .ok (.aload_n 0, 1) := by decide +kernel
theorem dX9_as_86 : decode cX9_as 86 = .ok (.iconst 3, 1) := by decide +kernel
theorem dX9_as_87 : decode cX9_as 87 = .ok (.invokevirtual 109, 3) := by decide +kernel
theorem dX9_as_90 : decode cX9_as 90 = .ok (.lreturn, 1) := by decide +kernel
def f_HM_as_b64 (x1 : Int32) (xs0 : Int32) (σ : St) : Option (Int64 × St) :=
  if xs0 = 0 then (bd (f_HM_found 3 σ) fun r4 σ3 => some (r4, σ3)) else (ck (ib x1 120) <| bd (f_HM_taken ((rI σ 74 x1).toInt64) σ) fun r8 σ7 => some (r8, σ7))
set_option maxRecDepth 4000 in
theorem ok_HM_as_b64 {E : gE} {w : wT} {σ' : St} {r : Int64} (X : gC E w cX9_as 5 RX9 3) (Y : gQ E w (some .long) (some (.long r)) σ') {x1 : Int32} {xs0 : Int32} (σ : St) (h : f_HM_as_b64 x1 xs0 σ = some (r, σ')) : gW E w 5 σ 64 [some (.ref (w.1 9)), some (.int x1)] [.int xs0] := by
  unfold f_HM_as_b64 at h
  refine g_istore X [some (.ref (w.1 9)), some (.int x1), none, none, some (.int xs0)] dX9_as_64 (Nat.le_of_ble_eq_true rfl) rfl rfl rfl ?_
  refine g_iload X dX9_as_66 rfl rfl ?_
  refine g_if_eq X dX9_as_68 (tgt := 85) rfl rfl (fun c1 => ?_) (fun c1 => ?_)
  · replace h := if_t c1 h
    refine g_aload_n X dX9_as_85 rfl rfl ?_
    refine g_iconst X kI_3 dX9_as_86 rfl ?_
    obtain ⟨r4, σ3, h2, h⟩ := bd_e h
    refine g_callVJ X [.int 3] (ok_HM_found X.inj h2) my_yX9_found mi_yX9_found ms_yX9_found ml_RX9_109 (by decide) rfl rfl (by decide) rfl dX9_as_87 (Nat.le_of_ble_eq_true rfl) rfl rfl ?_
    obtain ⟨rfl, rfl⟩ := rt_e h
    exact g_lret X Y dX9_as_90
  · replace h := if_f c1 h
    refine g_aload_n X dX9_as_71 rfl rfl ?_
    refine g_aload_n X dX9_as_72 rfl rfl ?_
    refine gf_RX9_43 X dX9_as_73 rfl ?_
    refine g_iload_n X dX9_as_76 rfl rfl ?_
    obtain ⟨c5, h⟩ := ck_e h
    refine g_iald X ar_74.1 ar_74.2.1 ar_74.2.2 (ib_e c5) dX9_as_77 rfl ?_
    refine g_i2l X dX9_as_78 rfl ?_
    obtain ⟨r8, σ7, h6, h⟩ := bd_e h
    refine g_callVJ X [.long ((rI σ 74 x1).toInt64)] (ok_HM_taken X.inj h6) my_yX9_taken mi_yX9_taken ms_yX9_taken ml_RX9_113 (by decide) rfl rfl (by decide) rfl dX9_as_79 (Nat.le_of_ble_eq_true rfl) rfl rfl ?_
    refine g_goto X dX9_as_82 (tgt := 90) rfl ?_
    obtain ⟨rfl, rfl⟩ := rt_e h
    exact g_lret X Y dX9_as_90

def f_HM_as_b63 (x1 : Int32) (σ : St) : Option (Int64 × St) :=
  f_HM_as_b64 x1 0 σ
set_option maxRecDepth 4000 in
theorem ok_HM_as_b63 {E : gE} {w : wT} {σ' : St} {r : Int64} (X : gC E w cX9_as 5 RX9 3) (Y : gQ E w (some .long) (some (.long r)) σ') {x1 : Int32} (σ : St) (h : f_HM_as_b63 x1 σ = some (r, σ')) : gW E w 5 σ 63 [some (.ref (w.1 9)), some (.int x1)] [] := by
  unfold f_HM_as_b63 at h
  refine g_iconst X kI_0 dX9_as_63 rfl ?_
  exact ok_HM_as_b64 X Y σ h

def f_HM_as_b59 (x1 : Int32) (σ : St) : Option (Int64 × St) :=
  f_HM_as_b64 x1 1 σ
set_option maxRecDepth 4000 in
theorem ok_HM_as_b59 {E : gE} {w : wT} {σ' : St} {r : Int64} (X : gC E w cX9_as 5 RX9 3) (Y : gQ E w (some .long) (some (.long r)) σ') {x1 : Int32} (σ : St) (h : f_HM_as_b59 x1 σ = some (r, σ')) : gW E w 5 σ 59 [some (.ref (w.1 9)), some (.int x1)] [] := by
  unfold f_HM_as_b59 at h
  refine g_iconst X kI_1 dX9_as_59 rfl ?_
  refine g_goto X dX9_as_60 (tgt := 64) rfl ?_
  exact ok_HM_as_b64 X Y σ h

def f_HM_as_b49 (x1 : Int32) (x2 : Int32) (x3 : Int32) (σ : St) : Option (Int64 × St) :=
  if x2 = 4 then (if x3 = 5 then (f_HM_as_b59 x1 σ) else (f_HM_as_b63 x1 σ)) else (f_HM_as_b63 x1 σ)
set_option maxRecDepth 4000 in
theorem ok_HM_as_b49 {E : gE} {w : wT} {σ' : St} {r : Int64} (X : gC E w cX9_as 5 RX9 3) (Y : gQ E w (some .long) (some (.long r)) σ') {x1 : Int32} {x2 : Int32} {x3 : Int32} (σ : St) (h : f_HM_as_b49 x1 x2 x3 σ = some (r, σ')) : gW E w 5 σ 49 [some (.ref (w.1 9)), some (.int x1), some (.int x2), some (.int x3)] [] := by
  unfold f_HM_as_b49 at h
  refine g_iload_n X dX9_as_49 rfl rfl ?_
  refine g_iconst X kI_4 dX9_as_50 rfl ?_
  refine g_icmp_ne X dX9_as_51 (tgt := 63) rfl rfl (fun c1 => ?_) (fun c1 => ?_)
  · replace h := if_f c1 h
    exact g_le (lle_s (lle_s (lle_0))) (ok_HM_as_b63 X Y σ h)
  · replace h := if_t c1 h
    refine g_iload_n X dX9_as_54 rfl rfl ?_
    refine g_iconst X kI_5 dX9_as_55 rfl ?_
    refine g_icmp_ne X dX9_as_56 (tgt := 63) rfl rfl (fun c2 => ?_) (fun c2 => ?_)
    · replace h := if_f c2 h
      exact g_le (lle_s (lle_s (lle_0))) (ok_HM_as_b63 X Y σ h)
    · replace h := if_t c2 h
      exact g_le (lle_s (lle_s (lle_0))) (ok_HM_as_b59 X Y σ h)

def f_HM_as (x1 : Int32) (x2 : Int32) (σ : St) : Option (Int64 × St) :=
  bd (f_HM_isPlace x1 σ) fun r3 σ2 => if r3 = 0 then (some ((-9000000000000000001), σ2)) else (bd (f_HM_in x2.toInt64 0 5 σ2) fun r7 σ6 => if r7 = 0 then (some ((-9000000000000000001), σ6)) else (bd (f_HM_kindOf x1 σ6) fun r11 σ10 => if x2 = 0 then (f_HM_as_b59 x1 σ10) else (if x2 = r11 then (f_HM_as_b59 x1 σ10) else (if x2 = 2 then (if r11 = 3 then (f_HM_as_b59 x1 σ10) else (f_HM_as_b49 x1 x2 r11 σ10)) else (f_HM_as_b49 x1 x2 r11 σ10)))))
set_option maxRecDepth 4000 in
theorem ok_HM_as {w : wT} (hi : wInj w) {l : Launch} {x1 : Int32} {x2 : Int32} {σ σ' : St} {r : Int64} (h : f_HM_as x1 x2 σ = some (r, σ')) : gM w l yX9_as cX9_as 5 (some .long) 3 [.ref (w.1 9), .int x1, .int x2] σ (some (.long r)) σ' := by
  unfold f_HM_as at h
  refine gM_of hi (by decide) [some (.ref (w.1 9)), some (.int x1), some (.int x2)] rfl (Nat.le_of_ble_eq_true rfl) (fun E hl X Y => ?_)
  refine g_aload_n X dX9_as_0 rfl rfl ?_
  refine g_iload_n X dX9_as_1 rfl rfl ?_
  obtain ⟨r3, σ2, h1, h⟩ := bd_e h
  refine g_callVI X [.int x1] (ok_HM_isPlace X.inj h1) my_yX9_isPlace mi_yX9_isPlace ms_yX9_isPlace ml_RX9_200 (by decide) rfl rfl (by decide) rfl dX9_as_2 (Nat.le_of_ble_eq_true rfl) rfl rfl ?_
  refine g_if_eq X dX9_as_5 (tgt := 20) rfl rfl (fun c4 => ?_) (fun c4 => ?_)
  · replace h := if_t c4 h
    refine g_ldc2 X dX9_as_20 kc_RX9_107 rfl ?_
    obtain ⟨rfl, rfl⟩ := rt_e h
    exact g_lret X Y dX9_as_23
  · replace h := if_f c4 h
    refine g_iload_n X dX9_as_8 rfl rfl ?_
    refine g_i2l X dX9_as_9 rfl ?_
    refine g_lconst X kL_0 dX9_as_10 rfl ?_
    refine g_ldc2 X dX9_as_11 kc_RX9_292 rfl ?_
    obtain ⟨r7, σ6, h5, h⟩ := bd_e h
    refine g_callSI X [.long x2.toInt64, .long 0, .long 5] (ok_HM_in X.inj h5) my_yX9_in mt_yX9_in ml_RX9_91 (by decide) rfl dX9_as_14 (Nat.le_of_ble_eq_true rfl) rfl rfl ?_
    refine g_if_ne X dX9_as_17 (tgt := 24) rfl rfl (fun c8 => ?_) (fun c8 => ?_)
    · replace h := if_f c8 h
      refine g_aload_n X dX9_as_24 rfl rfl ?_
      refine g_iload_n X dX9_as_25 rfl rfl ?_
      obtain ⟨r11, σ10, h9, h⟩ := bd_e h
      refine g_callVI X [.int x1] (ok_HM_kindOf X.inj h9) my_yX9_kindOf mi_yX9_kindOf ms_yX9_kindOf ml_RX9_289 (by decide) rfl rfl (by decide) rfl dX9_as_26 (Nat.le_of_ble_eq_true rfl) rfl rfl ?_
      refine g_istore_n X [some (.ref (w.1 9)), some (.int x1), some (.int x2), some (.int r11)] dX9_as_29 (Nat.le_of_ble_eq_true rfl) rfl rfl rfl ?_
      refine g_iload_n X dX9_as_30 rfl rfl ?_
      refine g_if_eq X dX9_as_31 (tgt := 59) rfl rfl (fun c12 => ?_) (fun c12 => ?_)
      · replace h := if_t c12 h
        exact g_le (lle_s (lle_s (lle_0))) (ok_HM_as_b59 X Y σ10 h)
      · replace h := if_f c12 h
        refine g_iload_n X dX9_as_34 rfl rfl ?_
        refine g_iload_n X dX9_as_35 rfl rfl ?_
        refine g_icmp_eq X dX9_as_36 (tgt := 59) rfl rfl (fun c13 => ?_) (fun c13 => ?_)
        · replace h := if_t c13 h
          exact g_le (lle_s (lle_s (lle_0))) (ok_HM_as_b59 X Y σ10 h)
        · replace h := if_f c13 h
          refine g_iload_n X dX9_as_39 rfl rfl ?_
          refine g_iconst X kI_2 dX9_as_40 rfl ?_
          refine g_icmp_ne X dX9_as_41 (tgt := 49) rfl rfl (fun c14 => ?_) (fun c14 => ?_)
          · replace h := if_f c14 h
            exact ok_HM_as_b49 X Y σ10 h
          · replace h := if_t c14 h
            refine g_iload_n X dX9_as_44 rfl rfl ?_
            refine g_iconst X kI_3 dX9_as_45 rfl ?_
            refine g_icmp_eq X dX9_as_46 (tgt := 59) rfl rfl (fun c15 => ?_) (fun c15 => ?_)
            · replace h := if_t c15 h
              exact g_le (lle_s (lle_s (lle_0))) (ok_HM_as_b59 X Y σ10 h)
            · replace h := if_f c15 h
              exact ok_HM_as_b49 X Y σ10 h
    · replace h := if_t c8 h
      refine g_ldc2 X dX9_as_20 kc_RX9_107 rfl ?_
      obtain ⟨rfl, rfl⟩ := rt_e h
      exact g_lret X Y dX9_as_23

theorem dX9_note_0 : decode cX9_note 0 = .ok (.aload_n 0, 1) := by decide +kernel
theorem dX9_note_1 : decode cX9_note 1 = .ok (.getfield 294, 3) := by decide +kernel
theorem dX9_note_4 : decode cX9_note 4 = .ok (.bipush 16, 2) := by decide +kernel
theorem dX9_note_6 : decode cX9_note 6 = .ok (.if_icmp .ge 23, 3) := by decide +kernel
theorem dX9_note_9 : decode cX9_note 9 = .ok (.aload_n 0, 1) := by decide +kernel
theorem dX9_note_10 : decode cX9_note 10 = .ok (.getfield 61, 3) := by decide +kernel
theorem dX9_note_13 : decode cX9_note 13 = .ok (.aload_n 0, 1) := by decide +kernel
theorem dX9_note_14 : decode cX9_note 14 = .ok (.getfield 294, 3) := by decide +kernel
theorem dX9_note_17 : decode cX9_note 17 = .ok (.iload_n 1, 1) := by decide +kernel
theorem dX9_note_18 : decode cX9_note 18 = .ok (.iastore, 1) := by decide +kernel
theorem dX9_note_19 : decode cX9_note 19 = .ok (.aload_n 0, 1) := by decide +kernel
theorem dX9_note_20 : decode cX9_note 20 = .ok (.dup, 1) := by decide +kernel
theorem dX9_note_21 : decode cX9_note 21 = .ok (.getfield 294, 3) := by decide +kernel
theorem dX9_note_24 : decode cX9_note 24 = .ok (.iconst 1, 1) := by decide +kernel
theorem dX9_note_25 : decode cX9_note 25 = .ok (.iadd, 1) := by decide +kernel
theorem dX9_note_26 : decode cX9_note 26 = .ok (.putfield 294, 3) := by decide +kernel
theorem dX9_note_29 : decode cX9_note 29 = .ok (.return_, 1) := by decide +kernel
def f_HM_note (x1 : Int32) (σ : St) : Option St :=
  if (16 : Int32) ≤ (rF σ 45) then (some σ) else (ck (ib (rF σ 45) 16) <| lE (stA σ 80 (rF σ 45).toNatClampNeg x1) fun σ3 => lE (stF σ3 45 ((rF σ3 45) + 1)) fun σ5 => some σ5)
set_option maxRecDepth 4000 in
theorem ok_HM_note {w : wT} (hi : wInj w) {l : Launch} {x1 : Int32} {σ σ' : St} (h : f_HM_note x1 σ = some σ') : gM w l yX9_note cX9_note 2 none 1 [.ref (w.1 9), .int x1] σ none σ' := by
  unfold f_HM_note at h
  refine gM_of hi (by decide) [some (.ref (w.1 9)), some (.int x1)] rfl (Nat.le_of_ble_eq_true rfl) (fun E hl X Y => ?_)
  refine g_aload_n X dX9_note_0 rfl rfl ?_
  refine gf_RX9_294 X dX9_note_1 rfl ?_
  refine g_bipush X kB_16 dX9_note_4 rfl ?_
  refine g_icmp_ge X dX9_note_6 (tgt := 29) rfl rfl (fun c1 => ?_) (fun c1 => ?_)
  · replace h := if_t c1 h
    obtain rfl := rv_e h
    exact g_vret X Y dX9_note_29
  · replace h := if_f c1 h
    refine g_aload_n X dX9_note_9 rfl rfl ?_
    refine gf_RX9_61 X dX9_note_10 rfl ?_
    refine g_aload_n X dX9_note_13 rfl rfl ?_
    refine gf_RX9_294 X dX9_note_14 rfl ?_
    refine g_iload_n X dX9_note_17 rfl rfl ?_
    obtain ⟨c2, h⟩ := ck_e h
    refine g_iast X ar_80.1 ar_80.2.1 ar_80.2.2 (ib_e c2) dX9_note_18 rfl (fun σ3 e4 => ?_)
    replace h := lE_c e4 h
    refine g_aload_n X dX9_note_19 rfl rfl ?_
    refine g_dup X dX9_note_20 rfl rfl ?_
    refine gf_RX9_294 X dX9_note_21 rfl ?_
    refine g_iconst X kI_1 dX9_note_24 rfl ?_
    refine g_iadd X dX9_note_25 rfl ?_
    refine gp_RX9_294 X dX9_note_26 rfl (fun σ5 e6 => ?_)
    replace h := lE_c e6 h
    obtain rfl := rv_e h
    exact g_vret X Y dX9_note_29

theorem dX9_size10_0 : decode cX9_size10 0 = .ok (.aload_n 0, 1) := by decide +kernel
theorem dX9_size10_1 : decode cX9_size10 1 = .ok (.bipush 10, 2) := by decide +kernel
theorem dX9_size10_3 : decode cX9_size10 3 = .ok (.invokevirtual 297, 3) := by decide +kernel
theorem dX9_size10_6 : decode cX9_size10 6 = .ok (.iconst 1, 1) := by decide +kernel
theorem dX9_size10_7 : decode cX9_size10 7 = .ok (.istore_n 2, 1) := by decide +kernel
theorem dX9_size10_8 : decode cX9_size10 8 = .ok (.iload_n 1, 1) := by decide +kernel
theorem dX9_size10_9 : decode cX9_size10 9 = .ok (.iload_n 2, 1) := by decide +kernel
theorem dX9_size10_10 : decode cX9_size10 10 = .ok (.iadd, 1) := by decide +kernel
theorem dX9_size10_11 : decode cX9_size10 11 = .ok (.aload_n 0, 1) := by decide +kernel
theorem dX9_size10_12 : decode cX9_size10 12 = .ok (.getfield 192, 3) := by decide +kernel
theorem dX9_size10_15 : decode cX9_size10 15 = .ok (.if_icmp .ge 26, 3) := by decide +kernel
theorem dX9_size10_18 : decode cX9_size10 18 = .ok (.aload_n 0, 1) := by decide +kernel
theorem dX9_size10_19 : decode cX9_size10 19 = .ok (.getfield 43, 3) := by decide +kernel
theorem dX9_size10_22 : decode cX9_size10 22 = .ok (.iload_n 1, 1) := by decide +kernel
theorem dX9_size10_23 : decode cX9_size10 23 = .ok (.iload_n 2, 1) := by decide +kernel
theorem dX9_size10_24 : decode cX9_size10 24 = .ok (.iadd, 1) := by decide +kernel
theorem dX9_size10_25 : decode cX9_size10 25 = .ok (.iaload, 1) := by decide +kernel
theorem dX9_size10_26 : decode cX9_size10 26 = .ok (.aload_n 0, 1) := by decide +kernel
theorem dX9_size10_27 : decode cX9_size10 27 = .ok (.getfield 43, 3) := by decide +kernel
theorem dX9_size10_30 : decode cX9_size10 30 = .ok (.iload_n 1, 1) := by decide +kernel
theorem dX9_size10_31 : decode cX9_size10 31 = .ok (.iaload, 1) := by decide +kernel
theorem dX9_size10_32 : decode cX9_size10 32 = .ok (.if_icmp .le 9, 3) := by decide +kernel
theorem dX9_size10_35 : decode cX9_size10 35 = .ok (.iinc 2 1, 3) := by decide +kernel
theorem dX9_size10_38 : decode cX9_size10 38 = .ok (.goto (-30), 3) := by decide +kernel
theorem dX9_size10_41 : decode cX9_size10 41 = .ok (.iload_n 2, 1) := by decide +kernel
theorem dX9_size10_42 : decode cX9_size10 42 = .ok (.i2l, 1) := by decide +kernel
theorem dX9_size10_43 : decode cX9_size10 43 = .ok (.lreturn, 1) := by decide +kernel
def f_HM_size10_b8 (k8 : Int32 → Int32 → St → Option (Int64 × St)) (x1 : Int32) (x2 : Int32) (σ : St) : Option (Int64 × St) :=
  if (rF σ 43) ≤ (x1 + x2) then (some (x2.toInt64, σ)) else (ck (ib (x1 + x2) 120) <| ck (ib x1 120) <| if (rI σ 74 (x1 + x2)) ≤ (rI σ 74 x1) then (some (x2.toInt64, σ)) else (k8 x1 (x2 + 1) σ))
set_option maxRecDepth 4000 in
theorem ok_HM_size10_b8 {E : gE} {w : wT} {σ' : St} {r : Int64} (X : gC E w cX9_size10 3 RX9 2) (Y : gQ E w (some .long) (some (.long r)) σ') {k8 : Int32 → Int32 → St → Option (Int64 × St)} (hk8 : ∀ (x1 : Int32) (x2 : Int32) (σ : St), k8 x1 x2 σ = some (r, σ') → gW E w 3 σ 8 [some (.ref (w.1 9)), some (.int x1), some (.int x2)] []) {x1 : Int32} {x2 : Int32} (σ : St) (h : f_HM_size10_b8 k8 x1 x2 σ = some (r, σ')) : gW E w 3 σ 8 [some (.ref (w.1 9)), some (.int x1), some (.int x2)] [] := by
  unfold f_HM_size10_b8 at h
  refine g_iload_n X dX9_size10_8 rfl rfl ?_
  refine g_iload_n X dX9_size10_9 rfl rfl ?_
  refine g_iadd X dX9_size10_10 rfl ?_
  refine g_aload_n X dX9_size10_11 rfl rfl ?_
  refine gf_RX9_192 X dX9_size10_12 rfl ?_
  refine g_icmp_ge X dX9_size10_15 (tgt := 41) rfl rfl (fun c1 => ?_) (fun c1 => ?_)
  · replace h := if_t c1 h
    refine g_iload_n X dX9_size10_41 rfl rfl ?_
    refine g_i2l X dX9_size10_42 rfl ?_
    obtain ⟨rfl, rfl⟩ := rt_e h
    exact g_lret X Y dX9_size10_43
  · replace h := if_f c1 h
    refine g_aload_n X dX9_size10_18 rfl rfl ?_
    refine gf_RX9_43 X dX9_size10_19 rfl ?_
    refine g_iload_n X dX9_size10_22 rfl rfl ?_
    refine g_iload_n X dX9_size10_23 rfl rfl ?_
    refine g_iadd X dX9_size10_24 rfl ?_
    obtain ⟨c2, h⟩ := ck_e h
    refine g_iald X ar_74.1 ar_74.2.1 ar_74.2.2 (ib_e c2) dX9_size10_25 rfl ?_
    refine g_aload_n X dX9_size10_26 rfl rfl ?_
    refine gf_RX9_43 X dX9_size10_27 rfl ?_
    refine g_iload_n X dX9_size10_30 rfl rfl ?_
    obtain ⟨c3, h⟩ := ck_e h
    refine g_iald X ar_74.1 ar_74.2.1 ar_74.2.2 (ib_e c3) dX9_size10_31 rfl ?_
    refine g_icmp_le X dX9_size10_32 (tgt := 41) rfl rfl (fun c4 => ?_) (fun c4 => ?_)
    · replace h := if_t c4 h
      refine g_iload_n X dX9_size10_41 rfl rfl ?_
      refine g_i2l X dX9_size10_42 rfl ?_
      obtain ⟨rfl, rfl⟩ := rt_e h
      exact g_lret X Y dX9_size10_43
    · replace h := if_f c4 h
      refine g_iinc X [some (.ref (w.1 9)), some (.int x1), some (.int (x2 + 1))] dX9_size10_35 rfl (ii_1 x2) (Nat.le_of_ble_eq_true rfl) rfl rfl rfl ?_
      refine g_goto X dX9_size10_38 (tgt := 8) rfl ?_
      exact hk8 x1 (x2 + 1) σ h
def f_HM_size10_l8 : Int32 → Int32 → St → Option (Int64 × St) := lp (fun _ _ _ => none) (f_HM_size10_b8) FU
theorem ok_HM_size10_l8 {E : gE} {w : wT} {σ' : St} {r : Int64} (X : gC E w cX9_size10 3 RX9 2) (Y : gQ E w (some .long) (some (.long r)) σ') {x1 : Int32} {x2 : Int32} (σ : St) (h : f_HM_size10_l8 x1 x2 σ = some (r, σ')) : gW E w 3 σ 8 [some (.ref (w.1 9)), some (.int x1), some (.int x2)] [] :=
  lp_ind (P := fun (k : Int32 → Int32 → St → Option (Int64 × St)) => ∀ (x1 : Int32) (x2 : Int32) (σ : St), k x1 x2 σ = some (r, σ') → gW E w 3 σ 8 [some (.ref (w.1 9)), some (.int x1), some (.int x2)] []) (fun _ _ _ hh => nn hh) (fun k hk x1 x2 σ  hh => ok_HM_size10_b8 X Y hk σ hh) FU x1 x2 σ  h

def f_HM_size10 (x1 : Int32) (σ : St) : Option (Int64 × St) :=
  bv (f_HM_note 10 σ) fun σ2 => f_HM_size10_l8 x1 1 σ2
set_option maxRecDepth 4000 in
theorem ok_HM_size10 {w : wT} (hi : wInj w) {l : Launch} {x1 : Int32} {σ σ' : St} {r : Int64} (h : f_HM_size10 x1 σ = some (r, σ')) : gM w l yX9_size10 cX9_size10 3 (some .long) 2 [.ref (w.1 9), .int x1] σ (some (.long r)) σ' := by
  unfold f_HM_size10 at h
  refine gM_of hi (by decide) [some (.ref (w.1 9)), some (.int x1)] rfl (Nat.le_of_ble_eq_true rfl) (fun E hl X Y => ?_)
  refine g_aload_n X dX9_size10_0 rfl rfl ?_
  refine g_bipush X kB_10 dX9_size10_1 rfl ?_
  obtain ⟨σ2, h1, h⟩ := bv_e h
  refine g_callVV X [.int 10] (ok_HM_note X.inj h1) my_yX9_note mi_yX9_note ms_yX9_note ml_RX9_297 (by decide) rfl rfl (by decide) rfl dX9_size10_3 (Nat.le_of_ble_eq_true rfl) rfl rfl ?_
  refine g_iconst X kI_1 dX9_size10_6 rfl ?_
  refine g_istore_n X [some (.ref (w.1 9)), some (.int x1), some (.int 1)] dX9_size10_7 (Nat.le_of_ble_eq_true rfl) rfl rfl rfl ?_
  exact ok_HM_size10_l8 X Y σ2 h

theorem dX9_size11_0 : decode cX9_size11 0 = .ok (.aload_n 0, 1) := by decide +kernel
theorem dX9_size11_1 : decode cX9_size11 1 = .ok (.bipush 11, 2) := by decide +kernel
theorem dX9_size11_3 : decode cX9_size11 3 = .ok (.invokevirtual 297, 3) := by decide +kernel
theorem dX9_size11_6 : decode cX9_size11 6 = .ok (.aload_n 0, 1) := by decide +kernel
theorem dX9_size11_7 : decode cX9_size11 7 = .ok (.iload_n 1, 1) := by decide +kernel
theorem dX9_size11_8 : decode cX9_size11 8 = .ok (.invokevirtual 311, 3) := by decide +kernel
theorem dX9_size11_11 : decode cX9_size11 11 = .ok (.aload_n 0, 1) := by decide +kernel
theorem dX9_size11_12 : decode cX9_size11 12 = .ok (.getfield 31, 3) := by decide +kernel
theorem dX9_size11_15 : decode cX9_size11 15 = .ok (.iload_n 1, 1) := by decide +kernel
theorem dX9_size11_16 : decode cX9_size11 16 = .ok (.iaload, 1) := by decide +kernel
theorem dX9_size11_17 : decode cX9_size11 17 = .ok (.i2l, 1) := by decide +kernel
theorem dX9_size11_18 : decode cX9_size11 18 = .ok (.ladd, 1) := by decide +kernel
theorem dX9_size11_19 : decode cX9_size11 19 = .ok (.lreturn, 1) := by decide +kernel
def f_HM_size11 (x1 : Int32) (σ : St) : Option (Int64 × St) :=
  bv (f_HM_note 11 σ) fun σ2 => bd (f_HM_size10 x1 σ2) fun r5 σ4 => ck (ib x1 120) <| some (r5 + ((rI σ4 70 x1).toInt64), σ4)
set_option maxRecDepth 4000 in
theorem ok_HM_size11 {w : wT} (hi : wInj w) {l : Launch} {x1 : Int32} {σ σ' : St} {r : Int64} (h : f_HM_size11 x1 σ = some (r, σ')) : gM w l yX9_size11 cX9_size11 2 (some .long) 3 [.ref (w.1 9), .int x1] σ (some (.long r)) σ' := by
  unfold f_HM_size11 at h
  refine gM_of hi (by decide) [some (.ref (w.1 9)), some (.int x1)] rfl (Nat.le_of_ble_eq_true rfl) (fun E hl X Y => ?_)
  refine g_aload_n X dX9_size11_0 rfl rfl ?_
  refine g_bipush X kB_11 dX9_size11_1 rfl ?_
  obtain ⟨σ2, h1, h⟩ := bv_e h
  refine g_callVV X [.int 11] (ok_HM_note X.inj h1) my_yX9_note mi_yX9_note ms_yX9_note ml_RX9_297 (by decide) rfl rfl (by decide) rfl dX9_size11_3 (Nat.le_of_ble_eq_true rfl) rfl rfl ?_
  refine g_aload_n X dX9_size11_6 rfl rfl ?_
  refine g_iload_n X dX9_size11_7 rfl rfl ?_
  obtain ⟨r5, σ4, h3, h⟩ := bd_e h
  refine g_callVJ X [.int x1] (ok_HM_size10 X.inj h3) my_yX9_size10 mi_yX9_size10 ms_yX9_size10 ml_RX9_311 (by decide) rfl rfl (by decide) rfl dX9_size11_8 (Nat.le_of_ble_eq_true rfl) rfl rfl ?_
  refine g_aload_n X dX9_size11_11 rfl rfl ?_
  refine gf_RX9_31 X dX9_size11_12 rfl ?_
  refine g_iload_n X dX9_size11_15 rfl rfl ?_
  obtain ⟨c6, h⟩ := ck_e h
  refine g_iald X ar_70.1 ar_70.2.1 ar_70.2.2 (ib_e c6) dX9_size11_16 rfl ?_
  refine g_i2l X dX9_size11_17 rfl ?_
  refine g_ladd X dX9_size11_18 rfl ?_
  obtain ⟨rfl, rfl⟩ := rt_e h
  exact g_lret X Y dX9_size11_19

theorem dX9_mark20_0 : decode cX9_mark20 0 = .ok (.aload_n 0, 1) := by decide +kernel
theorem dX9_mark20_1 : decode cX9_mark20 1 = .ok (.bipush 20, 2) := by decide +kernel
theorem dX9_mark20_3 : decode cX9_mark20 3 = .ok (.invokevirtual 297, 3) := by decide +kernel
theorem dX9_mark20_6 : decode cX9_mark20 6 = .ok (.iload_n 1, 1) := by decide +kernel
theorem dX9_mark20_7 : decode cX9_mark20 7 = .ok (.i2l, 1) := by decide +kernel
theorem dX9_mark20_8 : decode cX9_mark20 8 = .ok (.lreturn, 1) := by decide +kernel
def f_HM_mark20 (x1 : Int32) (σ : St) : Option (Int64 × St) :=
  bv (f_HM_note 20 σ) fun σ2 => some (x1.toInt64, σ2)
set_option maxRecDepth 4000 in
theorem ok_HM_mark20 {w : wT} (hi : wInj w) {l : Launch} {x1 : Int32} {σ σ' : St} {r : Int64} (h : f_HM_mark20 x1 σ = some (r, σ')) : gM w l yX9_mark20 cX9_mark20 2 (some .long) 2 [.ref (w.1 9), .int x1] σ (some (.long r)) σ' := by
  unfold f_HM_mark20 at h
  refine gM_of hi (by decide) [some (.ref (w.1 9)), some (.int x1)] rfl (Nat.le_of_ble_eq_true rfl) (fun E hl X Y => ?_)
  refine g_aload_n X dX9_mark20_0 rfl rfl ?_
  refine g_bipush X kB_20 dX9_mark20_1 rfl ?_
  obtain ⟨σ2, h1, h⟩ := bv_e h
  refine g_callVV X [.int 20] (ok_HM_note X.inj h1) my_yX9_note mi_yX9_note ms_yX9_note ml_RX9_297 (by decide) rfl rfl (by decide) rfl dX9_mark20_3 (Nat.le_of_ble_eq_true rfl) rfl rfl ?_
  refine g_iload_n X dX9_mark20_6 rfl rfl ?_
  refine g_i2l X dX9_mark20_7 rfl ?_
  obtain ⟨rfl, rfl⟩ := rt_e h
  exact g_lret X Y dX9_mark20_8

theorem dX9_mark21_0 : decode cX9_mark21 0 = .ok (.aload_n 0, 1) := by decide +kernel
theorem dX9_mark21_1 : decode cX9_mark21 1 = .ok (.bipush 21, 2) := by decide +kernel
theorem dX9_mark21_3 : decode cX9_mark21 3 = .ok (.invokevirtual 297, 3) := by decide +kernel
theorem dX9_mark21_6 : decode cX9_mark21 6 = .ok (.aload_n 0, 1) := by decide +kernel
theorem dX9_mark21_7 : decode cX9_mark21 7 = .ok (.iload_n 1, 1) := by decide +kernel
theorem dX9_mark21_8 : decode cX9_mark21 8 = .ok (.invokevirtual 303, 3) := by decide +kernel
theorem dX9_mark21_11 : decode cX9_mark21 11 = .ok (.ldc2_w 306, 3) := by decide +kernel
theorem dX9_mark21_14 : decode cX9_mark21 14 = .ok (.aload_n 0, 1) := by decide +kernel
theorem dX9_mark21_15 : decode cX9_mark21 15 = .ok (.getfield 28, 3) := by decide +kernel
theorem dX9_mark21_18 : decode cX9_mark21 18 = .ok (.iload_n 1, 1) := by decide +kernel
theorem dX9_mark21_19 : decode cX9_mark21 19 = .ok (.iaload, 1) := by decide +kernel
theorem dX9_mark21_20 : decode cX9_mark21 20 = .ok (.i2l, 1) := by decide +kernel
theorem dX9_mark21_21 : decode cX9_mark21 21 = .ok (.lmul, 1) := by decide +kernel
theorem dX9_mark21_22 : decode cX9_mark21 22 = .ok (.ladd, 1) := by decide +kernel
theorem dX9_mark21_23 : decode cX9_mark21 23 = .ok (.lreturn, 1) := by decide +kernel
def f_HM_mark21 (x1 : Int32) (σ : St) : Option (Int64 × St) :=
  bv (f_HM_note 21 σ) fun σ2 => bd (f_HM_mark20 x1 σ2) fun r5 σ4 => ck (ib x1 120) <| some (r5 + (100 * ((rI σ4 69 x1).toInt64)), σ4)
set_option maxRecDepth 4000 in
theorem ok_HM_mark21 {w : wT} (hi : wInj w) {l : Launch} {x1 : Int32} {σ σ' : St} {r : Int64} (h : f_HM_mark21 x1 σ = some (r, σ')) : gM w l yX9_mark21 cX9_mark21 2 (some .long) 3 [.ref (w.1 9), .int x1] σ (some (.long r)) σ' := by
  unfold f_HM_mark21 at h
  refine gM_of hi (by decide) [some (.ref (w.1 9)), some (.int x1)] rfl (Nat.le_of_ble_eq_true rfl) (fun E hl X Y => ?_)
  refine g_aload_n X dX9_mark21_0 rfl rfl ?_
  refine g_bipush X kB_21 dX9_mark21_1 rfl ?_
  obtain ⟨σ2, h1, h⟩ := bv_e h
  refine g_callVV X [.int 21] (ok_HM_note X.inj h1) my_yX9_note mi_yX9_note ms_yX9_note ml_RX9_297 (by decide) rfl rfl (by decide) rfl dX9_mark21_3 (Nat.le_of_ble_eq_true rfl) rfl rfl ?_
  refine g_aload_n X dX9_mark21_6 rfl rfl ?_
  refine g_iload_n X dX9_mark21_7 rfl rfl ?_
  obtain ⟨r5, σ4, h3, h⟩ := bd_e h
  refine g_callVJ X [.int x1] (ok_HM_mark20 X.inj h3) my_yX9_mark20 mi_yX9_mark20 ms_yX9_mark20 ml_RX9_303 (by decide) rfl rfl (by decide) rfl dX9_mark21_8 (Nat.le_of_ble_eq_true rfl) rfl rfl ?_
  refine g_ldc2 X dX9_mark21_11 kc_RX9_306 rfl ?_
  refine g_aload_n X dX9_mark21_14 rfl rfl ?_
  refine gf_RX9_28 X dX9_mark21_15 rfl ?_
  refine g_iload_n X dX9_mark21_18 rfl rfl ?_
  obtain ⟨c6, h⟩ := ck_e h
  refine g_iald X ar_69.1 ar_69.2.1 ar_69.2.2 (ib_e c6) dX9_mark21_19 rfl ?_
  refine g_i2l X dX9_mark21_20 rfl ?_
  refine g_lmul X dX9_mark21_21 rfl ?_
  refine g_ladd X dX9_mark21_22 rfl ?_
  obtain ⟨rfl, rfl⟩ := rt_e h
  exact g_lret X Y dX9_mark21_23

theorem dX9_size12_0 : decode cX9_size12 0 = .ok (.aload_n 0, 1) := by decide +kernel
theorem dX9_size12_1 : decode cX9_size12 1 = .ok (.bipush 12, 2) := by decide +kernel
theorem dX9_size12_3 : decode cX9_size12 3 = .ok (.invokevirtual 297, 3) := by decide +kernel
theorem dX9_size12_6 : decode cX9_size12 6 = .ok (.aload_n 0, 1) := by decide +kernel
theorem dX9_size12_7 : decode cX9_size12 7 = .ok (.iload_n 1, 1) := by decide +kernel
theorem dX9_size12_8 : decode cX9_size12 8 = .ok (.invokevirtual 311, 3) := by decide +kernel
theorem dX9_size12_11 : decode cX9_size12 11 = .ok (.lstore_n 2, 1) := by decide +kernel
theorem dX9_size12_12 : decode cX9_size12 12 = .ok (.lload_n 2, 1) := by decide +kernel
theorem dX9_size12_13 : decode cX9_size12 13 = .ok (.aload_n 0, 1) := by decide +kernel
theorem dX9_size12_14 : decode cX9_size12 14 = .ok (.iload_n 1, 1) := by decide +kernel
theorem dX9_size12_15 : decode cX9_size12 15 = .ok (.invokevirtual 314, 3) := by decide +kernel
theorem dX9_size12_18 : decode cX9_size12 18 = .ok (.ladd, 1) := by decide +kernel
theorem dX9_size12_19 : decode cX9_size12 19 = .ok (.lreturn, 1) := by decide +kernel
def f_HM_size12 (x1 : Int32) (σ : St) : Option (Int64 × St) :=
  bv (f_HM_note 12 σ) fun σ2 => bd (f_HM_size10 x1 σ2) fun r5 σ4 => bd (f_HM_mark21 x1 σ4) fun r8 σ7 => some (r5 + r8, σ7)
set_option maxRecDepth 4000 in
theorem ok_HM_size12 {w : wT} (hi : wInj w) {l : Launch} {x1 : Int32} {σ σ' : St} {r : Int64} (h : f_HM_size12 x1 σ = some (r, σ')) : gM w l yX9_size12 cX9_size12 4 (some .long) 4 [.ref (w.1 9), .int x1] σ (some (.long r)) σ' := by
  unfold f_HM_size12 at h
  refine gM_of hi (by decide) [some (.ref (w.1 9)), some (.int x1)] rfl (Nat.le_of_ble_eq_true rfl) (fun E hl X Y => ?_)
  refine g_aload_n X dX9_size12_0 rfl rfl ?_
  refine g_bipush X kB_12 dX9_size12_1 rfl ?_
  obtain ⟨σ2, h1, h⟩ := bv_e h
  refine g_callVV X [.int 12] (ok_HM_note X.inj h1) my_yX9_note mi_yX9_note ms_yX9_note ml_RX9_297 (by decide) rfl rfl (by decide) rfl dX9_size12_3 (Nat.le_of_ble_eq_true rfl) rfl rfl ?_
  refine g_aload_n X dX9_size12_6 rfl rfl ?_
  refine g_iload_n X dX9_size12_7 rfl rfl ?_
  obtain ⟨r5, σ4, h3, h⟩ := bd_e h
  refine g_callVJ X [.int x1] (ok_HM_size10 X.inj h3) my_yX9_size10 mi_yX9_size10 ms_yX9_size10 ml_RX9_311 (by decide) rfl rfl (by decide) rfl dX9_size12_8 (Nat.le_of_ble_eq_true rfl) rfl rfl ?_
  refine g_lstore_n X [some (.ref (w.1 9)), some (.int x1), some (.long r5), none] dX9_size12_11 (Nat.le_of_ble_eq_true rfl) rfl rfl rfl ?_
  refine g_lload_n X dX9_size12_12 rfl rfl ?_
  refine g_aload_n X dX9_size12_13 rfl rfl ?_
  refine g_iload_n X dX9_size12_14 rfl rfl ?_
  obtain ⟨r8, σ7, h6, h⟩ := bd_e h
  refine g_callVJ X [.int x1] (ok_HM_mark21 X.inj h6) my_yX9_mark21 mi_yX9_mark21 ms_yX9_mark21 ml_RX9_314 (by decide) rfl rfl (by decide) rfl dX9_size12_15 (Nat.le_of_ble_eq_true rfl) rfl rfl ?_
  refine g_ladd X dX9_size12_18 rfl ?_
  obtain ⟨rfl, rfl⟩ := rt_e h
  exact g_lret X Y dX9_size12_19

theorem dX9_size13_0 : decode cX9_size13 0 = .ok (.aload_n 0, 1) := by decide +kernel
theorem dX9_size13_1 : decode cX9_size13 1 = .ok (.bipush 13, 2) := by decide +kernel
theorem dX9_size13_3 : decode cX9_size13 3 = .ok (.invokevirtual 297, 3) := by decide +kernel
theorem dX9_size13_6 : decode cX9_size13 6 = .ok (.aload_n 0, 1) := by decide +kernel
theorem dX9_size13_7 : decode cX9_size13 7 = .ok (.iload_n 1, 1) := by decide +kernel
theorem dX9_size13_8 : decode cX9_size13 8 = .ok (.invokevirtual 317, 3) := by decide +kernel
theorem dX9_size13_11 : decode cX9_size13 11 = .ok (.aload_n 0, 1) := by decide +kernel
theorem dX9_size13_12 : decode cX9_size13 12 = .ok (.aload_n 0, 1) := by decide +kernel
theorem dX9_size13_13 : decode cX9_size13 13 = .ok (.getfield 28, 3) := by decide +kernel
theorem dX9_size13_16 : decode cX9_size13 16 = .ok (.iload_n 1, 1) := by decide +kernel
theorem dX9_size13_17 : decode cX9_size13 17 = .ok (.iaload, 1) := by decide +kernel
theorem dX9_size13_18 : decode cX9_size13 18 = .ok (.invokevirtual 205, 3) := by decide +kernel
theorem dX9_size13_21 : decode cX9_size13 21 = .ok (.i2l, 1) := by decide +kernel
theorem dX9_size13_22 : decode cX9_size13 22 = .ok (.lmul, 1) := by decide +kernel
theorem dX9_size13_23 : decode cX9_size13 23 = .ok (.lreturn, 1) := by decide +kernel
def f_HM_size13 (x1 : Int32) (σ : St) : Option (Int64 × St) :=
  bv (f_HM_note 13 σ) fun σ2 => bd (f_HM_size12 x1 σ2) fun r5 σ4 => ck (ib x1 120) <| bd (f_HM_placesIn (rI σ4 69 x1) σ4) fun r9 σ8 => some (r5 * r9.toInt64, σ8)
set_option maxRecDepth 4000 in
theorem ok_HM_size13 {w : wT} (hi : wInj w) {l : Launch} {x1 : Int32} {σ σ' : St} {r : Int64} (h : f_HM_size13 x1 σ = some (r, σ')) : gM w l yX9_size13 cX9_size13 2 (some .long) 5 [.ref (w.1 9), .int x1] σ (some (.long r)) σ' := by
  unfold f_HM_size13 at h
  refine gM_of hi (by decide) [some (.ref (w.1 9)), some (.int x1)] rfl (Nat.le_of_ble_eq_true rfl) (fun E hl X Y => ?_)
  refine g_aload_n X dX9_size13_0 rfl rfl ?_
  refine g_bipush X kB_13 dX9_size13_1 rfl ?_
  obtain ⟨σ2, h1, h⟩ := bv_e h
  refine g_callVV X [.int 13] (ok_HM_note X.inj h1) my_yX9_note mi_yX9_note ms_yX9_note ml_RX9_297 (by decide) rfl rfl (by decide) rfl dX9_size13_3 (Nat.le_of_ble_eq_true rfl) rfl rfl ?_
  refine g_aload_n X dX9_size13_6 rfl rfl ?_
  refine g_iload_n X dX9_size13_7 rfl rfl ?_
  obtain ⟨r5, σ4, h3, h⟩ := bd_e h
  refine g_callVJ X [.int x1] (ok_HM_size12 X.inj h3) my_yX9_size12 mi_yX9_size12 ms_yX9_size12 ml_RX9_317 (by decide) rfl rfl (by decide) rfl dX9_size13_8 (Nat.le_of_ble_eq_true rfl) rfl rfl ?_
  refine g_aload_n X dX9_size13_11 rfl rfl ?_
  refine g_aload_n X dX9_size13_12 rfl rfl ?_
  refine gf_RX9_28 X dX9_size13_13 rfl ?_
  refine g_iload_n X dX9_size13_16 rfl rfl ?_
  obtain ⟨c6, h⟩ := ck_e h
  refine g_iald X ar_69.1 ar_69.2.1 ar_69.2.2 (ib_e c6) dX9_size13_17 rfl ?_
  obtain ⟨r9, σ8, h7, h⟩ := bd_e h
  refine g_callVI X [.int (rI σ4 69 x1)] (ok_HM_placesIn X.inj h7) my_yX9_placesIn mi_yX9_placesIn ms_yX9_placesIn ml_RX9_205 (by decide) rfl rfl (by decide) rfl dX9_size13_18 (Nat.le_of_ble_eq_true rfl) rfl rfl ?_
  refine g_i2l X dX9_size13_21 rfl ?_
  refine g_lmul X dX9_size13_22 rfl ?_
  obtain ⟨rfl, rfl⟩ := rt_e h
  exact g_lret X Y dX9_size13_23

theorem dX9_size14_0 : decode cX9_size14 0 = .ok (.aload_n 0, 1) := by decide +kernel
theorem dX9_size14_1 : decode cX9_size14 1 = .ok (.bipush 14, 2) := by decide +kernel
theorem dX9_size14_3 : decode cX9_size14 3 = .ok (.invokevirtual 297, 3) := by decide +kernel
theorem dX9_size14_6 : decode cX9_size14 6 = .ok (.aload_n 0, 1) := by decide +kernel
theorem dX9_size14_7 : decode cX9_size14 7 = .ok (.getfield 25, 3) := by decide +kernel
theorem dX9_size14_10 : decode cX9_size14 10 = .ok (.iload_n 1, 1) := by decide +kernel
theorem dX9_size14_11 : decode cX9_size14 11 = .ok (.iaload, 1) := by decide +kernel
theorem dX9_size14_12 : decode cX9_size14 12 = .ok (.i2l, 1) := by decide +kernel
theorem dX9_size14_13 : decode cX9_size14 13 = .ok (.lreturn, 1) := by decide +kernel
def f_HM_size14 (x1 : Int32) (σ : St) : Option (Int64 × St) :=
  bv (f_HM_note 14 σ) fun σ2 => ck (ib x1 120) <| some ((rI σ2 68 x1).toInt64, σ2)
set_option maxRecDepth 4000 in
theorem ok_HM_size14 {w : wT} (hi : wInj w) {l : Launch} {x1 : Int32} {σ σ' : St} {r : Int64} (h : f_HM_size14 x1 σ = some (r, σ')) : gM w l yX9_size14 cX9_size14 2 (some .long) 2 [.ref (w.1 9), .int x1] σ (some (.long r)) σ' := by
  unfold f_HM_size14 at h
  refine gM_of hi (by decide) [some (.ref (w.1 9)), some (.int x1)] rfl (Nat.le_of_ble_eq_true rfl) (fun E hl X Y => ?_)
  refine g_aload_n X dX9_size14_0 rfl rfl ?_
  refine g_bipush X kB_14 dX9_size14_1 rfl ?_
  obtain ⟨σ2, h1, h⟩ := bv_e h
  refine g_callVV X [.int 14] (ok_HM_note X.inj h1) my_yX9_note mi_yX9_note ms_yX9_note ml_RX9_297 (by decide) rfl rfl (by decide) rfl dX9_size14_3 (Nat.le_of_ble_eq_true rfl) rfl rfl ?_
  refine g_aload_n X dX9_size14_6 rfl rfl ?_
  refine gf_RX9_25 X dX9_size14_7 rfl ?_
  refine g_iload_n X dX9_size14_10 rfl rfl ?_
  obtain ⟨c3, h⟩ := ck_e h
  refine g_iald X ar_68.1 ar_68.2.1 ar_68.2.2 (ib_e c3) dX9_size14_11 rfl ?_
  refine g_i2l X dX9_size14_12 rfl ?_
  obtain ⟨rfl, rfl⟩ := rt_e h
  exact g_lret X Y dX9_size14_13

theorem dX9_size15_0 : decode cX9_size15 0 = .ok (.aload_n 0, 1) := by decide +kernel
theorem dX9_size15_1 : decode cX9_size15 1 = .ok (.bipush 15, 2) := by decide +kernel
theorem dX9_size15_3 : decode cX9_size15 3 = .ok (.invokevirtual 297, 3) := by decide +kernel
theorem dX9_size15_6 : decode cX9_size15 6 = .ok (.ldc2_w 105, 3) := by decide +kernel
theorem dX9_size15_9 : decode cX9_size15 9 = .ok (.aload_n 0, 1) := by decide +kernel
theorem dX9_size15_10 : decode cX9_size15 10 = .ok (.iload_n 1, 1) := by decide +kernel
theorem dX9_size15_11 : decode cX9_size15 11 = .ok (.invokevirtual 300, 3) := by decide +kernel
theorem dX9_size15_14 : decode cX9_size15 14 = .ok (.lmul, 1) := by decide +kernel
theorem dX9_size15_15 : decode cX9_size15 15 = .ok (.lreturn, 1) := by decide +kernel
def f_HM_size15 (x1 : Int32) (σ : St) : Option (Int64 × St) :=
  bv (f_HM_note 15 σ) fun σ2 => bd (f_HM_size14 x1 σ2) fun r5 σ4 => some (2 * r5, σ4)
set_option maxRecDepth 4000 in
theorem ok_HM_size15 {w : wT} (hi : wInj w) {l : Launch} {x1 : Int32} {σ σ' : St} {r : Int64} (h : f_HM_size15 x1 σ = some (r, σ')) : gM w l yX9_size15 cX9_size15 2 (some .long) 3 [.ref (w.1 9), .int x1] σ (some (.long r)) σ' := by
  unfold f_HM_size15 at h
  refine gM_of hi (by decide) [some (.ref (w.1 9)), some (.int x1)] rfl (Nat.le_of_ble_eq_true rfl) (fun E hl X Y => ?_)
  refine g_aload_n X dX9_size15_0 rfl rfl ?_
  refine g_bipush X kB_15 dX9_size15_1 rfl ?_
  obtain ⟨σ2, h1, h⟩ := bv_e h
  refine g_callVV X [.int 15] (ok_HM_note X.inj h1) my_yX9_note mi_yX9_note ms_yX9_note ml_RX9_297 (by decide) rfl rfl (by decide) rfl dX9_size15_3 (Nat.le_of_ble_eq_true rfl) rfl rfl ?_
  refine g_ldc2 X dX9_size15_6 kc_RX9_105 rfl ?_
  refine g_aload_n X dX9_size15_9 rfl rfl ?_
  refine g_iload_n X dX9_size15_10 rfl rfl ?_
  obtain ⟨r5, σ4, h3, h⟩ := bd_e h
  refine g_callVJ X [.int x1] (ok_HM_size14 X.inj h3) my_yX9_size14 mi_yX9_size14 ms_yX9_size14 ml_RX9_300 (by decide) rfl rfl (by decide) rfl dX9_size15_11 (Nat.le_of_ble_eq_true rfl) rfl rfl ?_
  refine g_lmul X dX9_size15_14 rfl ?_
  obtain ⟨rfl, rfl⟩ := rt_e h
  exact g_lret X Y dX9_size15_15

theorem dX9_mark22_0 : decode cX9_mark22 0 = .ok (.aload_n 0, 1) := by decide +kernel
theorem dX9_mark22_1 : decode cX9_mark22 1 = .ok (.bipush 22, 2) := by decide +kernel
theorem dX9_mark22_3 : decode cX9_mark22 3 = .ok (.invokevirtual 297, 3) := by decide +kernel
theorem dX9_mark22_6 : decode cX9_mark22 6 = .ok (.aload_n 0, 1) := by decide +kernel
theorem dX9_mark22_7 : decode cX9_mark22 7 = .ok (.iload_n 1, 1) := by decide +kernel
theorem dX9_mark22_8 : decode cX9_mark22 8 = .ok (.invokevirtual 303, 3) := by decide +kernel
theorem dX9_mark22_11 : decode cX9_mark22 11 = .ok (.lstore_n 2, 1) := by decide +kernel
theorem dX9_mark22_12 : decode cX9_mark22 12 = .ok (.lload_n 2, 1) := by decide +kernel
theorem dX9_mark22_13 : decode cX9_mark22 13 = .ok (.aload_n 0, 1) := by decide +kernel
theorem dX9_mark22_14 : decode cX9_mark22 14 = .ok (.iload_n 1, 1) := by decide +kernel
theorem dX9_mark22_15 : decode cX9_mark22 15 = .ok (.invokevirtual 308, 3) := by decide +kernel
theorem dX9_mark22_18 : decode cX9_mark22 18 = .ok (.ladd, 1) := by decide +kernel
theorem dX9_mark22_19 : decode cX9_mark22 19 = .ok (.lreturn, 1) := by decide +kernel
def f_HM_mark22 (x1 : Int32) (σ : St) : Option (Int64 × St) :=
  bv (f_HM_note 22 σ) fun σ2 => bd (f_HM_mark20 x1 σ2) fun r5 σ4 => bd (f_HM_size15 x1 σ4) fun r8 σ7 => some (r5 + r8, σ7)
set_option maxRecDepth 4000 in
theorem ok_HM_mark22 {w : wT} (hi : wInj w) {l : Launch} {x1 : Int32} {σ σ' : St} {r : Int64} (h : f_HM_mark22 x1 σ = some (r, σ')) : gM w l yX9_mark22 cX9_mark22 4 (some .long) 4 [.ref (w.1 9), .int x1] σ (some (.long r)) σ' := by
  unfold f_HM_mark22 at h
  refine gM_of hi (by decide) [some (.ref (w.1 9)), some (.int x1)] rfl (Nat.le_of_ble_eq_true rfl) (fun E hl X Y => ?_)
  refine g_aload_n X dX9_mark22_0 rfl rfl ?_
  refine g_bipush X kB_22 dX9_mark22_1 rfl ?_
  obtain ⟨σ2, h1, h⟩ := bv_e h
  refine g_callVV X [.int 22] (ok_HM_note X.inj h1) my_yX9_note mi_yX9_note ms_yX9_note ml_RX9_297 (by decide) rfl rfl (by decide) rfl dX9_mark22_3 (Nat.le_of_ble_eq_true rfl) rfl rfl ?_
  refine g_aload_n X dX9_mark22_6 rfl rfl ?_
  refine g_iload_n X dX9_mark22_7 rfl rfl ?_
  obtain ⟨r5, σ4, h3, h⟩ := bd_e h
  refine g_callVJ X [.int x1] (ok_HM_mark20 X.inj h3) my_yX9_mark20 mi_yX9_mark20 ms_yX9_mark20 ml_RX9_303 (by decide) rfl rfl (by decide) rfl dX9_mark22_8 (Nat.le_of_ble_eq_true rfl) rfl rfl ?_
  refine g_lstore_n X [some (.ref (w.1 9)), some (.int x1), some (.long r5), none] dX9_mark22_11 (Nat.le_of_ble_eq_true rfl) rfl rfl rfl ?_
  refine g_lload_n X dX9_mark22_12 rfl rfl ?_
  refine g_aload_n X dX9_mark22_13 rfl rfl ?_
  refine g_iload_n X dX9_mark22_14 rfl rfl ?_
  obtain ⟨r8, σ7, h6, h⟩ := bd_e h
  refine g_callVJ X [.int x1] (ok_HM_size15 X.inj h6) my_yX9_size15 mi_yX9_size15 ms_yX9_size15 ml_RX9_308 (by decide) rfl rfl (by decide) rfl dX9_mark22_15 (Nat.le_of_ble_eq_true rfl) rfl rfl ?_
  refine g_ladd X dX9_mark22_18 rfl ?_
  obtain ⟨rfl, rfl⟩ := rt_e h
  exact g_lret X Y dX9_mark22_19

theorem dX9_ask_0 : decode cX9_ask 0 = .ok (.aload_n 0, 1) := by decide +kernel
theorem dX9_ask_1 : decode cX9_ask 1 = .ok (.iload_n 1, 1) := by decide +kernel
theorem dX9_ask_2 : decode cX9_ask 2 = .ok (.invokevirtual 200, 3) := by decide +kernel
theorem dX9_ask_5 : decode cX9_ask 5 = .ok (.ifCond .eq 13, 3) := by decide +kernel
theorem dX9_ask_8 : decode cX9_ask 8 = .ok (.iload_n 2, 1) := by decide +kernel
theorem dX9_ask_9 : decode cX9_ask 9 = .ok (.i2l, 1) := by decide +kernel
theorem dX9_ask_10 : decode cX9_ask 10 = .ok (.lconst 0, 1) := by decide +kernel
theorem dX9_ask_11 : decode cX9_ask 11 = .ok (.lconst 1, 1) := by decide +kernel
theorem dX9_ask_12 : decode cX9_ask 12 = .ok (.invokestatic 91, 3) := by decide +kernel
theorem dX9_ask_15 : decode cX9_ask 15 = .ok (.ifCond .ne 7, 3) := by decide +kernel
theorem dX9_ask_18 : decode cX9_ask 18 = .ok (.ldc2_w 107, 3) := by decide +kernel
theorem dX9_ask_21 : decode cX9_ask 21 = .ok (.lreturn, 1) := by decide +kernel
theorem dX9_ask_22 : decode cX9_ask 22 = .ok (.aload_n 0, 1) := by decide +kernel
theorem dX9_ask_23 : decode cX9_ask 23 = .ok (.iconst 0, 1) := by decide +kernel
theorem dX9_ask_24 : decode cX9_ask 24 = .ok (.putfield 294, 3) := by decide +kernel
theorem dX9_ask_27 : decode cX9_ask 27 = .ok (.aload_n 0, 1) := by decide +kernel
theorem dX9_ask_28 : decode cX9_ask 28 = .ok (.iload_n 1, 1) := by decide +kernel
theorem dX9_ask_29 : decode cX9_ask 29 = .ok (.invokevirtual 289, 3) := by decide +kernel
theorem dX9_ask_32 : decode cX9_ask 32 = .ok (.istore_n 3, 1) := by decide +kernel
theorem dX9_ask_33 : decode cX9_ask 33 = .ok (.iload_n 2, 1) := by decide +kernel
theorem dX9_ask_34 : decode cX9_ask 34 = .ok (.ifCond .ne 61, 3) := by decide +kernel
theorem dX9_ask_37 : decode cX9_ask 37 = .ok (.iload_n 3, 1) := by decide +kernel
theorem dX9_ask_38 : decode cX9_ask 38 = .ok (.iconst 1, 1) := by decide +kernel
theorem dX9_ask_39 : decode cX9_ask 39 = .ok (.if_icmp .ne 11, 3) := by decide +kernel
theorem dX9_ask_42 : decode cX9_ask 42 = .ok (.aload_n 0, 1) := by decide +kernel
theorem dX9_ask_43 : decode cX9_ask 43 = .ok (.iload_n 1, 1) := by decide +kernel
theorem dX9_ask_44 : decode cX9_ask 44 = .ok (.invokevirtual 320, 3) := by decide +kernel
theorem dX9_ask_47 : decode cX9_ask 47 = .ok (.goto 47, 3) := by decide +kernel
theorem dX9_ask_50 : decode cX9_ask 50 = .ok (.iload_n 3, 1) := by decide +kernel
theorem dX9_ask_51 : decode cX9_ask 51 = .ok (.iconst 2, 1) := by decide +kernel
theorem dX9_ask_52 : decode cX9_ask 52 = .ok (.if_icmp .ne 11, 3) := by decide +kernel
theorem dX9_ask_55 : decode cX9_ask 55 = .ok (.aload_n 0, 1) := by decide +kernel
theorem dX9_ask_56 : decode cX9_ask 56 = .ok (.iload_n 1, 1) := by decide +kernel
theorem dX9_ask_57 : decode cX9_ask 57 = .ok (.invokevirtual 317, 3) := by decide +kernel
theorem dX9_ask_60 : decode cX9_ask 60 = .ok (.goto 34, 3) := by decide +kernel
theorem dX9_ask_63 : decode cX9_ask 63 = .ok (.iload_n 3, 1) := by decide +kernel
theorem dX9_ask_64 : decode cX9_ask 64 = .ok (.iconst 3, 1) := by decide +kernel
theorem dX9_ask_65 : decode cX9_ask 65 = .ok (.if_icmp .ne 11, 3) := by decide +kernel
theorem dX9_ask_68 : decode cX9_ask 68 = .ok (.aload_n 0, 1) := by decide +kernel
theorem dX9_ask_69 : decode cX9_ask 69 = .ok (.iload_n 1, 1) := by decide +kernel
theorem dX9_ask_70 : decode cX9_ask 70 = .ok (.invokevirtual 323, 3) := by decide +kernel
theorem dX9_ask_73 : decode cX9_ask 73 = .ok (.goto 21, 3) := by decide +kernel
theorem dX9_ask_76 : decode cX9_ask 76 = .ok (.iload_n 3, 1) := by decide +kernel
theorem dX9_ask_77 : decode cX9_ask 77 = .ok (.iconst 4, 1) := by decide +kernel
theorem dX9_ask_78 : decode cX9_ask 78 = .ok (.if_icmp .ne 11, 3) := by decide +kernel
theorem dX9_ask_81 : decode cX9_ask 81 = .ok (.aload_n 0, 1) := by decide +kernel
theorem dX9_ask_82 : decode cX9_ask 82 = .ok (.iload_n 1, 1) := by decide +kernel
theorem dX9_ask_83 : decode cX9_ask 83 = .ok (.invokevirtual 300, 3) := by decide +kernel
theorem dX9_ask_86 : decode cX9_ask 86 = .ok (.goto 8, 3) := by decide +kernel
theorem dX9_ask_89 : decode cX9_ask 89 = .ok (.aload_n 0, 1) := by decide +kernel
theorem dX9_ask_90 : decode cX9_ask 90 = .ok (.iload_n 1, 1) := by decide +kernel
theorem dX9_ask_91 : decode cX9_ask 91 = .ok (.invokevirtual 308, 3) := by decide +kernel
theorem dX9_ask_94 : decode cX9_ask 94 = .ok (.lreturn, 1) := by decide +kernel
theorem dX9_ask_95 : decode cX9_ask 95 = .ok (.iload_n 3, 1) := by decide +kernel
theorem dX9_ask_96 : decode cX9_ask 96 = .ok (.iconst 2, 1) := by decide +kernel
theorem dX9_ask_97 : decode cX9_ask 97 = .ok (.if_icmp .eq 8, 3) := by decide +kernel
theorem dX9_ask_100 : decode cX9_ask 100 = .ok (.iload_n 3, 1) := by decide +kernel
theorem dX9_ask_101 : decode cX9_ask 101 = .ok (.iconst 3, 1) := by decide +kernel
theorem dX9_ask_102 : decode cX9_ask 102 = .ok (.if_icmp .ne 11, 3) := by decide +kernel
theorem dX9_ask_105 : decode cX9_ask 105 = .ok (.aload_n 0, 1) := by decide +kernel
theorem dX9_ask_106 : decode cX9_ask 106 = .ok (.iload_n 1, 1) := by decide +kernel
theorem dX9_ask_107 : decode cX9_ask 107 = .ok (.invokevirtual 314, 3) := by decide +kernel
theorem dX9_ask_110 : decode cX9_ask 110 = .ok (.goto 21, 3) := by decide +kernel
theorem dX9_ask_113 : decode cX9_ask 113 = .ok (.iload_n 3, 1) := by decide +kernel
theorem dX9_ask_114 : decode cX9_ask 114 = .ok (.iconst 5, 1) := by decide +kernel
theorem dX9_ask_115 : decode cX9_ask 115 = .ok (.if_icmp .ne 11, 3) := by decide +kernel
theorem dX9_ask_118 : decode cX9_ask 118 = .ok (.aload_n 0, 1) := by decide +kernel
theorem dX9_ask_119 : decode cX9_ask 119 = .ok (.iload_n 1, 1) := by decide +kernel
theorem dX9_ask_120 : decode cX9_ask 120 = .ok (.invokevirtual 326, 3) := by decide +kernel
theorem dX9_ask_123 : decode cX9_ask 123 = .ok (.goto 8, 3) := by decide +kernel
theorem dX9_ask_126 : decode cX9_ask 126 = .ok (.aload_n 0, 1) := by decide +kernel
theorem dX9_ask_127 : decode cX9_ask 127 = .ok (.iload_n 1, 1) := by decide +kernel
theorem dX9_ask_128 : decode cX9_ask 128 = .ok (.invokevirtual 303, 3) := by decide +kernel
theorem dX9_ask_131 : decode cX9_ask 131 = .ok (.lreturn, 1) := by decide +kernel
def f_HM_ask_b105 (x1 : Int32) (σ : St) : Option (Int64 × St) :=
  bd (f_HM_mark21 x1 σ) fun r3 σ2 => some (r3, σ2)
set_option maxRecDepth 4000 in
theorem ok_HM_ask_b105 {E : gE} {w : wT} {σ' : St} {r : Int64} (X : gC E w cX9_ask 4 RX9 6) (Y : gQ E w (some .long) (some (.long r)) σ') {x1 : Int32} (σ : St) (h : f_HM_ask_b105 x1 σ = some (r, σ')) : gW E w 4 σ 105 [some (.ref (w.1 9)), some (.int x1)] [] := by
  unfold f_HM_ask_b105 at h
  refine g_aload_n X dX9_ask_105 rfl rfl ?_
  refine g_iload_n X dX9_ask_106 rfl rfl ?_
  obtain ⟨r3, σ2, h1, h⟩ := bd_e h
  refine g_callVJ X [.int x1] (ok_HM_mark21 X.inj h1) my_yX9_mark21 mi_yX9_mark21 ms_yX9_mark21 ml_RX9_314 (by decide) rfl rfl (by decide) rfl dX9_ask_107 (Nat.le_of_ble_eq_true rfl) rfl rfl ?_
  refine g_goto X dX9_ask_110 (tgt := 131) rfl ?_
  obtain ⟨rfl, rfl⟩ := rt_e h
  exact g_lret X Y dX9_ask_131

def f_HM_ask (x1 : Int32) (x2 : Int32) (σ : St) : Option (Int64 × St) :=
  bd (f_HM_isPlace x1 σ) fun r3 σ2 => if r3 = 0 then (some ((-9000000000000000001), σ2)) else (bd (f_HM_in x2.toInt64 0 1 σ2) fun r7 σ6 => if r7 = 0 then (some ((-9000000000000000001), σ6)) else (lE (stF σ6 45 0) fun σ9 => bd (f_HM_kindOf x1 σ9) fun r13 σ12 => if x2 = 0 then (if r13 = 1 then (bd (f_HM_size11 x1 σ12) fun r42 σ41 => some (r42, σ41)) else (if r13 = 2 then (bd (f_HM_size12 x1 σ12) fun r39 σ38 => some (r39, σ38)) else (if r13 = 3 then (bd (f_HM_size13 x1 σ12) fun r36 σ35 => some (r36, σ35)) else (if r13 = 4 then (bd (f_HM_size14 x1 σ12) fun r33 σ32 => some (r33, σ32)) else (bd (f_HM_size15 x1 σ12) fun r30 σ29 => some (r30, σ29)))))) else (if r13 = 2 then (f_HM_ask_b105 x1 σ12) else (if r13 = 3 then (f_HM_ask_b105 x1 σ12) else (if r13 = 5 then (bd (f_HM_mark22 x1 σ12) fun r23 σ22 => some (r23, σ22)) else (bd (f_HM_mark20 x1 σ12) fun r20 σ19 => some (r20, σ19)))))))
set_option maxRecDepth 4000 in
theorem ok_HM_ask {w : wT} (hi : wInj w) {l : Launch} {x1 : Int32} {x2 : Int32} {σ σ' : St} {r : Int64} (h : f_HM_ask x1 x2 σ = some (r, σ')) : gM w l yX9_ask cX9_ask 4 (some .long) 6 [.ref (w.1 9), .int x1, .int x2] σ (some (.long r)) σ' := by
  unfold f_HM_ask at h
  refine gM_of hi (by decide) [some (.ref (w.1 9)), some (.int x1), some (.int x2)] rfl (Nat.le_of_ble_eq_true rfl) (fun E hl X Y => ?_)
  refine g_aload_n X dX9_ask_0 rfl rfl ?_
  refine g_iload_n X dX9_ask_1 rfl rfl ?_
  obtain ⟨r3, σ2, h1, h⟩ := bd_e h
  refine g_callVI X [.int x1] (ok_HM_isPlace X.inj h1) my_yX9_isPlace mi_yX9_isPlace ms_yX9_isPlace ml_RX9_200 (by decide) rfl rfl (by decide) rfl dX9_ask_2 (Nat.le_of_ble_eq_true rfl) rfl rfl ?_
  refine g_if_eq X dX9_ask_5 (tgt := 18) rfl rfl (fun c4 => ?_) (fun c4 => ?_)
  · replace h := if_t c4 h
    refine g_ldc2 X dX9_ask_18 kc_RX9_107 rfl ?_
    obtain ⟨rfl, rfl⟩ := rt_e h
    exact g_lret X Y dX9_ask_21
  · replace h := if_f c4 h
    refine g_iload_n X dX9_ask_8 rfl rfl ?_
    refine g_i2l X dX9_ask_9 rfl ?_
    refine g_lconst X kL_0 dX9_ask_10 rfl ?_
    refine g_lconst X kL_1 dX9_ask_11 rfl ?_
    obtain ⟨r7, σ6, h5, h⟩ := bd_e h
    refine g_callSI X [.long x2.toInt64, .long 0, .long 1] (ok_HM_in X.inj h5) my_yX9_in mt_yX9_in ml_RX9_91 (by decide) rfl dX9_ask_12 (Nat.le_of_ble_eq_true rfl) rfl rfl ?_
    refine g_if_ne X dX9_ask_15 (tgt := 22) rfl rfl (fun c8 => ?_) (fun c8 => ?_)
    · replace h := if_f c8 h
      refine g_aload_n X dX9_ask_22 rfl rfl ?_
      refine g_iconst X kI_0 dX9_ask_23 rfl ?_
      refine gp_RX9_294 X dX9_ask_24 rfl (fun σ9 e10 => ?_)
      replace h := lE_c e10 h
      refine g_aload_n X dX9_ask_27 rfl rfl ?_
      refine g_iload_n X dX9_ask_28 rfl rfl ?_
      obtain ⟨r13, σ12, h11, h⟩ := bd_e h
      refine g_callVI X [.int x1] (ok_HM_kindOf X.inj h11) my_yX9_kindOf mi_yX9_kindOf ms_yX9_kindOf ml_RX9_289 (by decide) rfl rfl (by decide) rfl dX9_ask_29 (Nat.le_of_ble_eq_true rfl) rfl rfl ?_
      refine g_istore_n X [some (.ref (w.1 9)), some (.int x1), some (.int x2), some (.int r13)] dX9_ask_32 (Nat.le_of_ble_eq_true rfl) rfl rfl rfl ?_
      refine g_iload_n X dX9_ask_33 rfl rfl ?_
      refine g_if_ne X dX9_ask_34 (tgt := 95) rfl rfl (fun c14 => ?_) (fun c14 => ?_)
      · replace h := if_f c14 h
        refine g_iload_n X dX9_ask_95 rfl rfl ?_
        refine g_iconst X kI_2 dX9_ask_96 rfl ?_
        refine g_icmp_eq X dX9_ask_97 (tgt := 105) rfl rfl (fun c15 => ?_) (fun c15 => ?_)
        · replace h := if_t c15 h
          exact g_le (lle_s (lle_s (lle_0))) (ok_HM_ask_b105 X Y σ12 h)
        · replace h := if_f c15 h
          refine g_iload_n X dX9_ask_100 rfl rfl ?_
          refine g_iconst X kI_3 dX9_ask_101 rfl ?_
          refine g_icmp_ne X dX9_ask_102 (tgt := 113) rfl rfl (fun c16 => ?_) (fun c16 => ?_)
          · replace h := if_f c16 h
            refine g_iload_n X dX9_ask_113 rfl rfl ?_
            refine g_iconst X kI_5 dX9_ask_114 rfl ?_
            refine g_icmp_ne X dX9_ask_115 (tgt := 126) rfl rfl (fun c17 => ?_) (fun c17 => ?_)
            · replace h := if_f c17 h
              refine g_aload_n X dX9_ask_126 rfl rfl ?_
              refine g_iload_n X dX9_ask_127 rfl rfl ?_
              obtain ⟨r20, σ19, h18, h⟩ := bd_e h
              refine g_callVJ X [.int x1] (ok_HM_mark20 X.inj h18) my_yX9_mark20 mi_yX9_mark20 ms_yX9_mark20 ml_RX9_303 (by decide) rfl rfl (by decide) rfl dX9_ask_128 (Nat.le_of_ble_eq_true rfl) rfl rfl ?_
              obtain ⟨rfl, rfl⟩ := rt_e h
              exact g_lret X Y dX9_ask_131
            · replace h := if_t c17 h
              refine g_aload_n X dX9_ask_118 rfl rfl ?_
              refine g_iload_n X dX9_ask_119 rfl rfl ?_
              obtain ⟨r23, σ22, h21, h⟩ := bd_e h
              refine g_callVJ X [.int x1] (ok_HM_mark22 X.inj h21) my_yX9_mark22 mi_yX9_mark22 ms_yX9_mark22 ml_RX9_326 (by decide) rfl rfl (by decide) rfl dX9_ask_120 (Nat.le_of_ble_eq_true rfl) rfl rfl ?_
              refine g_goto X dX9_ask_123 (tgt := 131) rfl ?_
              obtain ⟨rfl, rfl⟩ := rt_e h
              exact g_lret X Y dX9_ask_131
          · replace h := if_t c16 h
            exact g_le (lle_s (lle_s (lle_0))) (ok_HM_ask_b105 X Y σ12 h)
      · replace h := if_t c14 h
        refine g_iload_n X dX9_ask_37 rfl rfl ?_
        refine g_iconst X kI_1 dX9_ask_38 rfl ?_
        refine g_icmp_ne X dX9_ask_39 (tgt := 50) rfl rfl (fun c24 => ?_) (fun c24 => ?_)
        · replace h := if_f c24 h
          refine g_iload_n X dX9_ask_50 rfl rfl ?_
          refine g_iconst X kI_2 dX9_ask_51 rfl ?_
          refine g_icmp_ne X dX9_ask_52 (tgt := 63) rfl rfl (fun c25 => ?_) (fun c25 => ?_)
          · replace h := if_f c25 h
            refine g_iload_n X dX9_ask_63 rfl rfl ?_
            refine g_iconst X kI_3 dX9_ask_64 rfl ?_
            refine g_icmp_ne X dX9_ask_65 (tgt := 76) rfl rfl (fun c26 => ?_) (fun c26 => ?_)
            · replace h := if_f c26 h
              refine g_iload_n X dX9_ask_76 rfl rfl ?_
              refine g_iconst X kI_4 dX9_ask_77 rfl ?_
              refine g_icmp_ne X dX9_ask_78 (tgt := 89) rfl rfl (fun c27 => ?_) (fun c27 => ?_)
              · replace h := if_f c27 h
                refine g_aload_n X dX9_ask_89 rfl rfl ?_
                refine g_iload_n X dX9_ask_90 rfl rfl ?_
                obtain ⟨r30, σ29, h28, h⟩ := bd_e h
                refine g_callVJ X [.int x1] (ok_HM_size15 X.inj h28) my_yX9_size15 mi_yX9_size15 ms_yX9_size15 ml_RX9_308 (by decide) rfl rfl (by decide) rfl dX9_ask_91 (Nat.le_of_ble_eq_true rfl) rfl rfl ?_
                obtain ⟨rfl, rfl⟩ := rt_e h
                exact g_lret X Y dX9_ask_94
              · replace h := if_t c27 h
                refine g_aload_n X dX9_ask_81 rfl rfl ?_
                refine g_iload_n X dX9_ask_82 rfl rfl ?_
                obtain ⟨r33, σ32, h31, h⟩ := bd_e h
                refine g_callVJ X [.int x1] (ok_HM_size14 X.inj h31) my_yX9_size14 mi_yX9_size14 ms_yX9_size14 ml_RX9_300 (by decide) rfl rfl (by decide) rfl dX9_ask_83 (Nat.le_of_ble_eq_true rfl) rfl rfl ?_
                refine g_goto X dX9_ask_86 (tgt := 94) rfl ?_
                obtain ⟨rfl, rfl⟩ := rt_e h
                exact g_lret X Y dX9_ask_94
            · replace h := if_t c26 h
              refine g_aload_n X dX9_ask_68 rfl rfl ?_
              refine g_iload_n X dX9_ask_69 rfl rfl ?_
              obtain ⟨r36, σ35, h34, h⟩ := bd_e h
              refine g_callVJ X [.int x1] (ok_HM_size13 X.inj h34) my_yX9_size13 mi_yX9_size13 ms_yX9_size13 ml_RX9_323 (by decide) rfl rfl (by decide) rfl dX9_ask_70 (Nat.le_of_ble_eq_true rfl) rfl rfl ?_
              refine g_goto X dX9_ask_73 (tgt := 94) rfl ?_
              obtain ⟨rfl, rfl⟩ := rt_e h
              exact g_lret X Y dX9_ask_94
          · replace h := if_t c25 h
            refine g_aload_n X dX9_ask_55 rfl rfl ?_
            refine g_iload_n X dX9_ask_56 rfl rfl ?_
            obtain ⟨r39, σ38, h37, h⟩ := bd_e h
            refine g_callVJ X [.int x1] (ok_HM_size12 X.inj h37) my_yX9_size12 mi_yX9_size12 ms_yX9_size12 ml_RX9_317 (by decide) rfl rfl (by decide) rfl dX9_ask_57 (Nat.le_of_ble_eq_true rfl) rfl rfl ?_
            refine g_goto X dX9_ask_60 (tgt := 94) rfl ?_
            obtain ⟨rfl, rfl⟩ := rt_e h
            exact g_lret X Y dX9_ask_94
        · replace h := if_t c24 h
          refine g_aload_n X dX9_ask_42 rfl rfl ?_
          refine g_iload_n X dX9_ask_43 rfl rfl ?_
          obtain ⟨r42, σ41, h40, h⟩ := bd_e h
          refine g_callVJ X [.int x1] (ok_HM_size11 X.inj h40) my_yX9_size11 mi_yX9_size11 ms_yX9_size11 ml_RX9_320 (by decide) rfl rfl (by decide) rfl dX9_ask_44 (Nat.le_of_ble_eq_true rfl) rfl rfl ?_
          refine g_goto X dX9_ask_47 (tgt := 94) rfl ?_
          obtain ⟨rfl, rfl⟩ := rt_e h
          exact g_lret X Y dX9_ask_94
    · replace h := if_t c8 h
      refine g_ldc2 X dX9_ask_18 kc_RX9_107 rfl ?_
      obtain ⟨rfl, rfl⟩ := rt_e h
      exact g_lret X Y dX9_ask_21

theorem dX9_trace_0 : decode cX9_trace 0 = .ok (.iload_n 1, 1) := by decide +kernel
theorem dX9_trace_1 : decode cX9_trace 1 = .ok (.i2l, 1) := by decide +kernel
theorem dX9_trace_2 : decode cX9_trace 2 = .ok (.lconst 0, 1) := by decide +kernel
theorem dX9_trace_3 : decode cX9_trace 3 = .ok (.aload_n 0, 1) := by decide +kernel
theorem dX9_trace_4 : decode cX9_trace 4 = .ok (.getfield 294, 3) := by decide +kernel
theorem dX9_trace_7 : decode cX9_trace 7 = .ok (.iconst 1, 1) := by decide +kernel
theorem dX9_trace_8 : decode cX9_trace 8 = .ok (.isub, 1) := by decide +kernel
theorem dX9_trace_9 : decode cX9_trace 9 = .ok (.i2l, 1) := by decide +kernel
theorem dX9_trace_10 : decode cX9_trace 10 = .ok (.invokestatic 91, 3) := by decide +kernel
theorem dX9_trace_13 : decode cX9_trace 13 = .ok (.ifCond .eq 12, 3) := by decide +kernel
theorem dX9_trace_16 : decode cX9_trace 16 = .ok (.aload_n 0, 1) := by decide +kernel
theorem dX9_trace_17 : decode cX9_trace 17 = .ok (.getfield 61, 3) := by decide +kernel
theorem dX9_trace_20 : decode cX9_trace 20 = .ok (.iload_n 1, 1) := by decide +kernel
theorem dX9_trace_21 : decode cX9_trace 21 = .ok (.iaload, 1) := by decide +kernel
theorem dX9_trace_22 : decode cX9_trace 22 = .ok (.goto 5, 3) := by decide +kernel
theorem dX9_trace_25 : decode cX9_trace 25 = .ok (.ldc 163, 2) := by decide +kernel
theorem dX9_trace_27 : decode cX9_trace 27 = .ok (.ireturn, 1) := by decide +kernel
def f_HM_trace (x1 : Int32) (σ : St) : Option (Int32 × St) :=
  bd (f_HM_in x1.toInt64 0 (((rF σ 45) - 1).toInt64) σ) fun r3 σ2 => if r3 = 0 then (some ((-1000000), σ2)) else (ck (ib x1 16) <| some (rI σ2 80 x1, σ2))
set_option maxRecDepth 4000 in
theorem ok_HM_trace {w : wT} (hi : wInj w) {l : Launch} {x1 : Int32} {σ σ' : St} {r : Int32} (h : f_HM_trace x1 σ = some (r, σ')) : gM w l yX9_trace cX9_trace 2 (some .int) 2 [.ref (w.1 9), .int x1] σ (some (.int r)) σ' := by
  unfold f_HM_trace at h
  refine gM_of hi (by decide) [some (.ref (w.1 9)), some (.int x1)] rfl (Nat.le_of_ble_eq_true rfl) (fun E hl X Y => ?_)
  refine g_iload_n X dX9_trace_0 rfl rfl ?_
  refine g_i2l X dX9_trace_1 rfl ?_
  refine g_lconst X kL_0 dX9_trace_2 rfl ?_
  refine g_aload_n X dX9_trace_3 rfl rfl ?_
  refine gf_RX9_294 X dX9_trace_4 rfl ?_
  refine g_iconst X kI_1 dX9_trace_7 rfl ?_
  refine g_isub X dX9_trace_8 rfl ?_
  refine g_i2l X dX9_trace_9 rfl ?_
  obtain ⟨r3, σ2, h1, h⟩ := bd_e h
  refine g_callSI X [.long x1.toInt64, .long 0, .long (((rF σ 45) - 1).toInt64)] (ok_HM_in X.inj h1) my_yX9_in mt_yX9_in ml_RX9_91 (by decide) rfl dX9_trace_10 (Nat.le_of_ble_eq_true rfl) rfl rfl ?_
  refine g_if_eq X dX9_trace_13 (tgt := 25) rfl rfl (fun c4 => ?_) (fun c4 => ?_)
  · replace h := if_t c4 h
    refine g_ldc X dX9_trace_25 kc_RX9_163 rfl ?_
    obtain ⟨rfl, rfl⟩ := rt_e h
    exact g_iret X Y dX9_trace_27
  · replace h := if_f c4 h
    refine g_aload_n X dX9_trace_16 rfl rfl ?_
    refine gf_RX9_61 X dX9_trace_17 rfl ?_
    refine g_iload_n X dX9_trace_20 rfl rfl ?_
    obtain ⟨c5, h⟩ := ck_e h
    refine g_iald X ar_80.1 ar_80.2.1 ar_80.2.2 (ib_e c5) dX9_trace_21 rfl ?_
    refine g_goto X dX9_trace_22 (tgt := 27) rfl ?_
    obtain ⟨rfl, rfl⟩ := rt_e h
    exact g_iret X Y dX9_trace_27

theorem dX9_count_0 : decode cX9_count 0 = .ok (.iconst 0, 1) := by decide +kernel
theorem dX9_count_1 : decode cX9_count 1 = .ok (.istore_n 2, 1) := by decide +kernel
theorem dX9_count_2 : decode cX9_count 2 = .ok (.iload_n 1, 1) := by decide +kernel
theorem dX9_count_3 : decode cX9_count 3 = .ok (.tableswitch 200 0 6 #[41, 75, 81, 117, 154, 188, 194], 41) := by decide +kernel
theorem dX9_count_44 : decode cX9_count 44 = .ok (.iconst 0, 1) := by decide +kernel
theorem dX9_count_45 : decode cX9_count 45 = .ok (.istore_n 3, 1) := by decide +kernel
theorem dX9_count_46 : decode cX9_count 46 = .ok (.iload_n 3, 1) := by decide +kernel
theorem dX9_count_47 : decode cX9_count 47 = .ok (.bipush 8, 2) := by decide +kernel
theorem dX9_count_49 : decode cX9_count 49 = .ok (.if_icmp .ge 26, 3) := by decide +kernel
theorem dX9_count_52 : decode cX9_count 52 = .ok (.iload_n 2, 1) := by decide +kernel
theorem dX9_count_53 : decode cX9_count 53 = .ok (.aload_n 0, 1) := by decide +kernel
theorem dX9_count_54 : decode cX9_count 54 = .ok (.getfield 7, 3) := by decide +kernel
theorem dX9_count_57 : decode cX9_count 57 = .ok (.iload_n 3, 1) := by decide +kernel
theorem dX9_count_58 : decode cX9_count 58 = .ok (.iaload, 1) := by decide +kernel
theorem dX9_count_59 : decode cX9_count 59 = .ok (.ifCond .lt 7, 3) := by decide +kernel
theorem dX9_count_62 : decode cX9_count 62 = .ok (.iconst 1, 1) := by decide +kernel
theorem dX9_count_63 : decode cX9_count 63 = .ok (.goto 4, 3) := by decide +kernel
theorem dX9_count_66 : decode cX9_count 66 = .ok (.iconst 0, 1) := by decide +kernel
theorem dX9_count_67 : decode cX9_count 67 = .ok (.iadd, 1) := by decide +kernel
theorem dX9_count_68 : decode cX9_count 68 = .ok (.istore_n 2, 1) := by decide +kernel
theorem dX9_count_69 : decode cX9_count 69 = .ok (.iinc 3 1, 3) := by decide +kernel
theorem dX9_count_72 : decode cX9_count 72 = .ok (.goto (-26), 3) := by decide +kernel
theorem dX9_count_75 : decode cX9_count 75 = .ok (.iload_n 2, 1) := by decide +kernel
theorem dX9_count_76 : decode cX9_count 76 = .ok (.i2l, 1) := by decide +kernel
theorem dX9_count_77 : decode cX9_count 77 = .ok (.lreturn, 1) := by decide +kernel
theorem dX9_count_78 : decode cX9_count 78 = .ok (.aload_n 0, 1) := by decide +kernel
theorem dX9_count_79 : decode cX9_count 79 = .ok (.getfield 192, 3) := by decide +kernel
theorem dX9_count_82 : decode cX9_count 82 = .ok (.i2l, 1) := by decide +kernel
theorem dX9_count_83 : decode cX9_count 83 = .ok (.lreturn, 1) := by decide +kernel
theorem dX9_count_84 : decode cX9_count 84 = .ok (.iconst 0, 1) := by decide +kernel
theorem dX9_count_85 : decode cX9_count 85 = .ok (.istore_n 3, 1) := by decide +kernel
theorem dX9_count_86 : decode cX9_count 86 = .ok (.iload_n 3, 1) := by decide +kernel
theorem dX9_count_87 : decode cX9_count 87 = .ok (.aload_n 0, 1) := by decide +kernel
theorem dX9_count_88 : decode cX9_count 88 = .ok (.getfield 192, 3) := by decide +kernel
theorem dX9_count_91 : decode cX9_count 91 = .ok (.if_icmp .ge 26, 3) := by decide +kernel
theorem dX9_count_94 : decode cX9_count 94 = .ok (.iload_n 2, 1) := by decide +kernel
theorem dX9_count_95 : decode cX9_count 95 = .ok (.aload_n 0, 1) := by decide +kernel
theorem dX9_count_96 : decode cX9_count 96 = .ok (.getfield 22, 3) := by decide +kernel
theorem dX9_count_99 : decode cX9_count 99 = .ok (.iload_n 3, 1) := by decide +kernel
theorem dX9_count_100 : decode cX9_count 100 = .ok (.iaload, 1) := by decide +kernel
theorem dX9_count_101 : decode cX9_count 101 = .ok (.ifCond .ne 7, 3) := by decide +kernel
theorem dX9_count_104 : decode cX9_count 104 = .ok (.iconst 1, 1) := by decide +kernel
theorem dX9_count_105 : decode cX9_count 105 = .ok (.goto 4, 3) := by decide +kernel
theorem dX9_count_108 : decode cX9_count 108 = .ok (.iconst 0, 1) := by decide +kernel
theorem dX9_count_109 : decode cX9_count 109 = .ok (.iadd, 1) := by decide +kernel
theorem dX9_count_110 : decode cX9_count 110 = .ok (.istore_n 2, 1) := by decide +kernel
theorem dX9_count_111 : decode cX9_count 111 = .ok (.iinc 3 1, 3) := by decide +kernel
theorem dX9_count_114 : decode cX9_count 114 = .ok (.goto (-28), 3) := by decide +kernel
theorem dX9_count_117 : decode cX9_count 117 = .ok (.iload_n 2, 1) := by decide +kernel
theorem dX9_count_118 : decode cX9_count 118 = .ok (.i2l, 1) := by decide +kernel
theorem dX9_count_119 : decode cX9_count 119 = .ok (.lreturn, 1) := by decide +kernel
theorem dX9_count_120 : decode cX9_count 120 = .ok (.iconst 0, 1) := by decide +kernel
theorem dX9_count_121 : decode cX9_count 121 = .ok (.istore_n 3, 1) := by decide +kernel
theorem dX9_count_122 : decode cX9_count 122 = .ok (.iload_n 3, 1) := by decide +kernel
theorem dX9_count_123 : decode cX9_count 123 = .ok (.aload_n 0, 1) := by decide +kernel
theorem dX9_count_124 : decode cX9_count 124 = .ok (.getfield 192, 3) := by decide +kernel
theorem dX9_count_127 : decode cX9_count 127 = .ok (.if_icmp .ge 27, 3) := by decide +kernel
theorem dX9_count_130 : decode cX9_count 130 = .ok (.iload_n 2, 1) := by decide +kernel
theorem dX9_count_131 : decode cX9_count 131 = .ok (.aload_n 0, 1) := by decide +kernel
theorem dX9_count_132 : decode cX9_count 132 = .ok (.getfield 22, 3) := by decide +kernel
theorem dX9_count_135 : decode cX9_count 135 = .ok (.iload_n 3, 1) := by decide +kernel
theorem dX9_count_136 : decode cX9_count 136 = .ok (.iaload, 1) := by decide +kernel
theorem dX9_count_137 : decode cX9_count 137 = .ok (.iconst 1, 1) := by decide +kernel
theorem dX9_count_138 : decode cX9_count 138 = .ok (.if_icmp .ne 7, 3) := by decide +kernel
theorem dX9_count_141 : decode cX9_count 141 = .ok (.iconst 1, 1) := by decide +kernel
theorem dX9_count_142 : decode cX9_count 142 = .ok (.goto 4, 3) := by decide +kernel
theorem dX9_count_145 : decode cX9_count 145 = .ok (.iconst 0, 1) := by decide +kernel
theorem dX9_count_146 : decode cX9_count 146 = .ok (.iadd, 1) := by decide +kernel
theorem dX9_count_147 : decode cX9_count 147 = .ok (.istore_n 2, 1) := by decide +kernel
theorem dX9_count_148 : decode cX9_count 148 = .ok (.iinc 3 1, 3) := by decide +kernel
theorem dX9_count_151 : decode cX9_count 151 = .ok (.goto (-29), 3) := by decide +kernel
theorem dX9_count_154 : decode cX9_count 154 = .ok (.iload_n 2, 1) := by decide +kernel
theorem dX9_count_155 : decode cX9_count 155 = .ok (.i2l, 1) := by decide +kernel
theorem dX9_count_156 : decode cX9_count 156 = .ok (.lreturn, 1) := by decide +kernel
theorem dX9_count_157 : decode cX9_count 157 = .ok (.iconst 0, 1) := by decide +kernel
theorem dX9_count_158 : decode cX9_count 158 = .ok (.istore_n 3, 1) := by decide +kernel
theorem dX9_count_159 : decode cX9_count 159 = .ok (.iload_n 3, 1) := by decide +kernel
theorem dX9_count_160 : decode cX9_count 160 = .ok (.bipush 10, 2) := by decide +kernel
theorem dX9_count_162 : decode cX9_count 162 = .ok (.if_icmp .ge 26, 3) := by decide +kernel
theorem dX9_count_165 : decode cX9_count 165 = .ok (.iload_n 2, 1) := by decide +kernel
theorem dX9_count_166 : decode cX9_count 166 = .ok (.aload_n 0, 1) := by decide +kernel
theorem dX9_count_167 : decode cX9_count 167 = .ok (.getfield 49, 3) := by decide +kernel
theorem dX9_count_170 : decode cX9_count 170 = .ok (.iload_n 3, 1) := by decide +kernel
theorem dX9_count_171 : decode cX9_count 171 = .ok (.iaload, 1) := by decide +kernel
theorem dX9_count_172 : decode cX9_count 172 = .ok (.ifCond .lt 7, 3) := by decide +kernel
theorem dX9_count_175 : decode cX9_count 175 = .ok (.iconst 1, 1) := by decide +kernel
theorem dX9_count_176 : decode cX9_count 176 = .ok (.goto 4, 3) := by decide +kernel
theorem dX9_count_179 : decode cX9_count 179 = .ok (.iconst 0, 1) := by decide +kernel
theorem dX9_count_180 : decode cX9_count 180 = .ok (.iadd, 1) := by decide +kernel
theorem dX9_count_181 : decode cX9_count 181 = .ok (.istore_n 2, 1) := by decide +kernel
theorem dX9_count_182 : decode cX9_count 182 = .ok (.iinc 3 1, 3) := by decide +kernel
theorem dX9_count_185 : decode cX9_count 185 = .ok (.goto (-26), 3) := by decide +kernel
theorem dX9_count_188 : decode cX9_count 188 = .ok (.iload_n 2, 1) := by decide +kernel
theorem dX9_count_189 : decode cX9_count 189 = .ok (.i2l, 1) := by decide +kernel
theorem dX9_count_190 : decode cX9_count 190 = .ok (.lreturn, 1) := by decide +kernel
theorem dX9_count_191 : decode cX9_count 191 = .ok (.aload_n 0, 1) := by decide +kernel
theorem dX9_count_192 : decode cX9_count 192 = .ok (.getfield 195, 3) := by decide +kernel
theorem dX9_count_195 : decode cX9_count 195 = .ok (.i2l, 1) := by decide +kernel
theorem dX9_count_196 : decode cX9_count 196 = .ok (.lreturn, 1) := by decide +kernel
theorem dX9_count_197 : decode cX9_count 197 = .ok (.aload_n 0, 1) := by decide +kernel
theorem dX9_count_198 : decode cX9_count 198 = .ok (.getfield 119, 3) := by decide +kernel
theorem dX9_count_201 : decode cX9_count 201 = .ok (.i2l, 1) := by decide +kernel
theorem dX9_count_202 : decode cX9_count 202 = .ok (.lreturn, 1) := by decide +kernel
theorem dX9_count_203 : decode cX9_count 203 = .ok (.ldc2_w 107, 3) := by decide +kernel
theorem dX9_count_206 : decode cX9_count 206 = .ok (.lreturn, 1) := by decide +kernel
def f_HM_count_b180 (k159 : Int32 → Int32 → St → Option (Int64 × St)) (x3 : Int32) (xs0 : Int32) (xs1 : Int32) (σ : St) : Option (Int64 × St) :=
  k159 (xs0 + xs1) (x3 + 1) σ
set_option maxRecDepth 4000 in
theorem ok_HM_count_b180 {E : gE} {w : wT} {σ' : St} {r : Int64} (X : gC E w cX9_count 4 RX9 1) (Y : gQ E w (some .long) (some (.long r)) σ') {k159 : Int32 → Int32 → St → Option (Int64 × St)} (hk159 : ∀ (x2 : Int32) (x3 : Int32) (σ : St), k159 x2 x3 σ = some (r, σ') → gW E w 4 σ 159 [some (.ref (w.1 9)), none, some (.int x2), some (.int x3)] []) {x3 : Int32} {xs0 : Int32} {xs1 : Int32} (σ : St) (h : f_HM_count_b180 k159 x3 xs0 xs1 σ = some (r, σ')) : gW E w 4 σ 180 [some (.ref (w.1 9)), none, none, some (.int x3)] [.int xs1, .int xs0] := by
  unfold f_HM_count_b180 at h
  refine g_iadd X dX9_count_180 rfl ?_
  refine g_istore_n X [some (.ref (w.1 9)), none, some (.int (xs0 + xs1)), some (.int x3)] dX9_count_181 (Nat.le_of_ble_eq_true rfl) rfl rfl rfl ?_
  refine g_iinc X [some (.ref (w.1 9)), none, some (.int (xs0 + xs1)), some (.int (x3 + 1))] dX9_count_182 rfl (ii_1 x3) (Nat.le_of_ble_eq_true rfl) rfl rfl rfl ?_
  refine g_goto X dX9_count_185 (tgt := 159) rfl ?_
  exact hk159 (xs0 + xs1) (x3 + 1) σ h

def f_HM_count_b159 (k159 : Int32 → Int32 → St → Option (Int64 × St)) (x2 : Int32) (x3 : Int32) (σ : St) : Option (Int64 × St) :=
  if (10 : Int32) ≤ x3 then (some (x2.toInt64, σ)) else (ck (ib x3 20) <| if (rI σ 76 x3) < 0 then (f_HM_count_b180 k159 x3 x2 0 σ) else (f_HM_count_b180 k159 x3 x2 1 σ))
set_option maxRecDepth 4000 in
theorem ok_HM_count_b159 {E : gE} {w : wT} {σ' : St} {r : Int64} (X : gC E w cX9_count 4 RX9 1) (Y : gQ E w (some .long) (some (.long r)) σ') {k159 : Int32 → Int32 → St → Option (Int64 × St)} (hk159 : ∀ (x2 : Int32) (x3 : Int32) (σ : St), k159 x2 x3 σ = some (r, σ') → gW E w 4 σ 159 [some (.ref (w.1 9)), none, some (.int x2), some (.int x3)] []) {x2 : Int32} {x3 : Int32} (σ : St) (h : f_HM_count_b159 k159 x2 x3 σ = some (r, σ')) : gW E w 4 σ 159 [some (.ref (w.1 9)), none, some (.int x2), some (.int x3)] [] := by
  unfold f_HM_count_b159 at h
  refine g_iload_n X dX9_count_159 rfl rfl ?_
  refine g_bipush X kB_10 dX9_count_160 rfl ?_
  refine g_icmp_ge X dX9_count_162 (tgt := 188) rfl rfl (fun c1 => ?_) (fun c1 => ?_)
  · replace h := if_t c1 h
    refine g_iload_n X dX9_count_188 rfl rfl ?_
    refine g_i2l X dX9_count_189 rfl ?_
    obtain ⟨rfl, rfl⟩ := rt_e h
    exact g_lret X Y dX9_count_190
  · replace h := if_f c1 h
    refine g_iload_n X dX9_count_165 rfl rfl ?_
    refine g_aload_n X dX9_count_166 rfl rfl ?_
    refine gf_RX9_49 X dX9_count_167 rfl ?_
    refine g_iload_n X dX9_count_170 rfl rfl ?_
    obtain ⟨c2, h⟩ := ck_e h
    refine g_iald X ar_76.1 ar_76.2.1 ar_76.2.2 (ib_e c2) dX9_count_171 rfl ?_
    refine g_if_lt X dX9_count_172 (tgt := 179) rfl rfl (fun c3 => ?_) (fun c3 => ?_)
    · replace h := if_t c3 h
      refine g_iconst X kI_0 dX9_count_179 rfl ?_
      exact g_le (lle_s (lle_k (lle_k (lle_s (lle_0))))) (ok_HM_count_b180 X Y hk159 σ h)
    · replace h := if_f c3 h
      refine g_iconst X kI_1 dX9_count_175 rfl ?_
      refine g_goto X dX9_count_176 (tgt := 180) rfl ?_
      exact g_le (lle_s (lle_k (lle_k (lle_s (lle_0))))) (ok_HM_count_b180 X Y hk159 σ h)
def f_HM_count_l159 : Int32 → Int32 → St → Option (Int64 × St) := lp (fun _ _ _ => none) (f_HM_count_b159) FU
theorem ok_HM_count_l159 {E : gE} {w : wT} {σ' : St} {r : Int64} (X : gC E w cX9_count 4 RX9 1) (Y : gQ E w (some .long) (some (.long r)) σ') {x2 : Int32} {x3 : Int32} (σ : St) (h : f_HM_count_l159 x2 x3 σ = some (r, σ')) : gW E w 4 σ 159 [some (.ref (w.1 9)), none, some (.int x2), some (.int x3)] [] :=
  lp_ind (P := fun (k : Int32 → Int32 → St → Option (Int64 × St)) => ∀ (x2 : Int32) (x3 : Int32) (σ : St), k x2 x3 σ = some (r, σ') → gW E w 4 σ 159 [some (.ref (w.1 9)), none, some (.int x2), some (.int x3)] []) (fun _ _ _ hh => nn hh) (fun k hk x2 x3 σ  hh => ok_HM_count_b159 X Y hk σ hh) FU x2 x3 σ  h

def f_HM_count_b146 (k122 : Int32 → Int32 → St → Option (Int64 × St)) (x3 : Int32) (xs0 : Int32) (xs1 : Int32) (σ : St) : Option (Int64 × St) :=
  k122 (xs0 + xs1) (x3 + 1) σ
set_option maxRecDepth 4000 in
theorem ok_HM_count_b146 {E : gE} {w : wT} {σ' : St} {r : Int64} (X : gC E w cX9_count 4 RX9 1) (Y : gQ E w (some .long) (some (.long r)) σ') {k122 : Int32 → Int32 → St → Option (Int64 × St)} (hk122 : ∀ (x2 : Int32) (x3 : Int32) (σ : St), k122 x2 x3 σ = some (r, σ') → gW E w 4 σ 122 [some (.ref (w.1 9)), none, some (.int x2), some (.int x3)] []) {x3 : Int32} {xs0 : Int32} {xs1 : Int32} (σ : St) (h : f_HM_count_b146 k122 x3 xs0 xs1 σ = some (r, σ')) : gW E w 4 σ 146 [some (.ref (w.1 9)), none, none, some (.int x3)] [.int xs1, .int xs0] := by
  unfold f_HM_count_b146 at h
  refine g_iadd X dX9_count_146 rfl ?_
  refine g_istore_n X [some (.ref (w.1 9)), none, some (.int (xs0 + xs1)), some (.int x3)] dX9_count_147 (Nat.le_of_ble_eq_true rfl) rfl rfl rfl ?_
  refine g_iinc X [some (.ref (w.1 9)), none, some (.int (xs0 + xs1)), some (.int (x3 + 1))] dX9_count_148 rfl (ii_1 x3) (Nat.le_of_ble_eq_true rfl) rfl rfl rfl ?_
  refine g_goto X dX9_count_151 (tgt := 122) rfl ?_
  exact hk122 (xs0 + xs1) (x3 + 1) σ h

def f_HM_count_b122 (k122 : Int32 → Int32 → St → Option (Int64 × St)) (x2 : Int32) (x3 : Int32) (σ : St) : Option (Int64 × St) :=
  if (rF σ 43) ≤ x3 then (some (x2.toInt64, σ)) else (ck (ib x3 120) <| if (rI σ 67 x3) = 1 then (f_HM_count_b146 k122 x3 x2 1 σ) else (f_HM_count_b146 k122 x3 x2 0 σ))
set_option maxRecDepth 4000 in
theorem ok_HM_count_b122 {E : gE} {w : wT} {σ' : St} {r : Int64} (X : gC E w cX9_count 4 RX9 1) (Y : gQ E w (some .long) (some (.long r)) σ') {k122 : Int32 → Int32 → St → Option (Int64 × St)} (hk122 : ∀ (x2 : Int32) (x3 : Int32) (σ : St), k122 x2 x3 σ = some (r, σ') → gW E w 4 σ 122 [some (.ref (w.1 9)), none, some (.int x2), some (.int x3)] []) {x2 : Int32} {x3 : Int32} (σ : St) (h : f_HM_count_b122 k122 x2 x3 σ = some (r, σ')) : gW E w 4 σ 122 [some (.ref (w.1 9)), none, some (.int x2), some (.int x3)] [] := by
  unfold f_HM_count_b122 at h
  refine g_iload_n X dX9_count_122 rfl rfl ?_
  refine g_aload_n X dX9_count_123 rfl rfl ?_
  refine gf_RX9_192 X dX9_count_124 rfl ?_
  refine g_icmp_ge X dX9_count_127 (tgt := 154) rfl rfl (fun c1 => ?_) (fun c1 => ?_)
  · replace h := if_t c1 h
    refine g_iload_n X dX9_count_154 rfl rfl ?_
    refine g_i2l X dX9_count_155 rfl ?_
    obtain ⟨rfl, rfl⟩ := rt_e h
    exact g_lret X Y dX9_count_156
  · replace h := if_f c1 h
    refine g_iload_n X dX9_count_130 rfl rfl ?_
    refine g_aload_n X dX9_count_131 rfl rfl ?_
    refine gf_RX9_22 X dX9_count_132 rfl ?_
    refine g_iload_n X dX9_count_135 rfl rfl ?_
    obtain ⟨c2, h⟩ := ck_e h
    refine g_iald X ar_67.1 ar_67.2.1 ar_67.2.2 (ib_e c2) dX9_count_136 rfl ?_
    refine g_iconst X kI_1 dX9_count_137 rfl ?_
    refine g_icmp_ne X dX9_count_138 (tgt := 145) rfl rfl (fun c3 => ?_) (fun c3 => ?_)
    · replace h := if_f c3 h
      refine g_iconst X kI_0 dX9_count_145 rfl ?_
      exact g_le (lle_s (lle_k (lle_k (lle_s (lle_0))))) (ok_HM_count_b146 X Y hk122 σ h)
    · replace h := if_t c3 h
      refine g_iconst X kI_1 dX9_count_141 rfl ?_
      refine g_goto X dX9_count_142 (tgt := 146) rfl ?_
      exact g_le (lle_s (lle_k (lle_k (lle_s (lle_0))))) (ok_HM_count_b146 X Y hk122 σ h)
def f_HM_count_l122 : Int32 → Int32 → St → Option (Int64 × St) := lp (fun _ _ _ => none) (f_HM_count_b122) FU
theorem ok_HM_count_l122 {E : gE} {w : wT} {σ' : St} {r : Int64} (X : gC E w cX9_count 4 RX9 1) (Y : gQ E w (some .long) (some (.long r)) σ') {x2 : Int32} {x3 : Int32} (σ : St) (h : f_HM_count_l122 x2 x3 σ = some (r, σ')) : gW E w 4 σ 122 [some (.ref (w.1 9)), none, some (.int x2), some (.int x3)] [] :=
  lp_ind (P := fun (k : Int32 → Int32 → St → Option (Int64 × St)) => ∀ (x2 : Int32) (x3 : Int32) (σ : St), k x2 x3 σ = some (r, σ') → gW E w 4 σ 122 [some (.ref (w.1 9)), none, some (.int x2), some (.int x3)] []) (fun _ _ _ hh => nn hh) (fun k hk x2 x3 σ  hh => ok_HM_count_b122 X Y hk σ hh) FU x2 x3 σ  h

def f_HM_count_b109 (k86 : Int32 → Int32 → St → Option (Int64 × St)) (x3 : Int32) (xs0 : Int32) (xs1 : Int32) (σ : St) : Option (Int64 × St) :=
  k86 (xs0 + xs1) (x3 + 1) σ
set_option maxRecDepth 4000 in
theorem ok_HM_count_b109 {E : gE} {w : wT} {σ' : St} {r : Int64} (X : gC E w cX9_count 4 RX9 1) (Y : gQ E w (some .long) (some (.long r)) σ') {k86 : Int32 → Int32 → St → Option (Int64 × St)} (hk86 : ∀ (x2 : Int32) (x3 : Int32) (σ : St), k86 x2 x3 σ = some (r, σ') → gW E w 4 σ 86 [some (.ref (w.1 9)), none, some (.int x2), some (.int x3)] []) {x3 : Int32} {xs0 : Int32} {xs1 : Int32} (σ : St) (h : f_HM_count_b109 k86 x3 xs0 xs1 σ = some (r, σ')) : gW E w 4 σ 109 [some (.ref (w.1 9)), none, none, some (.int x3)] [.int xs1, .int xs0] := by
  unfold f_HM_count_b109 at h
  refine g_iadd X dX9_count_109 rfl ?_
  refine g_istore_n X [some (.ref (w.1 9)), none, some (.int (xs0 + xs1)), some (.int x3)] dX9_count_110 (Nat.le_of_ble_eq_true rfl) rfl rfl rfl ?_
  refine g_iinc X [some (.ref (w.1 9)), none, some (.int (xs0 + xs1)), some (.int (x3 + 1))] dX9_count_111 rfl (ii_1 x3) (Nat.le_of_ble_eq_true rfl) rfl rfl rfl ?_
  refine g_goto X dX9_count_114 (tgt := 86) rfl ?_
  exact hk86 (xs0 + xs1) (x3 + 1) σ h

def f_HM_count_b86 (k86 : Int32 → Int32 → St → Option (Int64 × St)) (x2 : Int32) (x3 : Int32) (σ : St) : Option (Int64 × St) :=
  if (rF σ 43) ≤ x3 then (some (x2.toInt64, σ)) else (ck (ib x3 120) <| if (rI σ 67 x3) = 0 then (f_HM_count_b109 k86 x3 x2 1 σ) else (f_HM_count_b109 k86 x3 x2 0 σ))
set_option maxRecDepth 4000 in
theorem ok_HM_count_b86 {E : gE} {w : wT} {σ' : St} {r : Int64} (X : gC E w cX9_count 4 RX9 1) (Y : gQ E w (some .long) (some (.long r)) σ') {k86 : Int32 → Int32 → St → Option (Int64 × St)} (hk86 : ∀ (x2 : Int32) (x3 : Int32) (σ : St), k86 x2 x3 σ = some (r, σ') → gW E w 4 σ 86 [some (.ref (w.1 9)), none, some (.int x2), some (.int x3)] []) {x2 : Int32} {x3 : Int32} (σ : St) (h : f_HM_count_b86 k86 x2 x3 σ = some (r, σ')) : gW E w 4 σ 86 [some (.ref (w.1 9)), none, some (.int x2), some (.int x3)] [] := by
  unfold f_HM_count_b86 at h
  refine g_iload_n X dX9_count_86 rfl rfl ?_
  refine g_aload_n X dX9_count_87 rfl rfl ?_
  refine gf_RX9_192 X dX9_count_88 rfl ?_
  refine g_icmp_ge X dX9_count_91 (tgt := 117) rfl rfl (fun c1 => ?_) (fun c1 => ?_)
  · replace h := if_t c1 h
    refine g_iload_n X dX9_count_117 rfl rfl ?_
    refine g_i2l X dX9_count_118 rfl ?_
    obtain ⟨rfl, rfl⟩ := rt_e h
    exact g_lret X Y dX9_count_119
  · replace h := if_f c1 h
    refine g_iload_n X dX9_count_94 rfl rfl ?_
    refine g_aload_n X dX9_count_95 rfl rfl ?_
    refine gf_RX9_22 X dX9_count_96 rfl ?_
    refine g_iload_n X dX9_count_99 rfl rfl ?_
    obtain ⟨c2, h⟩ := ck_e h
    refine g_iald X ar_67.1 ar_67.2.1 ar_67.2.2 (ib_e c2) dX9_count_100 rfl ?_
    refine g_if_ne X dX9_count_101 (tgt := 108) rfl rfl (fun c3 => ?_) (fun c3 => ?_)
    · replace h := if_f c3 h
      refine g_iconst X kI_0 dX9_count_108 rfl ?_
      exact g_le (lle_s (lle_k (lle_k (lle_s (lle_0))))) (ok_HM_count_b109 X Y hk86 σ h)
    · replace h := if_t c3 h
      refine g_iconst X kI_1 dX9_count_104 rfl ?_
      refine g_goto X dX9_count_105 (tgt := 109) rfl ?_
      exact g_le (lle_s (lle_k (lle_k (lle_s (lle_0))))) (ok_HM_count_b109 X Y hk86 σ h)
def f_HM_count_l86 : Int32 → Int32 → St → Option (Int64 × St) := lp (fun _ _ _ => none) (f_HM_count_b86) FU
theorem ok_HM_count_l86 {E : gE} {w : wT} {σ' : St} {r : Int64} (X : gC E w cX9_count 4 RX9 1) (Y : gQ E w (some .long) (some (.long r)) σ') {x2 : Int32} {x3 : Int32} (σ : St) (h : f_HM_count_l86 x2 x3 σ = some (r, σ')) : gW E w 4 σ 86 [some (.ref (w.1 9)), none, some (.int x2), some (.int x3)] [] :=
  lp_ind (P := fun (k : Int32 → Int32 → St → Option (Int64 × St)) => ∀ (x2 : Int32) (x3 : Int32) (σ : St), k x2 x3 σ = some (r, σ') → gW E w 4 σ 86 [some (.ref (w.1 9)), none, some (.int x2), some (.int x3)] []) (fun _ _ _ hh => nn hh) (fun k hk x2 x3 σ  hh => ok_HM_count_b86 X Y hk σ hh) FU x2 x3 σ  h

def f_HM_count_b67 (k46 : Int32 → Int32 → St → Option (Int64 × St)) (x3 : Int32) (xs0 : Int32) (xs1 : Int32) (σ : St) : Option (Int64 × St) :=
  k46 (xs0 + xs1) (x3 + 1) σ
set_option maxRecDepth 4000 in
theorem ok_HM_count_b67 {E : gE} {w : wT} {σ' : St} {r : Int64} (X : gC E w cX9_count 4 RX9 1) (Y : gQ E w (some .long) (some (.long r)) σ') {k46 : Int32 → Int32 → St → Option (Int64 × St)} (hk46 : ∀ (x2 : Int32) (x3 : Int32) (σ : St), k46 x2 x3 σ = some (r, σ') → gW E w 4 σ 46 [some (.ref (w.1 9)), none, some (.int x2), some (.int x3)] []) {x3 : Int32} {xs0 : Int32} {xs1 : Int32} (σ : St) (h : f_HM_count_b67 k46 x3 xs0 xs1 σ = some (r, σ')) : gW E w 4 σ 67 [some (.ref (w.1 9)), none, none, some (.int x3)] [.int xs1, .int xs0] := by
  unfold f_HM_count_b67 at h
  refine g_iadd X dX9_count_67 rfl ?_
  refine g_istore_n X [some (.ref (w.1 9)), none, some (.int (xs0 + xs1)), some (.int x3)] dX9_count_68 (Nat.le_of_ble_eq_true rfl) rfl rfl rfl ?_
  refine g_iinc X [some (.ref (w.1 9)), none, some (.int (xs0 + xs1)), some (.int (x3 + 1))] dX9_count_69 rfl (ii_1 x3) (Nat.le_of_ble_eq_true rfl) rfl rfl rfl ?_
  refine g_goto X dX9_count_72 (tgt := 46) rfl ?_
  exact hk46 (xs0 + xs1) (x3 + 1) σ h

def f_HM_count_b46 (k46 : Int32 → Int32 → St → Option (Int64 × St)) (x2 : Int32) (x3 : Int32) (σ : St) : Option (Int64 × St) :=
  if (8 : Int32) ≤ x3 then (some (x2.toInt64, σ)) else (ck (ib x3 8) <| if (rI σ 63 x3) < 0 then (f_HM_count_b67 k46 x3 x2 0 σ) else (f_HM_count_b67 k46 x3 x2 1 σ))
set_option maxRecDepth 4000 in
theorem ok_HM_count_b46 {E : gE} {w : wT} {σ' : St} {r : Int64} (X : gC E w cX9_count 4 RX9 1) (Y : gQ E w (some .long) (some (.long r)) σ') {k46 : Int32 → Int32 → St → Option (Int64 × St)} (hk46 : ∀ (x2 : Int32) (x3 : Int32) (σ : St), k46 x2 x3 σ = some (r, σ') → gW E w 4 σ 46 [some (.ref (w.1 9)), none, some (.int x2), some (.int x3)] []) {x2 : Int32} {x3 : Int32} (σ : St) (h : f_HM_count_b46 k46 x2 x3 σ = some (r, σ')) : gW E w 4 σ 46 [some (.ref (w.1 9)), none, some (.int x2), some (.int x3)] [] := by
  unfold f_HM_count_b46 at h
  refine g_iload_n X dX9_count_46 rfl rfl ?_
  refine g_bipush X kB_8 dX9_count_47 rfl ?_
  refine g_icmp_ge X dX9_count_49 (tgt := 75) rfl rfl (fun c1 => ?_) (fun c1 => ?_)
  · replace h := if_t c1 h
    refine g_iload_n X dX9_count_75 rfl rfl ?_
    refine g_i2l X dX9_count_76 rfl ?_
    obtain ⟨rfl, rfl⟩ := rt_e h
    exact g_lret X Y dX9_count_77
  · replace h := if_f c1 h
    refine g_iload_n X dX9_count_52 rfl rfl ?_
    refine g_aload_n X dX9_count_53 rfl rfl ?_
    refine gf_RX9_7 X dX9_count_54 rfl ?_
    refine g_iload_n X dX9_count_57 rfl rfl ?_
    obtain ⟨c2, h⟩ := ck_e h
    refine g_iald X ar_63.1 ar_63.2.1 ar_63.2.2 (ib_e c2) dX9_count_58 rfl ?_
    refine g_if_lt X dX9_count_59 (tgt := 66) rfl rfl (fun c3 => ?_) (fun c3 => ?_)
    · replace h := if_t c3 h
      refine g_iconst X kI_0 dX9_count_66 rfl ?_
      exact g_le (lle_s (lle_k (lle_k (lle_s (lle_0))))) (ok_HM_count_b67 X Y hk46 σ h)
    · replace h := if_f c3 h
      refine g_iconst X kI_1 dX9_count_62 rfl ?_
      refine g_goto X dX9_count_63 (tgt := 67) rfl ?_
      exact g_le (lle_s (lle_k (lle_k (lle_s (lle_0))))) (ok_HM_count_b67 X Y hk46 σ h)
def f_HM_count_l46 : Int32 → Int32 → St → Option (Int64 × St) := lp (fun _ _ _ => none) (f_HM_count_b46) FU
theorem ok_HM_count_l46 {E : gE} {w : wT} {σ' : St} {r : Int64} (X : gC E w cX9_count 4 RX9 1) (Y : gQ E w (some .long) (some (.long r)) σ') {x2 : Int32} {x3 : Int32} (σ : St) (h : f_HM_count_l46 x2 x3 σ = some (r, σ')) : gW E w 4 σ 46 [some (.ref (w.1 9)), none, some (.int x2), some (.int x3)] [] :=
  lp_ind (P := fun (k : Int32 → Int32 → St → Option (Int64 × St)) => ∀ (x2 : Int32) (x3 : Int32) (σ : St), k x2 x3 σ = some (r, σ') → gW E w 4 σ 46 [some (.ref (w.1 9)), none, some (.int x2), some (.int x3)] []) (fun _ _ _ hh => nn hh) (fun k hk x2 x3 σ  hh => ok_HM_count_b46 X Y hk σ hh) FU x2 x3 σ  h

def f_HM_count (x1 : Int32) (σ : St) : Option (Int64 × St) :=
  if x1 = 0 then (f_HM_count_l46 0 0 σ) else if x1 = 1 then (some ((rF σ 43).toInt64, σ)) else if x1 = 2 then (f_HM_count_l86 0 0 σ) else if x1 = 3 then (f_HM_count_l122 0 0 σ) else if x1 = 4 then (f_HM_count_l159 0 0 σ) else if x1 = 5 then (some ((rF σ 44).toInt64, σ)) else if x1 = 6 then (some ((rF σ 41).toInt64, σ)) else (some ((-9000000000000000001), σ))
set_option maxRecDepth 4000 in
theorem ok_HM_count {w : wT} (hi : wInj w) {l : Launch} {x1 : Int32} {σ σ' : St} {r : Int64} (h : f_HM_count x1 σ = some (r, σ')) : gM w l yX9_count cX9_count 4 (some .long) 1 [.ref (w.1 9), .int x1] σ (some (.long r)) σ' := by
  unfold f_HM_count at h
  refine gM_of hi (by decide) [some (.ref (w.1 9)), some (.int x1)] rfl (Nat.le_of_ble_eq_true rfl) (fun E hl X Y => ?_)
  refine g_iconst X kI_0 dX9_count_0 rfl ?_
  refine g_istore_n X [some (.ref (w.1 9)), some (.int x1), some (.int 0)] dX9_count_1 (Nat.le_of_ble_eq_true rfl) rfl rfl rfl ?_
  refine g_iload_n X dX9_count_2 rfl rfl ?_
  by_cases c1 : x1 = 0
  · replace h := if_t c1 h
    refine g_tin X dX9_count_3 (by rw [c1]; decide) (by rw [c1]; decide) (off := 41) (by rw [c1]; rfl) (tgt := 44) rfl ?_
    refine g_iconst X kI_0 dX9_count_44 rfl ?_
    refine g_istore_n X [some (.ref (w.1 9)), some (.int x1), some (.int 0), some (.int 0)] dX9_count_45 (Nat.le_of_ble_eq_true rfl) rfl rfl rfl ?_
    exact g_le (lle_s (lle_k (lle_s (lle_s (lle_0))))) (ok_HM_count_l46 X Y σ h)
  · replace h := if_f c1 h
    by_cases c2 : x1 = 1
    · replace h := if_t c2 h
      refine g_tin X dX9_count_3 (by rw [c2]; decide) (by rw [c2]; decide) (off := 75) (by rw [c2]; rfl) (tgt := 78) rfl ?_
      refine g_aload_n X dX9_count_78 rfl rfl ?_
      refine gf_RX9_192 X dX9_count_79 rfl ?_
      refine g_i2l X dX9_count_82 rfl ?_
      obtain ⟨rfl, rfl⟩ := rt_e h
      exact g_lret X Y dX9_count_83
    · replace h := if_f c2 h
      by_cases c3 : x1 = 2
      · replace h := if_t c3 h
        refine g_tin X dX9_count_3 (by rw [c3]; decide) (by rw [c3]; decide) (off := 81) (by rw [c3]; rfl) (tgt := 84) rfl ?_
        refine g_iconst X kI_0 dX9_count_84 rfl ?_
        refine g_istore_n X [some (.ref (w.1 9)), some (.int x1), some (.int 0), some (.int 0)] dX9_count_85 (Nat.le_of_ble_eq_true rfl) rfl rfl rfl ?_
        exact g_le (lle_s (lle_k (lle_s (lle_s (lle_0))))) (ok_HM_count_l86 X Y σ h)
      · replace h := if_f c3 h
        by_cases c4 : x1 = 3
        · replace h := if_t c4 h
          refine g_tin X dX9_count_3 (by rw [c4]; decide) (by rw [c4]; decide) (off := 117) (by rw [c4]; rfl) (tgt := 120) rfl ?_
          refine g_iconst X kI_0 dX9_count_120 rfl ?_
          refine g_istore_n X [some (.ref (w.1 9)), some (.int x1), some (.int 0), some (.int 0)] dX9_count_121 (Nat.le_of_ble_eq_true rfl) rfl rfl rfl ?_
          exact g_le (lle_s (lle_k (lle_s (lle_s (lle_0))))) (ok_HM_count_l122 X Y σ h)
        · replace h := if_f c4 h
          by_cases c5 : x1 = 4
          · replace h := if_t c5 h
            refine g_tin X dX9_count_3 (by rw [c5]; decide) (by rw [c5]; decide) (off := 154) (by rw [c5]; rfl) (tgt := 157) rfl ?_
            refine g_iconst X kI_0 dX9_count_157 rfl ?_
            refine g_istore_n X [some (.ref (w.1 9)), some (.int x1), some (.int 0), some (.int 0)] dX9_count_158 (Nat.le_of_ble_eq_true rfl) rfl rfl rfl ?_
            exact g_le (lle_s (lle_k (lle_s (lle_s (lle_0))))) (ok_HM_count_l159 X Y σ h)
          · replace h := if_f c5 h
            by_cases c6 : x1 = 5
            · replace h := if_t c6 h
              refine g_tin X dX9_count_3 (by rw [c6]; decide) (by rw [c6]; decide) (off := 188) (by rw [c6]; rfl) (tgt := 191) rfl ?_
              refine g_aload_n X dX9_count_191 rfl rfl ?_
              refine gf_RX9_195 X dX9_count_192 rfl ?_
              refine g_i2l X dX9_count_195 rfl ?_
              obtain ⟨rfl, rfl⟩ := rt_e h
              exact g_lret X Y dX9_count_196
            · replace h := if_f c6 h
              by_cases c7 : x1 = 6
              · replace h := if_t c7 h
                refine g_tin X dX9_count_3 (by rw [c7]; decide) (by rw [c7]; decide) (off := 194) (by rw [c7]; rfl) (tgt := 197) rfl ?_
                refine g_aload_n X dX9_count_197 rfl rfl ?_
                refine gf_RX9_119 X dX9_count_198 rfl ?_
                refine g_i2l X dX9_count_201 rfl ?_
                obtain ⟨rfl, rfl⟩ := rt_e h
                exact g_lret X Y dX9_count_202
              · replace h := if_f c7 h
                refine g_tout X dX9_count_3 (swo (fun z z1 z2 => ?_)) (tgt := 203) rfl ?_
                · have zz : z = 0 ∨ z = 1 ∨ z = 2 ∨ z = 3 ∨ z = 4 ∨ z = 5 ∨ z = 6 := by omega
                  rcases zz with rfl | rfl | rfl | rfl | rfl | rfl | rfl
                  · exact sw1 c1 rfl
                  · exact sw1 c2 rfl
                  · exact sw1 c3 rfl
                  · exact sw1 c4 rfl
                  · exact sw1 c5 rfl
                  · exact sw1 c6 rfl
                  · exact sw1 c7 rfl
                ·
                  refine g_ldc2 X dX9_count_203 kc_RX9_107 rfl ?_
                  obtain ⟨rfl, rfl⟩ := rt_e h
                  exact g_lret X Y dX9_count_206

theorem dX9_status_0 : decode cX9_status 0 = .ok (.aload_n 0, 1) := by decide +kernel
theorem dX9_status_1 : decode cX9_status 1 = .ok (.getfield 95, 3) := by decide +kernel
theorem dX9_status_4 : decode cX9_status 4 = .ok (.ireturn, 1) := by decide +kernel
def f_HM_status (σ : St) : Option (Int32 × St) :=
  some (rF σ 40, σ)
set_option maxRecDepth 4000 in
theorem ok_HM_status {w : wT} (hi : wInj w) {l : Launch} {σ σ' : St} {r : Int32} (h : f_HM_status σ = some (r, σ')) : gM w l yX9_status cX9_status 1 (some .int) 1 [.ref (w.1 9)] σ (some (.int r)) σ' := by
  unfold f_HM_status at h
  refine gM_of hi (by decide) [some (.ref (w.1 9))] rfl (Nat.le_of_ble_eq_true rfl) (fun E hl X Y => ?_)
  refine g_aload_n X dX9_status_0 rfl rfl ?_
  refine gf_RX9_95 X dX9_status_1 rfl ?_
  obtain ⟨rfl, rfl⟩ := rt_e h
  exact g_iret X Y dX9_status_4
