theorem dJ7_fill_53178_0 : decode cJ7_fill_53178 0 = .ok (.iconst 0, 1) := by decide +kernel
theorem dJ7_fill_53178_1 : decode cJ7_fill_53178 1 = .ok (.istore_n 2, 1) := by decide +kernel
theorem dJ7_fill_53178_2 : decode cJ7_fill_53178 2 = .ok (.aload_n 0, 1) := by decide +kernel
theorem dJ7_fill_53178_3 : decode cJ7_fill_53178 3 = .ok (.arraylength, 1) := by decide +kernel
theorem dJ7_fill_53178_4 : decode cJ7_fill_53178 4 = .ok (.istore_n 3, 1) := by decide +kernel
theorem dJ7_fill_53178_5 : decode cJ7_fill_53178 5 = .ok (.iload_n 2, 1) := by decide +kernel
theorem dJ7_fill_53178_6 : decode cJ7_fill_53178 6 = .ok (.iload_n 3, 1) := by decide +kernel
theorem dJ7_fill_53178_7 : decode cJ7_fill_53178 7 = .ok (.if_icmp .ge 13, 3) := by decide +kernel
theorem dJ7_fill_53178_10 : decode cJ7_fill_53178 10 = .ok (.aload_n 0, 1) := by decide +kernel
theorem dJ7_fill_53178_11 : decode cJ7_fill_53178 11 = .ok (.iload_n 2, 1) := by decide +kernel
theorem dJ7_fill_53178_12 : decode cJ7_fill_53178 12 = .ok (.iload_n 1, 1) := by decide +kernel
theorem dJ7_fill_53178_13 : decode cJ7_fill_53178 13 = .ok (.iastore, 1) := by decide +kernel
theorem dJ7_fill_53178_14 : decode cJ7_fill_53178 14 = .ok (.iinc 2 1, 3) := by decide +kernel
theorem dJ7_fill_53178_17 : decode cJ7_fill_53178 17 = .ok (.goto (-12), 3) := by decide +kernel
theorem dJ7_fill_53178_20 : decode cJ7_fill_53178 20 = .ok (.return_, 1) := by decide +kernel
def f_Ar_fillI_b5 (a : Nat) (k5 : Int32 → Int32 → Int32 → St → Option St) (x1 : Int32) (x2 : Int32) (x3 : Int32) (σ : St) : Option St :=
  if x3 ≤ x2 then (some σ) else (ck (ib x2 (ln a)) <| lE (stA σ a x2.toNatClampNeg x1) fun σ3 => k5 x1 (x2 + 1) x3 σ3)
set_option maxRecDepth 4000 in
theorem ok_Ar_fillI_b5 {E : gE} {w : wT} {σ' : St} (X : gC E w cJ7_fill_53178 4 RJ7 1) (Y : gQ E w none none σ') {a : Nat} (ha : isI a = true) {k5 : Int32 → Int32 → Int32 → St → Option St} (hk5 : ∀ (x1 : Int32) (x2 : Int32) (x3 : Int32) (σ : St), k5 x1 x2 x3 σ = some σ' → gW E w 4 σ 5 [some (.ref (w.1 a)), some (.int x1), some (.int x2), some (.int x3)] []) {x1 : Int32} {x2 : Int32} {x3 : Int32} (σ : St) (h : f_Ar_fillI_b5 a k5 x1 x2 x3 σ = some σ') : gW E w 4 σ 5 [some (.ref (w.1 a)), some (.int x1), some (.int x2), some (.int x3)] [] := by
  unfold f_Ar_fillI_b5 at h
  refine g_iload_n X dJ7_fill_53178_5 rfl rfl ?_
  refine g_iload_n X dJ7_fill_53178_6 rfl rfl ?_
  refine g_icmp_ge X dJ7_fill_53178_7 (tgt := 20) rfl rfl (fun c1 => ?_) (fun c1 => ?_)
  · replace h := if_t c1 h
    obtain rfl := rv_e h
    exact g_vret X Y dJ7_fill_53178_20
  · replace h := if_f c1 h
    refine g_aload_n X dJ7_fill_53178_10 rfl rfl ?_
    refine g_iload_n X dJ7_fill_53178_11 rfl rfl ?_
    refine g_iload_n X dJ7_fill_53178_12 rfl rfl ?_
    obtain ⟨c2, h⟩ := ck_e h
    refine g_iast X (isI_e ha).1 (isI_e ha).2.1 (isI_e ha).2.2 (ib_e c2) dJ7_fill_53178_13 rfl (fun σ3 e4 => ?_)
    replace h := lE_c e4 h
    refine g_iinc X [some (.ref (w.1 a)), some (.int x1), some (.int (x2 + 1)), some (.int x3)] dJ7_fill_53178_14 rfl (ii_1 x2) (Nat.le_of_ble_eq_true rfl) rfl rfl rfl ?_
    refine g_goto X dJ7_fill_53178_17 (tgt := 5) rfl ?_
    exact hk5 x1 (x2 + 1) x3 σ3 h
def f_Ar_fillI_l5 (a : Nat) : Int32 → Int32 → Int32 → St → Option St := lp (fun _ _ _ _ => none) (f_Ar_fillI_b5 a) FU
theorem ok_Ar_fillI_l5 {E : gE} {w : wT} {σ' : St} (X : gC E w cJ7_fill_53178 4 RJ7 1) (Y : gQ E w none none σ') {a : Nat} (ha : isI a = true) {x1 : Int32} {x2 : Int32} {x3 : Int32} (σ : St) (h : f_Ar_fillI_l5 a x1 x2 x3 σ = some σ') : gW E w 4 σ 5 [some (.ref (w.1 a)), some (.int x1), some (.int x2), some (.int x3)] [] :=
  lp_ind (P := fun (k : Int32 → Int32 → Int32 → St → Option St) => ∀ (x1 : Int32) (x2 : Int32) (x3 : Int32) (σ : St), k x1 x2 x3 σ = some σ' → gW E w 4 σ 5 [some (.ref (w.1 a)), some (.int x1), some (.int x2), some (.int x3)] []) (fun _ _ _ _ hh => nn hh) (fun k hk x1 x2 x3 σ  hh => ok_Ar_fillI_b5 X Y ha hk σ hh) FU x1 x2 x3 σ  h

def f_Ar_fillI (a : Nat) (x1 : Int32) (σ : St) : Option St :=
  ck (isI a) <| f_Ar_fillI_l5 a x1 0 (Int32.ofNat (ln a)) σ
set_option maxRecDepth 4000 in
theorem ok_Ar_fillI {w : wT} (hi : wInj w) {l : Launch} {a : Nat} {x1 : Int32} {σ σ' : St} (h : f_Ar_fillI a x1 σ = some σ') : gM w l yJ7_fill_53178 cJ7_fill_53178 4 none 1 [.ref (w.1 a), .int x1] σ none σ' := by
  unfold f_Ar_fillI at h
  obtain ⟨ha, h⟩ := ck_e h
  refine gM_of hi (by decide) [some (.ref (w.1 a)), some (.int x1)] rfl (Nat.le_of_ble_eq_true rfl) (fun E hl X Y => ?_)
  refine g_iconst X kI_0 dJ7_fill_53178_0 rfl ?_
  refine g_istore_n X [some (.ref (w.1 a)), some (.int x1), some (.int 0)] dJ7_fill_53178_1 (Nat.le_of_ble_eq_true rfl) rfl rfl rfl ?_
  refine g_aload_n X dJ7_fill_53178_2 rfl rfl ?_
  refine g_alenI X (isI_e ha).1 (isI_e ha).2.1 rfl dJ7_fill_53178_3 rfl ?_
  refine g_istore_n X [some (.ref (w.1 a)), some (.int x1), some (.int 0), some (.int (Int32.ofNat (ln a)))] dJ7_fill_53178_4 (Nat.le_of_ble_eq_true rfl) rfl rfl rfl ?_
  exact ok_Ar_fillI_l5 X Y ha σ h

theorem dX8_isRow_0 : decode cX8_isRow 0 = .ok (.iload_n 0, 1) := by decide +kernel
theorem dX8_isRow_1 : decode cX8_isRow 1 = .ok (.ifCond .lt 13, 3) := by decide +kernel
theorem dX8_isRow_4 : decode cX8_isRow 4 = .ok (.iload_n 0, 1) := by decide +kernel
theorem dX8_isRow_5 : decode cX8_isRow 5 = .ok (.bipush 8, 2) := by decide +kernel
theorem dX8_isRow_7 : decode cX8_isRow 7 = .ok (.if_icmp .ge 7, 3) := by decide +kernel
theorem dX8_isRow_10 : decode cX8_isRow 10 = .ok (.iconst 1, 1) := by decide +kernel
theorem dX8_isRow_11 : decode cX8_isRow 11 = .ok (.goto 4, 3) := by decide +kernel
theorem dX8_isRow_14 : decode cX8_isRow 14 = .ok (.iconst 0, 1) := by decide +kernel
theorem dX8_isRow_15 : decode cX8_isRow 15 = .ok (.ireturn, 1) := by decide +kernel
def f_HG_isRow (x0 : Int32) (σ : St) : Option (Int32 × St) :=
  if x0 < 0 then (some (0, σ)) else (if (8 : Int32) ≤ x0 then (some (0, σ)) else (some (1, σ)))
set_option maxRecDepth 4000 in
theorem ok_HG_isRow {w : wT} (hi : wInj w) {l : Launch} {x0 : Int32} {σ σ' : St} {r : Int32} (h : f_HG_isRow x0 σ = some (r, σ')) : gM w l yX8_isRow cX8_isRow 1 (some .boolean) 1 [.int x0] σ (some (.int r)) σ' := by
  unfold f_HG_isRow at h
  refine gM_of hi (by decide) [some (.int x0)] rfl (Nat.le_of_ble_eq_true rfl) (fun E hl X Y => ?_)
  refine g_iload_n X dX8_isRow_0 rfl rfl ?_
  refine g_if_lt X dX8_isRow_1 (tgt := 14) rfl rfl (fun c1 => ?_) (fun c1 => ?_)
  · replace h := if_t c1 h
    refine g_iconst X kI_0 dX8_isRow_14 rfl ?_
    obtain ⟨rfl, rfl⟩ := rt_e h
    exact g_zret X Y rfl dX8_isRow_15
  · replace h := if_f c1 h
    refine g_iload_n X dX8_isRow_4 rfl rfl ?_
    refine g_bipush X kB_8 dX8_isRow_5 rfl ?_
    refine g_icmp_ge X dX8_isRow_7 (tgt := 14) rfl rfl (fun c2 => ?_) (fun c2 => ?_)
    · replace h := if_t c2 h
      refine g_iconst X kI_0 dX8_isRow_14 rfl ?_
      obtain ⟨rfl, rfl⟩ := rt_e h
      exact g_zret X Y rfl dX8_isRow_15
    · replace h := if_f c2 h
      refine g_iconst X kI_1 dX8_isRow_10 rfl ?_
      refine g_goto X dX8_isRow_11 (tgt := 15) rfl ?_
      obtain ⟨rfl, rfl⟩ := rt_e h
      exact g_zret X Y rfl dX8_isRow_15

theorem dX8_found_0 : decode cX8_found 0 = .ok (.aload_n 0, 1) := by decide +kernel
theorem dX8_found_1 : decode cX8_found 1 = .ok (.iload_n 1, 1) := by decide +kernel
theorem dX8_found_2 : decode cX8_found 2 = .ok (.putfield 76, 3) := by decide +kernel
theorem dX8_found_5 : decode cX8_found 5 = .ok (.ldc2_w 292, 3) := by decide +kernel
theorem dX8_found_8 : decode cX8_found 8 = .ok (.iload_n 1, 1) := by decide +kernel
theorem dX8_found_9 : decode cX8_found 9 = .ok (.i2l, 1) := by decide +kernel
theorem dX8_found_10 : decode cX8_found 10 = .ok (.lsub, 1) := by decide +kernel
theorem dX8_found_11 : decode cX8_found 11 = .ok (.lreturn, 1) := by decide +kernel
def f_HG_found (x1 : Int32) (σ : St) : Option (Int64 × St) :=
  lE (stF σ 1 x1) fun σ1 => some (((-9000000000000000010)) - x1.toInt64, σ1)
set_option maxRecDepth 4000 in
theorem ok_HG_found {w : wT} (hi : wInj w) {l : Launch} {x1 : Int32} {σ σ' : St} {r : Int64} (h : f_HG_found x1 σ = some (r, σ')) : gM w l yX8_found cX8_found 2 (some .long) 1 [.ref (w.1 0), .int x1] σ (some (.long r)) σ' := by
  unfold f_HG_found at h
  refine gM_of hi (by decide) [some (.ref (w.1 0)), some (.int x1)] rfl (Nat.le_of_ble_eq_true rfl) (fun E hl X Y => ?_)
  refine g_aload_n X dX8_found_0 rfl rfl ?_
  refine g_iload_n X dX8_found_1 rfl rfl ?_
  refine gp_RX8_76 X dX8_found_2 rfl (fun σ1 e2 => ?_)
  replace h := lE_c e2 h
  refine g_ldc2 X dX8_found_5 kc_RX8_292 rfl ?_
  refine g_iload_n X dX8_found_8 rfl rfl ?_
  refine g_i2l X dX8_found_9 rfl ?_
  refine g_lsub X dX8_found_10 rfl ?_
  obtain ⟨rfl, rfl⟩ := rt_e h
  exact g_lret X Y dX8_found_11

theorem dX5_lay_0 : decode cX5_lay 0 = .ok (.aload_n 0, 1) := by decide +kernel
theorem dX5_lay_1 : decode cX5_lay 1 = .ok (.getfield 9, 3) := by decide +kernel
theorem dX5_lay_4 : decode cX5_lay 4 = .ok (.iload_n 1, 1) := by decide +kernel
theorem dX5_lay_5 : decode cX5_lay 5 = .ok (.iload_n 2, 1) := by decide +kernel
theorem dX5_lay_6 : decode cX5_lay 6 = .ok (.iastore, 1) := by decide +kernel
theorem dX5_lay_7 : decode cX5_lay 7 = .ok (.aload_n 0, 1) := by decide +kernel
theorem dX5_lay_8 : decode cX5_lay 8 = .ok (.getfield 15, 3) := by decide +kernel
theorem dX5_lay_11 : decode cX5_lay 11 = .ok (.iload_n 1, 1) := by decide +kernel
theorem dX5_lay_12 : decode cX5_lay 12 = .ok (.iload_n 3, 1) := by decide +kernel
theorem dX5_lay_13 : decode cX5_lay 13 = .ok (.iastore, 1) := by decide +kernel
theorem dX5_lay_14 : decode cX5_lay 14 = .ok (.iconst 0, 1) := by decide +kernel
theorem dX5_lay_15 : decode cX5_lay 15 = .ok (.istore 4, 2) := by decide +kernel
theorem dX5_lay_17 : decode cX5_lay 17 = .ok (.iload 4, 2) := by decide +kernel
theorem dX5_lay_19 : decode cX5_lay 19 = .ok (.bipush 40, 2) := by decide +kernel
theorem dX5_lay_21 : decode cX5_lay 21 = .ok (.if_icmp .ge 22, 3) := by decide +kernel
theorem dX5_lay_24 : decode cX5_lay 24 = .ok (.aload_n 0, 1) := by decide +kernel
theorem dX5_lay_25 : decode cX5_lay 25 = .ok (.getfield 18, 3) := by decide +kernel
theorem dX5_lay_28 : decode cX5_lay 28 = .ok (.iload_n 1, 1) := by decide +kernel
theorem dX5_lay_29 : decode cX5_lay 29 = .ok (.bipush 40, 2) := by decide +kernel
theorem dX5_lay_31 : decode cX5_lay 31 = .ok (.imul, 1) := by decide +kernel
theorem dX5_lay_32 : decode cX5_lay 32 = .ok (.iload 4, 2) := by decide +kernel
theorem dX5_lay_34 : decode cX5_lay 34 = .ok (.iadd, 1) := by decide +kernel
theorem dX5_lay_35 : decode cX5_lay 35 = .ok (.iconst 0, 1) := by decide +kernel
theorem dX5_lay_36 : decode cX5_lay 36 = .ok (.iastore, 1) := by decide +kernel
theorem dX5_lay_37 : decode cX5_lay 37 = .ok (.iinc 4 1, 3) := by decide +kernel
theorem dX5_lay_40 : decode cX5_lay 40 = .ok (.goto (-23), 3) := by decide +kernel
theorem dX5_lay_43 : decode cX5_lay 43 = .ok (.return_, 1) := by decide +kernel
def f_Shelf_lay_b17 (k17 : Int32 → Int32 → St → Option St) (x1 : Int32) (x4 : Int32) (σ : St) : Option St :=
  if (40 : Int32) ≤ x4 then (some σ) else (ck (ib ((x1 * 40) + x4) 320) <| lE (stA σ 49 ((x1 * 40) + x4).toNatClampNeg 0) fun σ3 => k17 x1 (x4 + 1) σ3)
set_option maxRecDepth 4000 in
theorem ok_Shelf_lay_b17 {E : gE} {w : wT} {σ' : St} (X : gC E w cX5_lay 5 RX5 1) (Y : gQ E w none none σ') {k17 : Int32 → Int32 → St → Option St} (hk17 : ∀ (x1 : Int32) (x4 : Int32) (σ : St), k17 x1 x4 σ = some σ' → gW E w 5 σ 17 [some (.ref (w.1 1)), some (.int x1), none, none, some (.int x4)] []) {x1 : Int32} {x4 : Int32} (σ : St) (h : f_Shelf_lay_b17 k17 x1 x4 σ = some σ') : gW E w 5 σ 17 [some (.ref (w.1 1)), some (.int x1), none, none, some (.int x4)] [] := by
  unfold f_Shelf_lay_b17 at h
  refine g_iload X dX5_lay_17 rfl rfl ?_
  refine g_bipush X kB_40 dX5_lay_19 rfl ?_
  refine g_icmp_ge X dX5_lay_21 (tgt := 43) rfl rfl (fun c1 => ?_) (fun c1 => ?_)
  · replace h := if_t c1 h
    obtain rfl := rv_e h
    exact g_vret X Y dX5_lay_43
  · replace h := if_f c1 h
    refine g_aload_n X dX5_lay_24 rfl rfl ?_
    refine gf_RX5_18 X dX5_lay_25 rfl ?_
    refine g_iload_n X dX5_lay_28 rfl rfl ?_
    refine g_bipush X kB_40 dX5_lay_29 rfl ?_
    refine g_imul X dX5_lay_31 rfl ?_
    refine g_iload X dX5_lay_32 rfl rfl ?_
    refine g_iadd X dX5_lay_34 rfl ?_
    refine g_iconst X kI_0 dX5_lay_35 rfl ?_
    obtain ⟨c2, h⟩ := ck_e h
    refine g_iast X ar_49.1 ar_49.2.1 ar_49.2.2 (ib_e c2) dX5_lay_36 rfl (fun σ3 e4 => ?_)
    replace h := lE_c e4 h
    refine g_iinc X [some (.ref (w.1 1)), some (.int x1), none, none, some (.int (x4 + 1))] dX5_lay_37 rfl (ii_1 x4) (Nat.le_of_ble_eq_true rfl) rfl rfl rfl ?_
    refine g_goto X dX5_lay_40 (tgt := 17) rfl ?_
    exact hk17 x1 (x4 + 1) σ3 h
def f_Shelf_lay_l17 : Int32 → Int32 → St → Option St := lp (fun _ _ _ => none) (f_Shelf_lay_b17) FU
theorem ok_Shelf_lay_l17 {E : gE} {w : wT} {σ' : St} (X : gC E w cX5_lay 5 RX5 1) (Y : gQ E w none none σ') {x1 : Int32} {x4 : Int32} (σ : St) (h : f_Shelf_lay_l17 x1 x4 σ = some σ') : gW E w 5 σ 17 [some (.ref (w.1 1)), some (.int x1), none, none, some (.int x4)] [] :=
  lp_ind (P := fun (k : Int32 → Int32 → St → Option St) => ∀ (x1 : Int32) (x4 : Int32) (σ : St), k x1 x4 σ = some σ' → gW E w 5 σ 17 [some (.ref (w.1 1)), some (.int x1), none, none, some (.int x4)] []) (fun _ _ _ hh => nn hh) (fun k hk x1 x4 σ  hh => ok_Shelf_lay_b17 X Y hk σ hh) FU x1 x4 σ  h

def f_Shelf_lay (x1 : Int32) (x2 : Int32) (x3 : Int32) (σ : St) : Option St :=
  ck (ib x1 8) <| lE (stA σ 47 x1.toNatClampNeg x2) fun σ2 => ck (ib x1 8) <| lE (stA σ2 48 x1.toNatClampNeg x3) fun σ5 => f_Shelf_lay_l17 x1 0 σ5
set_option maxRecDepth 4000 in
theorem ok_Shelf_lay {w : wT} (hi : wInj w) {l : Launch} {x1 : Int32} {x2 : Int32} {x3 : Int32} {σ σ' : St} (h : f_Shelf_lay x1 x2 x3 σ = some σ') : gM w l yX5_lay cX5_lay 5 none 1 [.ref (w.1 1), .int x1, .int x2, .int x3] σ none σ' := by
  unfold f_Shelf_lay at h
  refine gM_of hi (by decide) [some (.ref (w.1 1)), some (.int x1), some (.int x2), some (.int x3)] rfl (Nat.le_of_ble_eq_true rfl) (fun E hl X Y => ?_)
  refine g_aload_n X dX5_lay_0 rfl rfl ?_
  refine gf_RX5_9 X dX5_lay_1 rfl ?_
  refine g_iload_n X dX5_lay_4 rfl rfl ?_
  refine g_iload_n X dX5_lay_5 rfl rfl ?_
  obtain ⟨c1, h⟩ := ck_e h
  refine g_iast X ar_47.1 ar_47.2.1 ar_47.2.2 (ib_e c1) dX5_lay_6 rfl (fun σ2 e3 => ?_)
  replace h := lE_c e3 h
  refine g_aload_n X dX5_lay_7 rfl rfl ?_
  refine gf_RX5_15 X dX5_lay_8 rfl ?_
  refine g_iload_n X dX5_lay_11 rfl rfl ?_
  refine g_iload_n X dX5_lay_12 rfl rfl ?_
  obtain ⟨c4, h⟩ := ck_e h
  refine g_iast X ar_48.1 ar_48.2.1 ar_48.2.2 (ib_e c4) dX5_lay_13 rfl (fun σ5 e6 => ?_)
  replace h := lE_c e6 h
  refine g_iconst X kI_0 dX5_lay_14 rfl ?_
  refine g_istore X [some (.ref (w.1 1)), some (.int x1), some (.int x2), some (.int x3), some (.int 0)] dX5_lay_15 (Nat.le_of_ble_eq_true rfl) rfl rfl rfl ?_
  exact g_le (lle_s (lle_s (lle_k (lle_k (lle_s (lle_0)))))) (ok_Shelf_lay_l17 X Y σ5 h)

theorem dX8_fine_0 : decode cX8_fine 0 = .ok (.aload_n 0, 1) := by decide +kernel
theorem dX8_fine_1 : decode cX8_fine 1 = .ok (.iconst 0, 1) := by decide +kernel
theorem dX8_fine_2 : decode cX8_fine 2 = .ok (.putfield 76, 3) := by decide +kernel
theorem dX8_fine_5 : decode cX8_fine 5 = .ok (.lload_n 1, 1) := by decide +kernel
theorem dX8_fine_6 : decode cX8_fine 6 = .ok (.lreturn, 1) := by decide +kernel
def f_HG_fine (x1 : Int64) (σ : St) : Option (Int64 × St) :=
  lE (stF σ 1 0) fun σ1 => some (x1, σ1)
set_option maxRecDepth 4000 in
theorem ok_HG_fine {w : wT} (hi : wInj w) {l : Launch} {x1 : Int64} {σ σ' : St} {r : Int64} (h : f_HG_fine x1 σ = some (r, σ')) : gM w l yX8_fine cX8_fine 3 (some .long) 1 [.ref (w.1 0), .long x1] σ (some (.long r)) σ' := by
  unfold f_HG_fine at h
  refine gM_of hi (by decide) [some (.ref (w.1 0)), some (.long x1), none] rfl (Nat.le_of_ble_eq_true rfl) (fun E hl X Y => ?_)
  refine g_aload_n X dX8_fine_0 rfl rfl ?_
  refine g_iconst X kI_0 dX8_fine_1 rfl ?_
  refine gp_RX8_76 X dX8_fine_2 rfl (fun σ1 e2 => ?_)
  replace h := lE_c e2 h
  refine g_lload_n X dX8_fine_5 rfl rfl ?_
  obtain ⟨rfl, rfl⟩ := rt_e h
  exact g_lret X Y dX8_fine_6

theorem dX8_row_0 : decode cX8_row 0 = .ok (.iload_n 1, 1) := by decide +kernel
theorem dX8_row_1 : decode cX8_row 1 = .ok (.invokestatic 79, 3) := by decide +kernel
theorem dX8_row_4 : decode cX8_row 4 = .ok (.ifCond .eq 18, 3) := by decide +kernel
theorem dX8_row_7 : decode cX8_row 7 = .ok (.iload_n 2, 1) := by decide +kernel
theorem dX8_row_8 : decode cX8_row 8 = .ok (.ifCond .lt 14, 3) := by decide +kernel
theorem dX8_row_11 : decode cX8_row 11 = .ok (.iload_n 2, 1) := by decide +kernel
theorem dX8_row_12 : decode cX8_row 12 = .ok (.iconst 3, 1) := by decide +kernel
theorem dX8_row_13 : decode cX8_row 13 = .ok (.if_icmp .ge 9, 3) := by decide +kernel
theorem dX8_row_16 : decode cX8_row 16 = .ok (.iload_n 3, 1) := by decide +kernel
theorem dX8_row_17 : decode cX8_row 17 = .ok (.bipush 40, 2) := by decide +kernel
theorem dX8_row_19 : decode cX8_row 19 = .ok (.if_icmp .le 7, 3) := by decide +kernel
theorem dX8_row_22 : decode cX8_row 22 = .ok (.ldc2_w 83, 3) := by decide +kernel
theorem dX8_row_25 : decode cX8_row 25 = .ok (.lreturn, 1) := by decide +kernel
theorem dX8_row_26 : decode cX8_row 26 = .ok (.iload_n 3, 1) := by decide +kernel
theorem dX8_row_27 : decode cX8_row 27 = .ok (.ifCond .ge 9, 3) := by decide +kernel
theorem dX8_row_30 : decode cX8_row 30 = .ok (.aload_n 0, 1) := by decide +kernel
theorem dX8_row_31 : decode cX8_row 31 = .ok (.iconst 4, 1) := by decide +kernel
theorem dX8_row_32 : decode cX8_row 32 = .ok (.invokevirtual 85, 3) := by decide +kernel
theorem dX8_row_35 : decode cX8_row 35 = .ok (.lreturn, 1) := by decide +kernel
theorem dX8_row_36 : decode cX8_row 36 = .ok (.aload_n 0, 1) := by decide +kernel
theorem dX8_row_37 : decode cX8_row 37 = .ok (.getfield 12, 3) := by decide +kernel
theorem dX8_row_40 : decode cX8_row 40 = .ok (.iload_n 1, 1) := by decide +kernel
theorem dX8_row_41 : decode cX8_row 41 = .ok (.iload_n 2, 1) := by decide +kernel
theorem dX8_row_42 : decode cX8_row 42 = .ok (.iload_n 3, 1) := by decide +kernel
theorem dX8_row_43 : decode cX8_row 43 = .ok (.invokevirtual 89, 3) := by decide +kernel
theorem dX8_row_46 : decode cX8_row 46 = .ok (.aload_n 0, 1) := by decide +kernel
theorem dX8_row_47 : decode cX8_row 47 = .ok (.iload_n 3, 1) := by decide +kernel
theorem dX8_row_48 : decode cX8_row 48 = .ok (.i2l, 1) := by decide +kernel
theorem dX8_row_49 : decode cX8_row 49 = .ok (.invokevirtual 93, 3) := by decide +kernel
theorem dX8_row_52 : decode cX8_row 52 = .ok (.lreturn, 1) := by decide +kernel
def f_HG_row (x1 : Int32) (x2 : Int32) (x3 : Int32) (σ : St) : Option (Int64 × St) :=
  bd (f_HG_isRow x1 σ) fun r3 σ2 => if r3 = 0 then (some ((-9000000000000000001), σ2)) else (if x2 < 0 then (some ((-9000000000000000001), σ2)) else (if (3 : Int32) ≤ x2 then (some ((-9000000000000000001), σ2)) else (if x3 ≤ 40 then (if 0 ≤ x3 then (bv (f_Shelf_lay x1 x2 x3 σ2) fun σ10 => bd (f_HG_fine x3.toInt64 σ10) fun r13 σ12 => some (r13, σ12)) else (bd (f_HG_found 4 σ2) fun r16 σ15 => some (r16, σ15))) else (some ((-9000000000000000001), σ2)))))
set_option maxRecDepth 4000 in
theorem ok_HG_row {w : wT} (hi : wInj w) {l : Launch} {x1 : Int32} {x2 : Int32} {x3 : Int32} {σ σ' : St} {r : Int64} (h : f_HG_row x1 x2 x3 σ = some (r, σ')) : gM w l yX8_row cX8_row 4 (some .long) 2 [.ref (w.1 0), .int x1, .int x2, .int x3] σ (some (.long r)) σ' := by
  unfold f_HG_row at h
  refine gM_of hi (by decide) [some (.ref (w.1 0)), some (.int x1), some (.int x2), some (.int x3)] rfl (Nat.le_of_ble_eq_true rfl) (fun E hl X Y => ?_)
  refine g_iload_n X dX8_row_0 rfl rfl ?_
  obtain ⟨r3, σ2, h1, h⟩ := bd_e h
  refine g_callSI X [.int x1] (ok_HG_isRow X.inj h1) my_yX8_isRow mt_yX8_isRow ml_RX8_79 (by decide) rfl dX8_row_1 (Nat.le_of_ble_eq_true rfl) rfl rfl ?_
  refine g_if_eq X dX8_row_4 (tgt := 22) rfl rfl (fun c4 => ?_) (fun c4 => ?_)
  · replace h := if_t c4 h
    refine g_ldc2 X dX8_row_22 kc_RX8_83 rfl ?_
    obtain ⟨rfl, rfl⟩ := rt_e h
    exact g_lret X Y dX8_row_25
  · replace h := if_f c4 h
    refine g_iload_n X dX8_row_7 rfl rfl ?_
    refine g_if_lt X dX8_row_8 (tgt := 22) rfl rfl (fun c5 => ?_) (fun c5 => ?_)
    · replace h := if_t c5 h
      refine g_ldc2 X dX8_row_22 kc_RX8_83 rfl ?_
      obtain ⟨rfl, rfl⟩ := rt_e h
      exact g_lret X Y dX8_row_25
    · replace h := if_f c5 h
      refine g_iload_n X dX8_row_11 rfl rfl ?_
      refine g_iconst X kI_3 dX8_row_12 rfl ?_
      refine g_icmp_ge X dX8_row_13 (tgt := 22) rfl rfl (fun c6 => ?_) (fun c6 => ?_)
      · replace h := if_t c6 h
        refine g_ldc2 X dX8_row_22 kc_RX8_83 rfl ?_
        obtain ⟨rfl, rfl⟩ := rt_e h
        exact g_lret X Y dX8_row_25
      · replace h := if_f c6 h
        refine g_iload_n X dX8_row_16 rfl rfl ?_
        refine g_bipush X kB_40 dX8_row_17 rfl ?_
        refine g_icmp_le X dX8_row_19 (tgt := 26) rfl rfl (fun c7 => ?_) (fun c7 => ?_)
        · replace h := if_t c7 h
          refine g_iload_n X dX8_row_26 rfl rfl ?_
          refine g_if_ge X dX8_row_27 (tgt := 36) rfl rfl (fun c8 => ?_) (fun c8 => ?_)
          · replace h := if_t c8 h
            refine g_aload_n X dX8_row_36 rfl rfl ?_
            refine gf_RX8_12 X dX8_row_37 rfl ?_
            refine g_iload_n X dX8_row_40 rfl rfl ?_
            refine g_iload_n X dX8_row_41 rfl rfl ?_
            refine g_iload_n X dX8_row_42 rfl rfl ?_
            obtain ⟨σ10, h9, h⟩ := bv_e h
            refine g_callVV X [.int x1, .int x2, .int x3] (ok_Shelf_lay X.inj h9) my_yX5_lay mi_yX5_lay ms_yX5_lay ml_RX8_89 (by decide) rfl rfl (by decide) rfl dX8_row_43 (Nat.le_of_ble_eq_true rfl) rfl rfl ?_
            refine g_aload_n X dX8_row_46 rfl rfl ?_
            refine g_iload_n X dX8_row_47 rfl rfl ?_
            refine g_i2l X dX8_row_48 rfl ?_
            obtain ⟨r13, σ12, h11, h⟩ := bd_e h
            refine g_callVJ X [.long x3.toInt64] (ok_HG_fine X.inj h11) my_yX8_fine mi_yX8_fine ms_yX8_fine ml_RX8_93 (by decide) rfl rfl (by decide) rfl dX8_row_49 (Nat.le_of_ble_eq_true rfl) rfl rfl ?_
            obtain ⟨rfl, rfl⟩ := rt_e h
            exact g_lret X Y dX8_row_52
          · replace h := if_f c8 h
            refine g_aload_n X dX8_row_30 rfl rfl ?_
            refine g_iconst X kI_4 dX8_row_31 rfl ?_
            obtain ⟨r16, σ15, h14, h⟩ := bd_e h
            refine g_callVJ X [.int 4] (ok_HG_found X.inj h14) my_yX8_found mi_yX8_found ms_yX8_found ml_RX8_85 (by decide) rfl rfl (by decide) rfl dX8_row_32 (Nat.le_of_ble_eq_true rfl) rfl rfl ?_
            obtain ⟨rfl, rfl⟩ := rt_e h
            exact g_lret X Y dX8_row_35
        · replace h := if_f c7 h
          refine g_ldc2 X dX8_row_22 kc_RX8_83 rfl ?_
          obtain ⟨rfl, rfl⟩ := rt_e h
          exact g_lret X Y dX8_row_25

theorem dX5_isMissing_0 : decode cX5_isMissing 0 = .ok (.aload_n 0, 1) := by decide +kernel
theorem dX5_isMissing_1 : decode cX5_isMissing 1 = .ok (.getfield 9, 3) := by decide +kernel
theorem dX5_isMissing_4 : decode cX5_isMissing 4 = .ok (.iload_n 1, 1) := by decide +kernel
theorem dX5_isMissing_5 : decode cX5_isMissing 5 = .ok (.iaload, 1) := by decide +kernel
theorem dX5_isMissing_6 : decode cX5_isMissing 6 = .ok (.ldc 21, 2) := by decide +kernel
theorem dX5_isMissing_8 : decode cX5_isMissing 8 = .ok (.if_icmp .ne 7, 3) := by decide +kernel
theorem dX5_isMissing_11 : decode cX5_isMissing 11 = .ok (.iconst 1, 1) := by decide +kernel
theorem dX5_isMissing_12 : decode cX5_isMissing 12 = .ok (.goto 4, 3) := by decide +kernel
theorem dX5_isMissing_15 : decode cX5_isMissing 15 = .ok (.iconst 0, 1) := by decide +kernel
theorem dX5_isMissing_16 : decode cX5_isMissing 16 = .ok (.ireturn, 1) := by decide +kernel
def f_Shelf_isMissing (x1 : Int32) (σ : St) : Option (Int32 × St) :=
  ck (ib x1 8) <| if (rI σ 47 x1) = ((-1000000)) then (some (1, σ)) else (some (0, σ))
set_option maxRecDepth 4000 in
theorem ok_Shelf_isMissing {w : wT} (hi : wInj w) {l : Launch} {x1 : Int32} {σ σ' : St} {r : Int32} (h : f_Shelf_isMissing x1 σ = some (r, σ')) : gM w l yX5_isMissing cX5_isMissing 2 (some .boolean) 1 [.ref (w.1 1), .int x1] σ (some (.int r)) σ' := by
  unfold f_Shelf_isMissing at h
  refine gM_of hi (by decide) [some (.ref (w.1 1)), some (.int x1)] rfl (Nat.le_of_ble_eq_true rfl) (fun E hl X Y => ?_)
  refine g_aload_n X dX5_isMissing_0 rfl rfl ?_
  refine gf_RX5_9 X dX5_isMissing_1 rfl ?_
  refine g_iload_n X dX5_isMissing_4 rfl rfl ?_
  obtain ⟨c1, h⟩ := ck_e h
  refine g_iald X ar_47.1 ar_47.2.1 ar_47.2.2 (ib_e c1) dX5_isMissing_5 rfl ?_
  refine g_ldc X dX5_isMissing_6 kc_RX5_21 rfl ?_
  refine g_icmp_ne X dX5_isMissing_8 (tgt := 15) rfl rfl (fun c2 => ?_) (fun c2 => ?_)
  · replace h := if_f c2 h
    refine g_iconst X kI_0 dX5_isMissing_15 rfl ?_
    obtain ⟨rfl, rfl⟩ := rt_e h
    exact g_zret X Y rfl dX5_isMissing_16
  · replace h := if_t c2 h
    refine g_iconst X kI_1 dX5_isMissing_11 rfl ?_
    refine g_goto X dX5_isMissing_12 (tgt := 16) rfl ?_
    obtain ⟨rfl, rfl⟩ := rt_e h
    exact g_zret X Y rfl dX5_isMissing_16

theorem dX5_hasItems_0 : decode cX5_hasItems 0 = .ok (.iload_n 2, 1) := by decide +kernel
theorem dX5_hasItems_1 : decode cX5_hasItems 1 = .ok (.ifCond .lt 27, 3) := by decide +kernel
theorem dX5_hasItems_4 : decode cX5_hasItems 4 = .ok (.iload_n 3, 1) := by decide +kernel
theorem dX5_hasItems_5 : decode cX5_hasItems 5 = .ok (.ifCond .lt 23, 3) := by decide +kernel
theorem dX5_hasItems_8 : decode cX5_hasItems 8 = .ok (.iload_n 2, 1) := by decide +kernel
theorem dX5_hasItems_9 : decode cX5_hasItems 9 = .ok (.i2l, 1) := by decide +kernel
theorem dX5_hasItems_10 : decode cX5_hasItems 10 = .ok (.iload_n 3, 1) := by decide +kernel
theorem dX5_hasItems_11 : decode cX5_hasItems 11 = .ok (.i2l, 1) := by decide +kernel
theorem dX5_hasItems_12 : decode cX5_hasItems 12 = .ok (.ladd, 1) := by decide +kernel
theorem dX5_hasItems_13 : decode cX5_hasItems 13 = .ok (.aload_n 0, 1) := by decide +kernel
theorem dX5_hasItems_14 : decode cX5_hasItems 14 = .ok (.getfield 15, 3) := by decide +kernel
theorem dX5_hasItems_17 : decode cX5_hasItems 17 = .ok (.iload_n 1, 1) := by decide +kernel
theorem dX5_hasItems_18 : decode cX5_hasItems 18 = .ok (.iaload, 1) := by decide +kernel
theorem dX5_hasItems_19 : decode cX5_hasItems 19 = .ok (.i2l, 1) := by decide +kernel
theorem dX5_hasItems_20 : decode cX5_hasItems 20 = .ok (.lcmp, 1) := by decide +kernel
theorem dX5_hasItems_21 : decode cX5_hasItems 21 = .ok (.ifCond .gt 7, 3) := by decide +kernel
theorem dX5_hasItems_24 : decode cX5_hasItems 24 = .ok (.iconst 1, 1) := by decide +kernel
theorem dX5_hasItems_25 : decode cX5_hasItems 25 = .ok (.goto 4, 3) := by decide +kernel
theorem dX5_hasItems_28 : decode cX5_hasItems 28 = .ok (.iconst 0, 1) := by decide +kernel
theorem dX5_hasItems_29 : decode cX5_hasItems 29 = .ok (.ireturn, 1) := by decide +kernel
def f_Shelf_hasItems (x1 : Int32) (x2 : Int32) (x3 : Int32) (σ : St) : Option (Int32 × St) :=
  if x2 < 0 then (some (0, σ)) else (if x3 < 0 then (some (0, σ)) else (ck (ib x1 8) <| if ((rI σ 48 x1).toInt64) < (x2.toInt64 + x3.toInt64) then (some (0, σ)) else (some (1, σ))))
set_option maxRecDepth 4000 in
theorem ok_Shelf_hasItems {w : wT} (hi : wInj w) {l : Launch} {x1 : Int32} {x2 : Int32} {x3 : Int32} {σ σ' : St} {r : Int32} (h : f_Shelf_hasItems x1 x2 x3 σ = some (r, σ')) : gM w l yX5_hasItems cX5_hasItems 4 (some .boolean) 1 [.ref (w.1 1), .int x1, .int x2, .int x3] σ (some (.int r)) σ' := by
  unfold f_Shelf_hasItems at h
  refine gM_of hi (by decide) [some (.ref (w.1 1)), some (.int x1), some (.int x2), some (.int x3)] rfl (Nat.le_of_ble_eq_true rfl) (fun E hl X Y => ?_)
  refine g_iload_n X dX5_hasItems_0 rfl rfl ?_
  refine g_if_lt X dX5_hasItems_1 (tgt := 28) rfl rfl (fun c1 => ?_) (fun c1 => ?_)
  · replace h := if_t c1 h
    refine g_iconst X kI_0 dX5_hasItems_28 rfl ?_
    obtain ⟨rfl, rfl⟩ := rt_e h
    exact g_zret X Y rfl dX5_hasItems_29
  · replace h := if_f c1 h
    refine g_iload_n X dX5_hasItems_4 rfl rfl ?_
    refine g_if_lt X dX5_hasItems_5 (tgt := 28) rfl rfl (fun c2 => ?_) (fun c2 => ?_)
    · replace h := if_t c2 h
      refine g_iconst X kI_0 dX5_hasItems_28 rfl ?_
      obtain ⟨rfl, rfl⟩ := rt_e h
      exact g_zret X Y rfl dX5_hasItems_29
    · replace h := if_f c2 h
      refine g_iload_n X dX5_hasItems_8 rfl rfl ?_
      refine g_i2l X dX5_hasItems_9 rfl ?_
      refine g_iload_n X dX5_hasItems_10 rfl rfl ?_
      refine g_i2l X dX5_hasItems_11 rfl ?_
      refine g_ladd X dX5_hasItems_12 rfl ?_
      refine g_aload_n X dX5_hasItems_13 rfl rfl ?_
      refine gf_RX5_15 X dX5_hasItems_14 rfl ?_
      refine g_iload_n X dX5_hasItems_17 rfl rfl ?_
      obtain ⟨c3, h⟩ := ck_e h
      refine g_iald X ar_48.1 ar_48.2.1 ar_48.2.2 (ib_e c3) dX5_hasItems_18 rfl ?_
      refine g_i2l X dX5_hasItems_19 rfl ?_
      refine g_lcmp_gt X dX5_hasItems_20 rfl dX5_hasItems_21 (tgt := 28) rfl rfl (fun c4 => ?_) (fun c4 => ?_)
      · replace h := if_t c4 h
        refine g_iconst X kI_0 dX5_hasItems_28 rfl ?_
        obtain ⟨rfl, rfl⟩ := rt_e h
        exact g_zret X Y rfl dX5_hasItems_29
      · replace h := if_f c4 h
        refine g_iconst X kI_1 dX5_hasItems_24 rfl ?_
        refine g_goto X dX5_hasItems_25 (tgt := 29) rfl ?_
        obtain ⟨rfl, rfl⟩ := rt_e h
        exact g_zret X Y rfl dX5_hasItems_29

theorem dX5_put_0 : decode cX5_put 0 = .ok (.aload_n 0, 1) := by decide +kernel
theorem dX5_put_1 : decode cX5_put 1 = .ok (.getfield 9, 3) := by decide +kernel
theorem dX5_put_4 : decode cX5_put 4 = .ok (.iload_n 1, 1) := by decide +kernel
theorem dX5_put_5 : decode cX5_put 5 = .ok (.iaload, 1) := by decide +kernel
theorem dX5_put_6 : decode cX5_put 6 = .ok (.ifCond .ne 8, 3) := by decide +kernel
theorem dX5_put_9 : decode cX5_put 9 = .ok (.iload_n 3, 1) := by decide +kernel
theorem dX5_put_10 : decode cX5_put 10 = .ok (.i2b, 1) := by decide +kernel
theorem dX5_put_11 : decode cX5_put 11 = .ok (.goto 19, 3) := by decide +kernel
theorem dX5_put_14 : decode cX5_put 14 = .ok (.aload_n 0, 1) := by decide +kernel
theorem dX5_put_15 : decode cX5_put 15 = .ok (.getfield 9, 3) := by decide +kernel
theorem dX5_put_18 : decode cX5_put 18 = .ok (.iload_n 1, 1) := by decide +kernel
theorem dX5_put_19 : decode cX5_put 19 = .ok (.iaload, 1) := by decide +kernel
theorem dX5_put_20 : decode cX5_put 20 = .ok (.iconst 1, 1) := by decide +kernel
theorem dX5_put_21 : decode cX5_put 21 = .ok (.if_icmp .ne 8, 3) := by decide +kernel
theorem dX5_put_24 : decode cX5_put 24 = .ok (.iload_n 3, 1) := by decide +kernel
theorem dX5_put_25 : decode cX5_put 25 = .ok (.i2s, 1) := by decide +kernel
theorem dX5_put_26 : decode cX5_put 26 = .ok (.goto 4, 3) := by decide +kernel
theorem dX5_put_29 : decode cX5_put 29 = .ok (.iload_n 3, 1) := by decide +kernel
theorem dX5_put_30 : decode cX5_put 30 = .ok (.istore 4, 2) := by decide +kernel
theorem dX5_put_32 : decode cX5_put 32 = .ok (.aload_n 0, 1) := by decide +kernel
theorem dX5_put_33 : decode cX5_put 33 = .ok (.getfield 18, 3) := by decide +kernel
theorem dX5_put_36 : decode cX5_put 36 = .ok (.iload_n 1, 1) := by decide +kernel
theorem dX5_put_37 : decode cX5_put 37 = .ok (.bipush 40, 2) := by decide +kernel
theorem dX5_put_39 : decode cX5_put 39 = .ok (.imul, 1) := by decide +kernel
theorem dX5_put_40 : decode cX5_put 40 = .ok (.iload_n 2, 1) := by decide +kernel
theorem dX5_put_41 : decode cX5_put 41 = .ok (.iadd, 1) := by decide +kernel
theorem dX5_put_42 : decode cX5_put 42 = .ok (.iload 4, 2) := by decide +kernel
theorem dX5_put_44 : decode cX5_put 44 = .ok (.iastore, 1) := by decide +kernel
theorem dX5_put_45 : decode cX5_put 45 = .ok (.iload 4, 2) := by decide +kernel
theorem dX5_put_47 : decode cX5_put 47 = .ok (.ireturn, 1) := by decide +kernel
def f_Shelf_put_b30 (x1 : Int32) (x2 : Int32) (xs0 : Int32) (σ : St) : Option (Int32 × St) :=
  ck (ib ((x1 * 40) + x2) 320) <| lE (stA σ 49 ((x1 * 40) + x2).toNatClampNeg xs0) fun σ2 => some (xs0, σ2)
set_option maxRecDepth 4000 in
theorem ok_Shelf_put_b30 {E : gE} {w : wT} {σ' : St} {r : Int32} (X : gC E w cX5_put 5 RX5 1) (Y : gQ E w (some .int) (some (.int r)) σ') {x1 : Int32} {x2 : Int32} {xs0 : Int32} (σ : St) (h : f_Shelf_put_b30 x1 x2 xs0 σ = some (r, σ')) : gW E w 5 σ 30 [some (.ref (w.1 1)), some (.int x1), some (.int x2)] [.int xs0] := by
  unfold f_Shelf_put_b30 at h
  refine g_istore X [some (.ref (w.1 1)), some (.int x1), some (.int x2), none, some (.int xs0)] dX5_put_30 (Nat.le_of_ble_eq_true rfl) rfl rfl rfl ?_
  refine g_aload_n X dX5_put_32 rfl rfl ?_
  refine gf_RX5_18 X dX5_put_33 rfl ?_
  refine g_iload_n X dX5_put_36 rfl rfl ?_
  refine g_bipush X kB_40 dX5_put_37 rfl ?_
  refine g_imul X dX5_put_39 rfl ?_
  refine g_iload_n X dX5_put_40 rfl rfl ?_
  refine g_iadd X dX5_put_41 rfl ?_
  refine g_iload X dX5_put_42 rfl rfl ?_
  obtain ⟨c1, h⟩ := ck_e h
  refine g_iast X ar_49.1 ar_49.2.1 ar_49.2.2 (ib_e c1) dX5_put_44 rfl (fun σ2 e3 => ?_)
  replace h := lE_c e3 h
  refine g_iload X dX5_put_45 rfl rfl ?_
  obtain ⟨rfl, rfl⟩ := rt_e h
  exact g_iret X Y dX5_put_47

def f_Shelf_put (x1 : Int32) (x2 : Int32) (x3 : Int32) (σ : St) : Option (Int32 × St) :=
  ck (ib x1 8) <| if (rI σ 47 x1) = 0 then (f_Shelf_put_b30 x1 x2 x3.toInt8.toInt32 σ) else (ck (ib x1 8) <| if (rI σ 47 x1) = 1 then (f_Shelf_put_b30 x1 x2 x3.toInt16.toInt32 σ) else (f_Shelf_put_b30 x1 x2 x3 σ))
set_option maxRecDepth 4000 in
theorem ok_Shelf_put {w : wT} (hi : wInj w) {l : Launch} {x1 : Int32} {x2 : Int32} {x3 : Int32} {σ σ' : St} {r : Int32} (h : f_Shelf_put x1 x2 x3 σ = some (r, σ')) : gM w l yX5_put cX5_put 5 (some .int) 1 [.ref (w.1 1), .int x1, .int x2, .int x3] σ (some (.int r)) σ' := by
  unfold f_Shelf_put at h
  refine gM_of hi (by decide) [some (.ref (w.1 1)), some (.int x1), some (.int x2), some (.int x3)] rfl (Nat.le_of_ble_eq_true rfl) (fun E hl X Y => ?_)
  refine g_aload_n X dX5_put_0 rfl rfl ?_
  refine gf_RX5_9 X dX5_put_1 rfl ?_
  refine g_iload_n X dX5_put_4 rfl rfl ?_
  obtain ⟨c1, h⟩ := ck_e h
  refine g_iald X ar_47.1 ar_47.2.1 ar_47.2.2 (ib_e c1) dX5_put_5 rfl ?_
  refine g_if_ne X dX5_put_6 (tgt := 14) rfl rfl (fun c2 => ?_) (fun c2 => ?_)
  · replace h := if_f c2 h
    refine g_aload_n X dX5_put_14 rfl rfl ?_
    refine gf_RX5_9 X dX5_put_15 rfl ?_
    refine g_iload_n X dX5_put_18 rfl rfl ?_
    obtain ⟨c3, h⟩ := ck_e h
    refine g_iald X ar_47.1 ar_47.2.1 ar_47.2.2 (ib_e c3) dX5_put_19 rfl ?_
    refine g_iconst X kI_1 dX5_put_20 rfl ?_
    refine g_icmp_ne X dX5_put_21 (tgt := 29) rfl rfl (fun c4 => ?_) (fun c4 => ?_)
    · replace h := if_f c4 h
      refine g_iload_n X dX5_put_29 rfl rfl ?_
      exact g_le (lle_s (lle_s (lle_s (lle_0)))) (ok_Shelf_put_b30 X Y σ h)
    · replace h := if_t c4 h
      refine g_iload_n X dX5_put_24 rfl rfl ?_
      refine g_i2s X dX5_put_25 rfl ?_
      refine g_goto X dX5_put_26 (tgt := 30) rfl ?_
      exact g_le (lle_s (lle_s (lle_s (lle_0)))) (ok_Shelf_put_b30 X Y σ h)
  · replace h := if_t c2 h
    refine g_iload_n X dX5_put_9 rfl rfl ?_
    refine g_i2b X dX5_put_10 rfl ?_
    refine g_goto X dX5_put_11 (tgt := 30) rfl ?_
    exact g_le (lle_s (lle_s (lle_s (lle_0)))) (ok_Shelf_put_b30 X Y σ h)

theorem dX8_set_0 : decode cX8_set 0 = .ok (.iload_n 1, 1) := by decide +kernel
theorem dX8_set_1 : decode cX8_set 1 = .ok (.invokestatic 79, 3) := by decide +kernel
theorem dX8_set_4 : decode cX8_set 4 = .ok (.ifCond .ne 7, 3) := by decide +kernel
theorem dX8_set_7 : decode cX8_set 7 = .ok (.ldc2_w 83, 3) := by decide +kernel
theorem dX8_set_10 : decode cX8_set 10 = .ok (.lreturn, 1) := by decide +kernel
theorem dX8_set_11 : decode cX8_set 11 = .ok (.aload_n 0, 1) := by decide +kernel
theorem dX8_set_12 : decode cX8_set 12 = .ok (.getfield 12, 3) := by decide +kernel
theorem dX8_set_15 : decode cX8_set 15 = .ok (.iload_n 1, 1) := by decide +kernel
theorem dX8_set_16 : decode cX8_set 16 = .ok (.invokevirtual 97, 3) := by decide +kernel
theorem dX8_set_19 : decode cX8_set 19 = .ok (.ifCond .eq 9, 3) := by decide +kernel
theorem dX8_set_22 : decode cX8_set 22 = .ok (.aload_n 0, 1) := by decide +kernel
theorem dX8_set_23 : decode cX8_set 23 = .ok (.iconst 1, 1) := by decide +kernel
theorem dX8_set_24 : decode cX8_set 24 = .ok (.invokevirtual 85, 3) := by decide +kernel
theorem dX8_set_27 : decode cX8_set 27 = .ok (.lreturn, 1) := by decide +kernel
theorem dX8_set_28 : decode cX8_set 28 = .ok (.aload_n 0, 1) := by decide +kernel
theorem dX8_set_29 : decode cX8_set 29 = .ok (.getfield 12, 3) := by decide +kernel
theorem dX8_set_32 : decode cX8_set 32 = .ok (.iload_n 1, 1) := by decide +kernel
theorem dX8_set_33 : decode cX8_set 33 = .ok (.iload_n 2, 1) := by decide +kernel
theorem dX8_set_34 : decode cX8_set 34 = .ok (.iconst 1, 1) := by decide +kernel
theorem dX8_set_35 : decode cX8_set 35 = .ok (.invokevirtual 100, 3) := by decide +kernel
theorem dX8_set_38 : decode cX8_set 38 = .ok (.ifCond .ne 9, 3) := by decide +kernel
theorem dX8_set_41 : decode cX8_set 41 = .ok (.aload_n 0, 1) := by decide +kernel
theorem dX8_set_42 : decode cX8_set 42 = .ok (.iconst 2, 1) := by decide +kernel
theorem dX8_set_43 : decode cX8_set 43 = .ok (.invokevirtual 85, 3) := by decide +kernel
theorem dX8_set_46 : decode cX8_set 46 = .ok (.lreturn, 1) := by decide +kernel
theorem dX8_set_47 : decode cX8_set 47 = .ok (.aload_n 0, 1) := by decide +kernel
theorem dX8_set_48 : decode cX8_set 48 = .ok (.aload_n 0, 1) := by decide +kernel
theorem dX8_set_49 : decode cX8_set 49 = .ok (.getfield 12, 3) := by decide +kernel
theorem dX8_set_52 : decode cX8_set 52 = .ok (.iload_n 1, 1) := by decide +kernel
theorem dX8_set_53 : decode cX8_set 53 = .ok (.iload_n 2, 1) := by decide +kernel
theorem dX8_set_54 : decode cX8_set 54 = .ok (.iload_n 3, 1) := by decide +kernel
theorem dX8_set_55 : decode cX8_set 55 = .ok (.invokevirtual 104, 3) := by decide +kernel
theorem dX8_set_58 : decode cX8_set 58 = .ok (.i2l, 1) := by decide +kernel
theorem dX8_set_59 : decode cX8_set 59 = .ok (.invokevirtual 93, 3) := by decide +kernel
theorem dX8_set_62 : decode cX8_set 62 = .ok (.lreturn, 1) := by decide +kernel
def f_HG_set (x1 : Int32) (x2 : Int32) (x3 : Int32) (σ : St) : Option (Int64 × St) :=
  bd (f_HG_isRow x1 σ) fun r3 σ2 => if r3 = 0 then (some ((-9000000000000000001), σ2)) else (bd (f_Shelf_isMissing x1 σ2) fun r7 σ6 => if r7 = 0 then (bd (f_Shelf_hasItems x1 x2 1 σ6) fun r11 σ10 => if r11 = 0 then (bd (f_HG_found 2 σ10) fun r21 σ20 => some (r21, σ20)) else (bd (f_Shelf_put x1 x2 x3 σ10) fun r15 σ14 => bd (f_HG_fine r15.toInt64 σ14) fun r18 σ17 => some (r18, σ17))) else (bd (f_HG_found 1 σ6) fun r24 σ23 => some (r24, σ23)))
set_option maxRecDepth 4000 in
theorem ok_HG_set {w : wT} (hi : wInj w) {l : Launch} {x1 : Int32} {x2 : Int32} {x3 : Int32} {σ σ' : St} {r : Int64} (h : f_HG_set x1 x2 x3 σ = some (r, σ')) : gM w l yX8_set cX8_set 4 (some .long) 2 [.ref (w.1 0), .int x1, .int x2, .int x3] σ (some (.long r)) σ' := by
  unfold f_HG_set at h
  refine gM_of hi (by decide) [some (.ref (w.1 0)), some (.int x1), some (.int x2), some (.int x3)] rfl (Nat.le_of_ble_eq_true rfl) (fun E hl X Y => ?_)
  refine g_iload_n X dX8_set_0 rfl rfl ?_
  obtain ⟨r3, σ2, h1, h⟩ := bd_e h
  refine g_callSI X [.int x1] (ok_HG_isRow X.inj h1) my_yX8_isRow mt_yX8_isRow ml_RX8_79 (by decide) rfl dX8_set_1 (Nat.le_of_ble_eq_true rfl) rfl rfl ?_
  refine g_if_ne X dX8_set_4 (tgt := 11) rfl rfl (fun c4 => ?_) (fun c4 => ?_)
  · replace h := if_f c4 h
    refine g_aload_n X dX8_set_11 rfl rfl ?_
    refine gf_RX8_12 X dX8_set_12 rfl ?_
    refine g_iload_n X dX8_set_15 rfl rfl ?_
    obtain ⟨r7, σ6, h5, h⟩ := bd_e h
    refine g_callVI X [.int x1] (ok_Shelf_isMissing X.inj h5) my_yX5_isMissing mi_yX5_isMissing ms_yX5_isMissing ml_RX8_97 (by decide) rfl rfl (by decide) rfl dX8_set_16 (Nat.le_of_ble_eq_true rfl) rfl rfl ?_
    refine g_if_eq X dX8_set_19 (tgt := 28) rfl rfl (fun c8 => ?_) (fun c8 => ?_)
    · replace h := if_t c8 h
      refine g_aload_n X dX8_set_28 rfl rfl ?_
      refine gf_RX8_12 X dX8_set_29 rfl ?_
      refine g_iload_n X dX8_set_32 rfl rfl ?_
      refine g_iload_n X dX8_set_33 rfl rfl ?_
      refine g_iconst X kI_1 dX8_set_34 rfl ?_
      obtain ⟨r11, σ10, h9, h⟩ := bd_e h
      refine g_callVI X [.int x1, .int x2, .int 1] (ok_Shelf_hasItems X.inj h9) my_yX5_hasItems mi_yX5_hasItems ms_yX5_hasItems ml_RX8_100 (by decide) rfl rfl (by decide) rfl dX8_set_35 (Nat.le_of_ble_eq_true rfl) rfl rfl ?_
      refine g_if_ne X dX8_set_38 (tgt := 47) rfl rfl (fun c12 => ?_) (fun c12 => ?_)
      · replace h := if_f c12 h
        refine g_aload_n X dX8_set_47 rfl rfl ?_
        refine g_aload_n X dX8_set_48 rfl rfl ?_
        refine gf_RX8_12 X dX8_set_49 rfl ?_
        refine g_iload_n X dX8_set_52 rfl rfl ?_
        refine g_iload_n X dX8_set_53 rfl rfl ?_
        refine g_iload_n X dX8_set_54 rfl rfl ?_
        obtain ⟨r15, σ14, h13, h⟩ := bd_e h
        refine g_callVI X [.int x1, .int x2, .int x3] (ok_Shelf_put X.inj h13) my_yX5_put mi_yX5_put ms_yX5_put ml_RX8_104 (by decide) rfl rfl (by decide) rfl dX8_set_55 (Nat.le_of_ble_eq_true rfl) rfl rfl ?_
        refine g_i2l X dX8_set_58 rfl ?_
        obtain ⟨r18, σ17, h16, h⟩ := bd_e h
        refine g_callVJ X [.long r15.toInt64] (ok_HG_fine X.inj h16) my_yX8_fine mi_yX8_fine ms_yX8_fine ml_RX8_93 (by decide) rfl rfl (by decide) rfl dX8_set_59 (Nat.le_of_ble_eq_true rfl) rfl rfl ?_
        obtain ⟨rfl, rfl⟩ := rt_e h
        exact g_lret X Y dX8_set_62
      · replace h := if_t c12 h
        refine g_aload_n X dX8_set_41 rfl rfl ?_
        refine g_iconst X kI_2 dX8_set_42 rfl ?_
        obtain ⟨r21, σ20, h19, h⟩ := bd_e h
        refine g_callVJ X [.int 2] (ok_HG_found X.inj h19) my_yX8_found mi_yX8_found ms_yX8_found ml_RX8_85 (by decide) rfl rfl (by decide) rfl dX8_set_43 (Nat.le_of_ble_eq_true rfl) rfl rfl ?_
        obtain ⟨rfl, rfl⟩ := rt_e h
        exact g_lret X Y dX8_set_46
    · replace h := if_f c8 h
      refine g_aload_n X dX8_set_22 rfl rfl ?_
      refine g_iconst X kI_1 dX8_set_23 rfl ?_
      obtain ⟨r24, σ23, h22, h⟩ := bd_e h
      refine g_callVJ X [.int 1] (ok_HG_found X.inj h22) my_yX8_found mi_yX8_found ms_yX8_found ml_RX8_85 (by decide) rfl rfl (by decide) rfl dX8_set_24 (Nat.le_of_ble_eq_true rfl) rfl rfl ?_
      obtain ⟨rfl, rfl⟩ := rt_e h
      exact g_lret X Y dX8_set_27
  · replace h := if_t c4 h
    refine g_ldc2 X dX8_set_7 kc_RX8_83 rfl ?_
    obtain ⟨rfl, rfl⟩ := rt_e h
    exact g_lret X Y dX8_set_10

theorem dX5_bring_0 : decode cX5_bring 0 = .ok (.aload_n 0, 1) := by decide +kernel
theorem dX5_bring_1 : decode cX5_bring 1 = .ok (.getfield 18, 3) := by decide +kernel
theorem dX5_bring_4 : decode cX5_bring 4 = .ok (.iload_n 1, 1) := by decide +kernel
theorem dX5_bring_5 : decode cX5_bring 5 = .ok (.bipush 40, 2) := by decide +kernel
theorem dX5_bring_7 : decode cX5_bring 7 = .ok (.imul, 1) := by decide +kernel
theorem dX5_bring_8 : decode cX5_bring 8 = .ok (.iload_n 2, 1) := by decide +kernel
theorem dX5_bring_9 : decode cX5_bring 9 = .ok (.iadd, 1) := by decide +kernel
theorem dX5_bring_10 : decode cX5_bring 10 = .ok (.aload_n 0, 1) := by decide +kernel
theorem dX5_bring_11 : decode cX5_bring 11 = .ok (.getfield 18, 3) := by decide +kernel
theorem dX5_bring_14 : decode cX5_bring 14 = .ok (.iload_n 3, 1) := by decide +kernel
theorem dX5_bring_15 : decode cX5_bring 15 = .ok (.bipush 40, 2) := by decide +kernel
theorem dX5_bring_17 : decode cX5_bring 17 = .ok (.imul, 1) := by decide +kernel
theorem dX5_bring_18 : decode cX5_bring 18 = .ok (.iload 4, 2) := by decide +kernel
theorem dX5_bring_20 : decode cX5_bring 20 = .ok (.iadd, 1) := by decide +kernel
theorem dX5_bring_21 : decode cX5_bring 21 = .ok (.iload 5, 2) := by decide +kernel
theorem dX5_bring_23 : decode cX5_bring 23 = .ok (.invokestatic 28, 3) := by decide +kernel
theorem dX5_bring_26 : decode cX5_bring 26 = .ok (.return_, 1) := by decide +kernel
def f_Shelf_bring (x1 : Int32) (x2 : Int32) (x3 : Int32) (x4 : Int32) (x5 : Int32) (σ : St) : Option St :=
  ck (cpO ((x1 * 40) + x2) ((x3 * 40) + x4) x5 320) <| lE (stC σ 49 (va_cpy (σ.1 49) (σ.1 49) ((x1 * 40) + x2).toNatClampNeg ((x3 * 40) + x4).toNatClampNeg x5.toNatClampNeg)) fun σ2 => some σ2
set_option maxRecDepth 4000 in
theorem ok_Shelf_bring {w : wT} (hi : wInj w) {l : Launch} {x1 : Int32} {x2 : Int32} {x3 : Int32} {x4 : Int32} {x5 : Int32} {σ σ' : St} (h : f_Shelf_bring x1 x2 x3 x4 x5 σ = some σ') : gM w l yX5_bring cX5_bring 6 none 1 [.ref (w.1 1), .int x1, .int x2, .int x3, .int x4, .int x5] σ none σ' := by
  unfold f_Shelf_bring at h
  refine gM_of hi (by decide) [some (.ref (w.1 1)), some (.int x1), some (.int x2), some (.int x3), some (.int x4), some (.int x5)] rfl (Nat.le_of_ble_eq_true rfl) (fun E hl X Y => ?_)
  refine g_aload_n X dX5_bring_0 rfl rfl ?_
  refine gf_RX5_18 X dX5_bring_1 rfl ?_
  refine g_iload_n X dX5_bring_4 rfl rfl ?_
  refine g_bipush X kB_40 dX5_bring_5 rfl ?_
  refine g_imul X dX5_bring_7 rfl ?_
  refine g_iload_n X dX5_bring_8 rfl rfl ?_
  refine g_iadd X dX5_bring_9 rfl ?_
  refine g_aload_n X dX5_bring_10 rfl rfl ?_
  refine gf_RX5_18 X dX5_bring_11 rfl ?_
  refine g_iload_n X dX5_bring_14 rfl rfl ?_
  refine g_bipush X kB_40 dX5_bring_15 rfl ?_
  refine g_imul X dX5_bring_17 rfl ?_
  refine g_iload X dX5_bring_18 rfl rfl ?_
  refine g_iadd X dX5_bring_20 rfl ?_
  refine g_iload X dX5_bring_21 rfl rfl ?_
  obtain ⟨c1, h⟩ := ck_e h
  refine g_copy X ar_49.1 ar_49.2.1 ar_49.2.2 (cpO_e c1) ml_RX5_28 (by decide) dX5_bring_23 (Nat.le_of_ble_eq_true rfl) rfl (fun σ2 e3 => ?_)
  replace h := lE_c e3 h
  obtain rfl := rv_e h
  exact g_vret X Y dX5_bring_26

theorem dX8_copy_0 : decode cX8_copy 0 = .ok (.iload_n 1, 1) := by decide +kernel
theorem dX8_copy_1 : decode cX8_copy 1 = .ok (.invokestatic 79, 3) := by decide +kernel
theorem dX8_copy_4 : decode cX8_copy 4 = .ok (.ifCond .eq 10, 3) := by decide +kernel
theorem dX8_copy_7 : decode cX8_copy 7 = .ok (.iload_n 3, 1) := by decide +kernel
theorem dX8_copy_8 : decode cX8_copy 8 = .ok (.invokestatic 79, 3) := by decide +kernel
theorem dX8_copy_11 : decode cX8_copy 11 = .ok (.ifCond .ne 7, 3) := by decide +kernel
theorem dX8_copy_14 : decode cX8_copy 14 = .ok (.ldc2_w 83, 3) := by decide +kernel
theorem dX8_copy_17 : decode cX8_copy 17 = .ok (.lreturn, 1) := by decide +kernel
theorem dX8_copy_18 : decode cX8_copy 18 = .ok (.aload_n 0, 1) := by decide +kernel
theorem dX8_copy_19 : decode cX8_copy 19 = .ok (.getfield 12, 3) := by decide +kernel
theorem dX8_copy_22 : decode cX8_copy 22 = .ok (.iload_n 1, 1) := by decide +kernel
theorem dX8_copy_23 : decode cX8_copy 23 = .ok (.invokevirtual 97, 3) := by decide +kernel
theorem dX8_copy_26 : decode cX8_copy 26 = .ok (.ifCond .ne 14, 3) := by decide +kernel
theorem dX8_copy_29 : decode cX8_copy 29 = .ok (.aload_n 0, 1) := by decide +kernel
theorem dX8_copy_30 : decode cX8_copy 30 = .ok (.getfield 12, 3) := by decide +kernel
theorem dX8_copy_33 : decode cX8_copy 33 = .ok (.iload_n 3, 1) := by decide +kernel
theorem dX8_copy_34 : decode cX8_copy 34 = .ok (.invokevirtual 97, 3) := by decide +kernel
theorem dX8_copy_37 : decode cX8_copy 37 = .ok (.ifCond .eq 9, 3) := by decide +kernel
theorem dX8_copy_40 : decode cX8_copy 40 = .ok (.aload_n 0, 1) := by decide +kernel
theorem dX8_copy_41 : decode cX8_copy 41 = .ok (.iconst 1, 1) := by decide +kernel
theorem dX8_copy_42 : decode cX8_copy 42 = .ok (.invokevirtual 85, 3) := by decide +kernel
theorem dX8_copy_45 : decode cX8_copy 45 = .ok (.lreturn, 1) := by decide +kernel
theorem dX8_copy_46 : decode cX8_copy 46 = .ok (.aload_n 0, 1) := by decide +kernel
theorem dX8_copy_47 : decode cX8_copy 47 = .ok (.getfield 12, 3) := by decide +kernel
theorem dX8_copy_50 : decode cX8_copy 50 = .ok (.getfield 108, 3) := by decide +kernel
theorem dX8_copy_53 : decode cX8_copy 53 = .ok (.iload_n 1, 1) := by decide +kernel
theorem dX8_copy_54 : decode cX8_copy 54 = .ok (.iaload, 1) := by decide +kernel
theorem dX8_copy_55 : decode cX8_copy 55 = .ok (.aload_n 0, 1) := by decide +kernel
theorem dX8_copy_56 : decode cX8_copy 56 = .ok (.getfield 12, 3) := by decide +kernel
theorem dX8_copy_59 : decode cX8_copy 59 = .ok (.getfield 108, 3) := by decide +kernel
theorem dX8_copy_62 : decode cX8_copy 62 = .ok (.iload_n 3, 1) := by decide +kernel
theorem dX8_copy_63 : decode cX8_copy 63 = .ok (.iaload, 1) := by decide +kernel
theorem dX8_copy_64 : decode cX8_copy 64 = .ok (.if_icmp .eq 9, 3) := by decide +kernel
theorem dX8_copy_67 : decode cX8_copy 67 = .ok (.aload_n 0, 1) := by decide +kernel
theorem dX8_copy_68 : decode cX8_copy 68 = .ok (.iconst 5, 1) := by decide +kernel
theorem dX8_copy_69 : decode cX8_copy 69 = .ok (.invokevirtual 85, 3) := by decide +kernel
theorem dX8_copy_72 : decode cX8_copy 72 = .ok (.lreturn, 1) := by decide +kernel
theorem dX8_copy_73 : decode cX8_copy 73 = .ok (.aload_n 0, 1) := by decide +kernel
theorem dX8_copy_74 : decode cX8_copy 74 = .ok (.getfield 12, 3) := by decide +kernel
theorem dX8_copy_77 : decode cX8_copy 77 = .ok (.iload_n 1, 1) := by decide +kernel
theorem dX8_copy_78 : decode cX8_copy 78 = .ok (.iload_n 2, 1) := by decide +kernel
theorem dX8_copy_79 : decode cX8_copy 79 = .ok (.iload 5, 2) := by decide +kernel
theorem dX8_copy_81 : decode cX8_copy 81 = .ok (.invokevirtual 100, 3) := by decide +kernel
theorem dX8_copy_84 : decode cX8_copy 84 = .ok (.ifCond .eq 18, 3) := by decide +kernel
theorem dX8_copy_87 : decode cX8_copy 87 = .ok (.aload_n 0, 1) := by decide +kernel
theorem dX8_copy_88 : decode cX8_copy 88 = .ok (.getfield 12, 3) := by decide +kernel
theorem dX8_copy_91 : decode cX8_copy 91 = .ok (.iload_n 3, 1) := by decide +kernel
theorem dX8_copy_92 : decode cX8_copy 92 = .ok (.iload 4, 2) := by decide +kernel
theorem dX8_copy_94 : decode cX8_copy 94 = .ok (.iload 5, 2) := by decide +kernel
theorem dX8_copy_96 : decode cX8_copy 96 = .ok (.invokevirtual 100, 3) := by decide +kernel
theorem dX8_copy_99 : decode cX8_copy 99 = .ok (.ifCond .ne 9, 3) := by decide +kernel
theorem dX8_copy_102 : decode cX8_copy 102 = .ok (.aload_n 0, 1) := by decide +kernel
theorem dX8_copy_103 : decode cX8_copy 103 = .ok (.iconst 2, 1) := by decide +kernel
theorem dX8_copy_104 : decode cX8_copy 104 = .ok (.invokevirtual 85, 3) := by decide +kernel
theorem dX8_copy_107 : decode cX8_copy 107 = .ok (.lreturn, 1) := by decide +kernel
theorem dX8_copy_108 : decode cX8_copy 108 = .ok (.aload_n 0, 1) := by decide +kernel
theorem dX8_copy_109 : decode cX8_copy 109 = .ok (.getfield 12, 3) := by decide +kernel
theorem dX8_copy_112 : decode cX8_copy 112 = .ok (.iload_n 1, 1) := by decide +kernel
theorem dX8_copy_113 : decode cX8_copy 113 = .ok (.iload_n 2, 1) := by decide +kernel
theorem dX8_copy_114 : decode cX8_copy 114 = .ok (.iload_n 3, 1) := by decide +kernel
theorem dX8_copy_115 : decode cX8_copy 115 = .ok (.iload 4, 2) := by decide +kernel
theorem dX8_copy_117 : decode cX8_copy 117 = .ok (.iload 5, 2) := by decide +kernel
theorem dX8_copy_119 : decode cX8_copy 119 = .ok (.invokevirtual 112, 3) := by decide +kernel
theorem dX8_copy_122 : decode cX8_copy 122 = .ok (.aload_n 0, 1) := by decide +kernel
theorem dX8_copy_123 : decode cX8_copy 123 = .ok (.iload 5, 2) := by decide +kernel
theorem dX8_copy_125 : decode cX8_copy 125 = .ok (.i2l, 1) := by decide +kernel
theorem dX8_copy_126 : decode cX8_copy 126 = .ok (.invokevirtual 93, 3) := by decide +kernel
theorem dX8_copy_129 : decode cX8_copy 129 = .ok (.lreturn, 1) := by decide +kernel
def f_HG_copy_b102 (σ : St) : Option (Int64 × St) :=
  bd (f_HG_found 2 σ) fun r3 σ2 => some (r3, σ2)
set_option maxRecDepth 4000 in
theorem ok_HG_copy_b102 {E : gE} {w : wT} {σ' : St} {r : Int64} (X : gC E w cX8_copy 6 RX8 2) (Y : gQ E w (some .long) (some (.long r)) σ') (σ : St) (h : f_HG_copy_b102 σ = some (r, σ')) : gW E w 6 σ 102 [some (.ref (w.1 0))] [] := by
  unfold f_HG_copy_b102 at h
  refine g_aload_n X dX8_copy_102 rfl rfl ?_
  refine g_iconst X kI_2 dX8_copy_103 rfl ?_
  obtain ⟨r3, σ2, h1, h⟩ := bd_e h
  refine g_callVJ X [.int 2] (ok_HG_found X.inj h1) my_yX8_found mi_yX8_found ms_yX8_found ml_RX8_85 (by decide) rfl rfl (by decide) rfl dX8_copy_104 (Nat.le_of_ble_eq_true rfl) rfl rfl ?_
  obtain ⟨rfl, rfl⟩ := rt_e h
  exact g_lret X Y dX8_copy_107

def f_HG_copy_b40 (σ : St) : Option (Int64 × St) :=
  bd (f_HG_found 1 σ) fun r3 σ2 => some (r3, σ2)
set_option maxRecDepth 4000 in
theorem ok_HG_copy_b40 {E : gE} {w : wT} {σ' : St} {r : Int64} (X : gC E w cX8_copy 6 RX8 2) (Y : gQ E w (some .long) (some (.long r)) σ') (σ : St) (h : f_HG_copy_b40 σ = some (r, σ')) : gW E w 6 σ 40 [some (.ref (w.1 0))] [] := by
  unfold f_HG_copy_b40 at h
  refine g_aload_n X dX8_copy_40 rfl rfl ?_
  refine g_iconst X kI_1 dX8_copy_41 rfl ?_
  obtain ⟨r3, σ2, h1, h⟩ := bd_e h
  refine g_callVJ X [.int 1] (ok_HG_found X.inj h1) my_yX8_found mi_yX8_found ms_yX8_found ml_RX8_85 (by decide) rfl rfl (by decide) rfl dX8_copy_42 (Nat.le_of_ble_eq_true rfl) rfl rfl ?_
  obtain ⟨rfl, rfl⟩ := rt_e h
  exact g_lret X Y dX8_copy_45

def f_HG_copy (x1 : Int32) (x2 : Int32) (x3 : Int32) (x4 : Int32) (x5 : Int32) (σ : St) : Option (Int64 × St) :=
  bd (f_HG_isRow x1 σ) fun r3 σ2 => if r3 = 0 then (some ((-9000000000000000001), σ2)) else (bd (f_HG_isRow x3 σ2) fun r7 σ6 => if r7 = 0 then (some ((-9000000000000000001), σ6)) else (bd (f_Shelf_isMissing x1 σ6) fun r11 σ10 => if r11 = 0 then (bd (f_Shelf_isMissing x3 σ10) fun r15 σ14 => if r15 = 0 then (ck (ib x1 8) <| ck (ib x3 8) <| if (rI σ14 47 x1) = (rI σ14 47 x3) then (bd (f_Shelf_hasItems x1 x2 x5 σ14) fun r22 σ21 => if r22 = 0 then (f_HG_copy_b102 σ21) else (bd (f_Shelf_hasItems x3 x4 x5 σ21) fun r26 σ25 => if r26 = 0 then (f_HG_copy_b102 σ25) else (bv (f_Shelf_bring x1 x2 x3 x4 x5 σ25) fun σ29 => bd (f_HG_fine x5.toInt64 σ29) fun r32 σ31 => some (r32, σ31)))) else (bd (f_HG_found 5 σ14) fun r35 σ34 => some (r35, σ34))) else (f_HG_copy_b40 σ14)) else (f_HG_copy_b40 σ10)))
set_option maxRecDepth 4000 in
theorem ok_HG_copy {w : wT} (hi : wInj w) {l : Launch} {x1 : Int32} {x2 : Int32} {x3 : Int32} {x4 : Int32} {x5 : Int32} {σ σ' : St} {r : Int64} (h : f_HG_copy x1 x2 x3 x4 x5 σ = some (r, σ')) : gM w l yX8_copy cX8_copy 6 (some .long) 2 [.ref (w.1 0), .int x1, .int x2, .int x3, .int x4, .int x5] σ (some (.long r)) σ' := by
  unfold f_HG_copy at h
  refine gM_of hi (by decide) [some (.ref (w.1 0)), some (.int x1), some (.int x2), some (.int x3), some (.int x4), some (.int x5)] rfl (Nat.le_of_ble_eq_true rfl) (fun E hl X Y => ?_)
  refine g_iload_n X dX8_copy_0 rfl rfl ?_
  obtain ⟨r3, σ2, h1, h⟩ := bd_e h
  refine g_callSI X [.int x1] (ok_HG_isRow X.inj h1) my_yX8_isRow mt_yX8_isRow ml_RX8_79 (by decide) rfl dX8_copy_1 (Nat.le_of_ble_eq_true rfl) rfl rfl ?_
  refine g_if_eq X dX8_copy_4 (tgt := 14) rfl rfl (fun c4 => ?_) (fun c4 => ?_)
  · replace h := if_t c4 h
    refine g_ldc2 X dX8_copy_14 kc_RX8_83 rfl ?_
    obtain ⟨rfl, rfl⟩ := rt_e h
    exact g_lret X Y dX8_copy_17
  · replace h := if_f c4 h
    refine g_iload_n X dX8_copy_7 rfl rfl ?_
    obtain ⟨r7, σ6, h5, h⟩ := bd_e h
    refine g_callSI X [.int x3] (ok_HG_isRow X.inj h5) my_yX8_isRow mt_yX8_isRow ml_RX8_79 (by decide) rfl dX8_copy_8 (Nat.le_of_ble_eq_true rfl) rfl rfl ?_
    refine g_if_ne X dX8_copy_11 (tgt := 18) rfl rfl (fun c8 => ?_) (fun c8 => ?_)
    · replace h := if_f c8 h
      refine g_aload_n X dX8_copy_18 rfl rfl ?_
      refine gf_RX8_12 X dX8_copy_19 rfl ?_
      refine g_iload_n X dX8_copy_22 rfl rfl ?_
      obtain ⟨r11, σ10, h9, h⟩ := bd_e h
      refine g_callVI X [.int x1] (ok_Shelf_isMissing X.inj h9) my_yX5_isMissing mi_yX5_isMissing ms_yX5_isMissing ml_RX8_97 (by decide) rfl rfl (by decide) rfl dX8_copy_23 (Nat.le_of_ble_eq_true rfl) rfl rfl ?_
      refine g_if_ne X dX8_copy_26 (tgt := 40) rfl rfl (fun c12 => ?_) (fun c12 => ?_)
      · replace h := if_f c12 h
        exact g_le (lle_s (lle_0)) (ok_HG_copy_b40 X Y σ10 h)
      · replace h := if_t c12 h
        refine g_aload_n X dX8_copy_29 rfl rfl ?_
        refine gf_RX8_12 X dX8_copy_30 rfl ?_
        refine g_iload_n X dX8_copy_33 rfl rfl ?_
        obtain ⟨r15, σ14, h13, h⟩ := bd_e h
        refine g_callVI X [.int x3] (ok_Shelf_isMissing X.inj h13) my_yX5_isMissing mi_yX5_isMissing ms_yX5_isMissing ml_RX8_97 (by decide) rfl rfl (by decide) rfl dX8_copy_34 (Nat.le_of_ble_eq_true rfl) rfl rfl ?_
        refine g_if_eq X dX8_copy_37 (tgt := 46) rfl rfl (fun c16 => ?_) (fun c16 => ?_)
        · replace h := if_t c16 h
          refine g_aload_n X dX8_copy_46 rfl rfl ?_
          refine gf_RX8_12 X dX8_copy_47 rfl ?_
          refine gf_RX8_108 X dX8_copy_50 rfl ?_
          refine g_iload_n X dX8_copy_53 rfl rfl ?_
          obtain ⟨c17, h⟩ := ck_e h
          refine g_iald X ar_47.1 ar_47.2.1 ar_47.2.2 (ib_e c17) dX8_copy_54 rfl ?_
          refine g_aload_n X dX8_copy_55 rfl rfl ?_
          refine gf_RX8_12 X dX8_copy_56 rfl ?_
          refine gf_RX8_108 X dX8_copy_59 rfl ?_
          refine g_iload_n X dX8_copy_62 rfl rfl ?_
          obtain ⟨c18, h⟩ := ck_e h
          refine g_iald X ar_47.1 ar_47.2.1 ar_47.2.2 (ib_e c18) dX8_copy_63 rfl ?_
          refine g_icmp_eq X dX8_copy_64 (tgt := 73) rfl rfl (fun c19 => ?_) (fun c19 => ?_)
          · replace h := if_t c19 h
            refine g_aload_n X dX8_copy_73 rfl rfl ?_
            refine gf_RX8_12 X dX8_copy_74 rfl ?_
            refine g_iload_n X dX8_copy_77 rfl rfl ?_
            refine g_iload_n X dX8_copy_78 rfl rfl ?_
            refine g_iload X dX8_copy_79 rfl rfl ?_
            obtain ⟨r22, σ21, h20, h⟩ := bd_e h
            refine g_callVI X [.int x1, .int x2, .int x5] (ok_Shelf_hasItems X.inj h20) my_yX5_hasItems mi_yX5_hasItems ms_yX5_hasItems ml_RX8_100 (by decide) rfl rfl (by decide) rfl dX8_copy_81 (Nat.le_of_ble_eq_true rfl) rfl rfl ?_
            refine g_if_eq X dX8_copy_84 (tgt := 102) rfl rfl (fun c23 => ?_) (fun c23 => ?_)
            · replace h := if_t c23 h
              exact g_le (lle_s (lle_0)) (ok_HG_copy_b102 X Y σ21 h)
            · replace h := if_f c23 h
              refine g_aload_n X dX8_copy_87 rfl rfl ?_
              refine gf_RX8_12 X dX8_copy_88 rfl ?_
              refine g_iload_n X dX8_copy_91 rfl rfl ?_
              refine g_iload X dX8_copy_92 rfl rfl ?_
              refine g_iload X dX8_copy_94 rfl rfl ?_
              obtain ⟨r26, σ25, h24, h⟩ := bd_e h
              refine g_callVI X [.int x3, .int x4, .int x5] (ok_Shelf_hasItems X.inj h24) my_yX5_hasItems mi_yX5_hasItems ms_yX5_hasItems ml_RX8_100 (by decide) rfl rfl (by decide) rfl dX8_copy_96 (Nat.le_of_ble_eq_true rfl) rfl rfl ?_
              refine g_if_ne X dX8_copy_99 (tgt := 108) rfl rfl (fun c27 => ?_) (fun c27 => ?_)
              · replace h := if_f c27 h
                refine g_aload_n X dX8_copy_108 rfl rfl ?_
                refine gf_RX8_12 X dX8_copy_109 rfl ?_
                refine g_iload_n X dX8_copy_112 rfl rfl ?_
                refine g_iload_n X dX8_copy_113 rfl rfl ?_
                refine g_iload_n X dX8_copy_114 rfl rfl ?_
                refine g_iload X dX8_copy_115 rfl rfl ?_
                refine g_iload X dX8_copy_117 rfl rfl ?_
                obtain ⟨σ29, h28, h⟩ := bv_e h
                refine g_callVV X [.int x1, .int x2, .int x3, .int x4, .int x5] (ok_Shelf_bring X.inj h28) my_yX5_bring mi_yX5_bring ms_yX5_bring ml_RX8_112 (by decide) rfl rfl (by decide) rfl dX8_copy_119 (Nat.le_of_ble_eq_true rfl) rfl rfl ?_
                refine g_aload_n X dX8_copy_122 rfl rfl ?_
                refine g_iload X dX8_copy_123 rfl rfl ?_
                refine g_i2l X dX8_copy_125 rfl ?_
                obtain ⟨r32, σ31, h30, h⟩ := bd_e h
                refine g_callVJ X [.long x5.toInt64] (ok_HG_fine X.inj h30) my_yX8_fine mi_yX8_fine ms_yX8_fine ml_RX8_93 (by decide) rfl rfl (by decide) rfl dX8_copy_126 (Nat.le_of_ble_eq_true rfl) rfl rfl ?_
                obtain ⟨rfl, rfl⟩ := rt_e h
                exact g_lret X Y dX8_copy_129
              · replace h := if_t c27 h
                exact g_le (lle_s (lle_0)) (ok_HG_copy_b102 X Y σ25 h)
          · replace h := if_f c19 h
            refine g_aload_n X dX8_copy_67 rfl rfl ?_
            refine g_iconst X kI_5 dX8_copy_68 rfl ?_
            obtain ⟨r35, σ34, h33, h⟩ := bd_e h
            refine g_callVJ X [.int 5] (ok_HG_found X.inj h33) my_yX8_found mi_yX8_found ms_yX8_found ml_RX8_85 (by decide) rfl rfl (by decide) rfl dX8_copy_69 (Nat.le_of_ble_eq_true rfl) rfl rfl ?_
            obtain ⟨rfl, rfl⟩ := rt_e h
            exact g_lret X Y dX8_copy_72
        · replace h := if_f c16 h
          exact g_le (lle_s (lle_0)) (ok_HG_copy_b40 X Y σ14 h)
    · replace h := if_t c8 h
      refine g_ldc2 X dX8_copy_14 kc_RX8_83 rfl ?_
      obtain ⟨rfl, rfl⟩ := rt_e h
      exact g_lret X Y dX8_copy_17

theorem dX5_remove_0 : decode cX5_remove 0 = .ok (.aload_n 0, 1) := by decide +kernel
theorem dX5_remove_1 : decode cX5_remove 1 = .ok (.getfield 15, 3) := by decide +kernel
theorem dX5_remove_4 : decode cX5_remove 4 = .ok (.iload_n 1, 1) := by decide +kernel
theorem dX5_remove_5 : decode cX5_remove 5 = .ok (.iaload, 1) := by decide +kernel
theorem dX5_remove_6 : decode cX5_remove 6 = .ok (.istore_n 2, 1) := by decide +kernel
theorem dX5_remove_7 : decode cX5_remove 7 = .ok (.aload_n 0, 1) := by decide +kernel
theorem dX5_remove_8 : decode cX5_remove 8 = .ok (.getfield 9, 3) := by decide +kernel
theorem dX5_remove_11 : decode cX5_remove 11 = .ok (.iload_n 1, 1) := by decide +kernel
theorem dX5_remove_12 : decode cX5_remove 12 = .ok (.ldc 21, 2) := by decide +kernel
theorem dX5_remove_14 : decode cX5_remove 14 = .ok (.iastore, 1) := by decide +kernel
theorem dX5_remove_15 : decode cX5_remove 15 = .ok (.aload_n 0, 1) := by decide +kernel
theorem dX5_remove_16 : decode cX5_remove 16 = .ok (.getfield 15, 3) := by decide +kernel
theorem dX5_remove_19 : decode cX5_remove 19 = .ok (.iload_n 1, 1) := by decide +kernel
theorem dX5_remove_20 : decode cX5_remove 20 = .ok (.iconst 0, 1) := by decide +kernel
theorem dX5_remove_21 : decode cX5_remove 21 = .ok (.iastore, 1) := by decide +kernel
theorem dX5_remove_22 : decode cX5_remove 22 = .ok (.iload_n 2, 1) := by decide +kernel
theorem dX5_remove_23 : decode cX5_remove 23 = .ok (.ireturn, 1) := by decide +kernel
def f_Shelf_remove (x1 : Int32) (σ : St) : Option (Int32 × St) :=
  ck (ib x1 8) <| ck (ib x1 8) <| lE (stA σ 47 x1.toNatClampNeg ((-1000000))) fun σ3 => ck (ib x1 8) <| lE (stA σ3 48 x1.toNatClampNeg 0) fun σ6 => some (rI σ 48 x1, σ6)
set_option maxRecDepth 4000 in
theorem ok_Shelf_remove {w : wT} (hi : wInj w) {l : Launch} {x1 : Int32} {σ σ' : St} {r : Int32} (h : f_Shelf_remove x1 σ = some (r, σ')) : gM w l yX5_remove cX5_remove 3 (some .int) 1 [.ref (w.1 1), .int x1] σ (some (.int r)) σ' := by
  unfold f_Shelf_remove at h
  refine gM_of hi (by decide) [some (.ref (w.1 1)), some (.int x1)] rfl (Nat.le_of_ble_eq_true rfl) (fun E hl X Y => ?_)
  refine g_aload_n X dX5_remove_0 rfl rfl ?_
  refine gf_RX5_15 X dX5_remove_1 rfl ?_
  refine g_iload_n X dX5_remove_4 rfl rfl ?_
  obtain ⟨c1, h⟩ := ck_e h
  refine g_iald X ar_48.1 ar_48.2.1 ar_48.2.2 (ib_e c1) dX5_remove_5 rfl ?_
  refine g_istore_n X [some (.ref (w.1 1)), some (.int x1), some (.int (rI σ 48 x1))] dX5_remove_6 (Nat.le_of_ble_eq_true rfl) rfl rfl rfl ?_
  refine g_aload_n X dX5_remove_7 rfl rfl ?_
  refine gf_RX5_9 X dX5_remove_8 rfl ?_
  refine g_iload_n X dX5_remove_11 rfl rfl ?_
  refine g_ldc X dX5_remove_12 kc_RX5_21 rfl ?_
  obtain ⟨c2, h⟩ := ck_e h
  refine g_iast X ar_47.1 ar_47.2.1 ar_47.2.2 (ib_e c2) dX5_remove_14 rfl (fun σ3 e4 => ?_)
  replace h := lE_c e4 h
  refine g_aload_n X dX5_remove_15 rfl rfl ?_
  refine gf_RX5_15 X dX5_remove_16 rfl ?_
  refine g_iload_n X dX5_remove_19 rfl rfl ?_
  refine g_iconst X kI_0 dX5_remove_20 rfl ?_
  obtain ⟨c5, h⟩ := ck_e h
  refine g_iast X ar_48.1 ar_48.2.1 ar_48.2.2 (ib_e c5) dX5_remove_21 rfl (fun σ6 e7 => ?_)
  replace h := lE_c e7 h
  refine g_iload_n X dX5_remove_22 rfl rfl ?_
  obtain ⟨rfl, rfl⟩ := rt_e h
  exact g_iret X Y dX5_remove_23

theorem dX8_drop_0 : decode cX8_drop 0 = .ok (.iload_n 1, 1) := by decide +kernel
theorem dX8_drop_1 : decode cX8_drop 1 = .ok (.invokestatic 79, 3) := by decide +kernel
theorem dX8_drop_4 : decode cX8_drop 4 = .ok (.ifCond .ne 7, 3) := by decide +kernel
theorem dX8_drop_7 : decode cX8_drop 7 = .ok (.ldc2_w 83, 3) := by decide +kernel
theorem dX8_drop_10 : decode cX8_drop 10 = .ok (.lreturn, 1) := by decide +kernel
theorem dX8_drop_11 : decode cX8_drop 11 = .ok (.aload_n 0, 1) := by decide +kernel
theorem dX8_drop_12 : decode cX8_drop 12 = .ok (.getfield 12, 3) := by decide +kernel
theorem dX8_drop_15 : decode cX8_drop 15 = .ok (.iload_n 1, 1) := by decide +kernel
theorem dX8_drop_16 : decode cX8_drop 16 = .ok (.invokevirtual 97, 3) := by decide +kernel
theorem dX8_drop_19 : decode cX8_drop 19 = .ok (.ifCond .eq 9, 3) := by decide +kernel
theorem dX8_drop_22 : decode cX8_drop 22 = .ok (.aload_n 0, 1) := by decide +kernel
theorem dX8_drop_23 : decode cX8_drop 23 = .ok (.iconst 1, 1) := by decide +kernel
theorem dX8_drop_24 : decode cX8_drop 24 = .ok (.invokevirtual 85, 3) := by decide +kernel
theorem dX8_drop_27 : decode cX8_drop 27 = .ok (.lreturn, 1) := by decide +kernel
theorem dX8_drop_28 : decode cX8_drop 28 = .ok (.aload_n 0, 1) := by decide +kernel
theorem dX8_drop_29 : decode cX8_drop 29 = .ok (.aload_n 0, 1) := by decide +kernel
theorem dX8_drop_30 : decode cX8_drop 30 = .ok (.getfield 12, 3) := by decide +kernel
theorem dX8_drop_33 : decode cX8_drop 33 = .ok (.iload_n 1, 1) := by decide +kernel
theorem dX8_drop_34 : decode cX8_drop 34 = .ok (.invokevirtual 116, 3) := by decide +kernel
theorem dX8_drop_37 : decode cX8_drop 37 = .ok (.i2l, 1) := by decide +kernel
theorem dX8_drop_38 : decode cX8_drop 38 = .ok (.invokevirtual 93, 3) := by decide +kernel
theorem dX8_drop_41 : decode cX8_drop 41 = .ok (.lreturn, 1) := by decide +kernel
def f_HG_drop (x1 : Int32) (σ : St) : Option (Int64 × St) :=
  bd (f_HG_isRow x1 σ) fun r3 σ2 => if r3 = 0 then (some ((-9000000000000000001), σ2)) else (bd (f_Shelf_isMissing x1 σ2) fun r7 σ6 => if r7 = 0 then (bd (f_Shelf_remove x1 σ6) fun r11 σ10 => bd (f_HG_fine r11.toInt64 σ10) fun r14 σ13 => some (r14, σ13)) else (bd (f_HG_found 1 σ6) fun r17 σ16 => some (r17, σ16)))
set_option maxRecDepth 4000 in
theorem ok_HG_drop {w : wT} (hi : wInj w) {l : Launch} {x1 : Int32} {σ σ' : St} {r : Int64} (h : f_HG_drop x1 σ = some (r, σ')) : gM w l yX8_drop cX8_drop 2 (some .long) 2 [.ref (w.1 0), .int x1] σ (some (.long r)) σ' := by
  unfold f_HG_drop at h
  refine gM_of hi (by decide) [some (.ref (w.1 0)), some (.int x1)] rfl (Nat.le_of_ble_eq_true rfl) (fun E hl X Y => ?_)
  refine g_iload_n X dX8_drop_0 rfl rfl ?_
  obtain ⟨r3, σ2, h1, h⟩ := bd_e h
  refine g_callSI X [.int x1] (ok_HG_isRow X.inj h1) my_yX8_isRow mt_yX8_isRow ml_RX8_79 (by decide) rfl dX8_drop_1 (Nat.le_of_ble_eq_true rfl) rfl rfl ?_
  refine g_if_ne X dX8_drop_4 (tgt := 11) rfl rfl (fun c4 => ?_) (fun c4 => ?_)
  · replace h := if_f c4 h
    refine g_aload_n X dX8_drop_11 rfl rfl ?_
    refine gf_RX8_12 X dX8_drop_12 rfl ?_
    refine g_iload_n X dX8_drop_15 rfl rfl ?_
    obtain ⟨r7, σ6, h5, h⟩ := bd_e h
    refine g_callVI X [.int x1] (ok_Shelf_isMissing X.inj h5) my_yX5_isMissing mi_yX5_isMissing ms_yX5_isMissing ml_RX8_97 (by decide) rfl rfl (by decide) rfl dX8_drop_16 (Nat.le_of_ble_eq_true rfl) rfl rfl ?_
    refine g_if_eq X dX8_drop_19 (tgt := 28) rfl rfl (fun c8 => ?_) (fun c8 => ?_)
    · replace h := if_t c8 h
      refine g_aload_n X dX8_drop_28 rfl rfl ?_
      refine g_aload_n X dX8_drop_29 rfl rfl ?_
      refine gf_RX8_12 X dX8_drop_30 rfl ?_
      refine g_iload_n X dX8_drop_33 rfl rfl ?_
      obtain ⟨r11, σ10, h9, h⟩ := bd_e h
      refine g_callVI X [.int x1] (ok_Shelf_remove X.inj h9) my_yX5_remove mi_yX5_remove ms_yX5_remove ml_RX8_116 (by decide) rfl rfl (by decide) rfl dX8_drop_34 (Nat.le_of_ble_eq_true rfl) rfl rfl ?_
      refine g_i2l X dX8_drop_37 rfl ?_
      obtain ⟨r14, σ13, h12, h⟩ := bd_e h
      refine g_callVJ X [.long r11.toInt64] (ok_HG_fine X.inj h12) my_yX8_fine mi_yX8_fine ms_yX8_fine ml_RX8_93 (by decide) rfl rfl (by decide) rfl dX8_drop_38 (Nat.le_of_ble_eq_true rfl) rfl rfl ?_
      obtain ⟨rfl, rfl⟩ := rt_e h
      exact g_lret X Y dX8_drop_41
    · replace h := if_f c8 h
      refine g_aload_n X dX8_drop_22 rfl rfl ?_
      refine g_iconst X kI_1 dX8_drop_23 rfl ?_
      obtain ⟨r17, σ16, h15, h⟩ := bd_e h
      refine g_callVJ X [.int 1] (ok_HG_found X.inj h15) my_yX8_found mi_yX8_found ms_yX8_found ml_RX8_85 (by decide) rfl rfl (by decide) rfl dX8_drop_24 (Nat.le_of_ble_eq_true rfl) rfl rfl ?_
      obtain ⟨rfl, rfl⟩ := rt_e h
      exact g_lret X Y dX8_drop_27
  · replace h := if_t c4 h
    refine g_ldc2 X dX8_drop_7 kc_RX8_83 rfl ?_
    obtain ⟨rfl, rfl⟩ := rt_e h
    exact g_lret X Y dX8_drop_10

theorem dX7_push_0 : decode cX7_push 0 = .ok (.iload_n 3, 1) := by decide +kernel
theorem dX7_push_1 : decode cX7_push 1 = .ok (.iconst 1, 1) := by decide +kernel
theorem dX7_push_2 : decode cX7_push 2 = .ok (.isub, 1) := by decide +kernel
theorem dX7_push_3 : decode cX7_push 3 = .ok (.istore 4, 2) := by decide +kernel
theorem dX7_push_5 : decode cX7_push 5 = .ok (.iload 4, 2) := by decide +kernel
theorem dX7_push_7 : decode cX7_push 7 = .ok (.ifCond .lt 37, 3) := by decide +kernel
theorem dX7_push_10 : decode cX7_push 10 = .ok (.aload_n 0, 1) := by decide +kernel
theorem dX7_push_11 : decode cX7_push 11 = .ok (.getfield 9, 3) := by decide +kernel
theorem dX7_push_14 : decode cX7_push 14 = .ok (.aload_n 0, 1) := by decide +kernel
theorem dX7_push_15 : decode cX7_push 15 = .ok (.getfield 15, 3) := by decide +kernel
theorem dX7_push_18 : decode cX7_push 18 = .ok (.lload_n 1, 1) := by decide +kernel
theorem dX7_push_19 : decode cX7_push 19 = .ok (.bipush 8, 2) := by decide +kernel
theorem dX7_push_21 : decode cX7_push 21 = .ok (.iload 4, 2) := by decide +kernel
theorem dX7_push_23 : decode cX7_push 23 = .ok (.imul, 1) := by decide +kernel
theorem dX7_push_24 : decode cX7_push 24 = .ok (.lushr, 1) := by decide +kernel
theorem dX7_push_25 : decode cX7_push 25 = .ok (.l2i, 1) := by decide +kernel
theorem dX7_push_26 : decode cX7_push 26 = .ok (.i2b, 1) := by decide +kernel
theorem dX7_push_27 : decode cX7_push 27 = .ok (.bastore, 1) := by decide +kernel
theorem dX7_push_28 : decode cX7_push 28 = .ok (.aload_n 0, 1) := by decide +kernel
theorem dX7_push_29 : decode cX7_push 29 = .ok (.dup, 1) := by decide +kernel
theorem dX7_push_30 : decode cX7_push 30 = .ok (.getfield 15, 3) := by decide +kernel
theorem dX7_push_33 : decode cX7_push 33 = .ok (.iconst 1, 1) := by decide +kernel
theorem dX7_push_34 : decode cX7_push 34 = .ok (.iadd, 1) := by decide +kernel
theorem dX7_push_35 : decode cX7_push 35 = .ok (.putfield 15, 3) := by decide +kernel
theorem dX7_push_38 : decode cX7_push 38 = .ok (.iinc 4 (-1), 3) := by decide +kernel
theorem dX7_push_41 : decode cX7_push 41 = .ok (.goto (-36), 3) := by decide +kernel
theorem dX7_push_44 : decode cX7_push 44 = .ok (.return_, 1) := by decide +kernel
def f_Tape_push_b5 (k5 : Int64 → Int32 → St → Option St) (x1 : Int64) (x4 : Int32) (σ : St) : Option St :=
  if x4 < 0 then (some σ) else (ck (ib (rF σ 2) 600) <| lE (stA σ 50 (rF σ 2).toNatClampNeg (vp_nar .byte ((((x1.toUInt64 >>> ((8 * x4).toInt64.toUInt64 &&& Int64.toUInt64 63)).toInt64).toInt32).toInt8.toInt32))) fun σ3 => lE (stF σ3 2 ((rF σ3 2) + 1)) fun σ5 => k5 x1 (x4 + (-1)) σ5)
set_option maxRecDepth 4000 in
theorem ok_Tape_push_b5 {E : gE} {w : wT} {σ' : St} (X : gC E w cX7_push 5 RX7 1) (Y : gQ E w none none σ') {k5 : Int64 → Int32 → St → Option St} (hk5 : ∀ (x1 : Int64) (x4 : Int32) (σ : St), k5 x1 x4 σ = some σ' → gW E w 5 σ 5 [some (.ref (w.1 2)), some (.long x1), none, none, some (.int x4)] []) {x1 : Int64} {x4 : Int32} (σ : St) (h : f_Tape_push_b5 k5 x1 x4 σ = some σ') : gW E w 5 σ 5 [some (.ref (w.1 2)), some (.long x1), none, none, some (.int x4)] [] := by
  unfold f_Tape_push_b5 at h
  refine g_iload X dX7_push_5 rfl rfl ?_
  refine g_if_lt X dX7_push_7 (tgt := 44) rfl rfl (fun c1 => ?_) (fun c1 => ?_)
  · replace h := if_t c1 h
    obtain rfl := rv_e h
    exact g_vret X Y dX7_push_44
  · replace h := if_f c1 h
    refine g_aload_n X dX7_push_10 rfl rfl ?_
    refine gf_RX7_9 X dX7_push_11 rfl ?_
    refine g_aload_n X dX7_push_14 rfl rfl ?_
    refine gf_RX7_15 X dX7_push_15 rfl ?_
    refine g_lload_n X dX7_push_18 rfl rfl ?_
    refine g_bipush X kB_8 dX7_push_19 rfl ?_
    refine g_iload X dX7_push_21 rfl rfl ?_
    refine g_imul X dX7_push_23 rfl ?_
    refine g_lushr X dX7_push_24 rfl ?_
    refine g_l2i X dX7_push_25 rfl ?_
    refine g_i2b X dX7_push_26 rfl ?_
    obtain ⟨c2, h⟩ := ck_e h
    refine g_bast X ar_50.1 ar_50.2.1 ar_50.2.2 (ib_e c2) dX7_push_27 rfl (fun σ3 e4 => ?_)
    replace h := lE_c e4 h
    refine g_aload_n X dX7_push_28 rfl rfl ?_
    refine g_dup X dX7_push_29 rfl rfl ?_
    refine gf_RX7_15 X dX7_push_30 rfl ?_
    refine g_iconst X kI_1 dX7_push_33 rfl ?_
    refine g_iadd X dX7_push_34 rfl ?_
    refine gp_RX7_15 X dX7_push_35 rfl (fun σ5 e6 => ?_)
    replace h := lE_c e6 h
    refine g_iinc X [some (.ref (w.1 2)), some (.long x1), none, none, some (.int (x4 + (-1)))] dX7_push_38 rfl (ii_m1 x4) (Nat.le_of_ble_eq_true rfl) rfl rfl rfl ?_
    refine g_goto X dX7_push_41 (tgt := 5) rfl ?_
    exact hk5 x1 (x4 + (-1)) σ5 h
def f_Tape_push_l5 : Int64 → Int32 → St → Option St := lp (fun _ _ _ => none) (f_Tape_push_b5) FU
theorem ok_Tape_push_l5 {E : gE} {w : wT} {σ' : St} (X : gC E w cX7_push 5 RX7 1) (Y : gQ E w none none σ') {x1 : Int64} {x4 : Int32} (σ : St) (h : f_Tape_push_l5 x1 x4 σ = some σ') : gW E w 5 σ 5 [some (.ref (w.1 2)), some (.long x1), none, none, some (.int x4)] [] :=
  lp_ind (P := fun (k : Int64 → Int32 → St → Option St) => ∀ (x1 : Int64) (x4 : Int32) (σ : St), k x1 x4 σ = some σ' → gW E w 5 σ 5 [some (.ref (w.1 2)), some (.long x1), none, none, some (.int x4)] []) (fun _ _ _ hh => nn hh) (fun k hk x1 x4 σ  hh => ok_Tape_push_b5 X Y hk σ hh) FU x1 x4 σ  h

def f_Tape_push (x1 : Int64) (x3 : Int32) (σ : St) : Option St :=
  f_Tape_push_l5 x1 (x3 - 1) σ
set_option maxRecDepth 4000 in
theorem ok_Tape_push {w : wT} (hi : wInj w) {l : Launch} {x1 : Int64} {x3 : Int32} {σ σ' : St} (h : f_Tape_push x1 x3 σ = some σ') : gM w l yX7_push cX7_push 5 none 1 [.ref (w.1 2), .long x1, .int x3] σ none σ' := by
  unfold f_Tape_push at h
  refine gM_of hi (by decide) [some (.ref (w.1 2)), some (.long x1), none, some (.int x3)] rfl (Nat.le_of_ble_eq_true rfl) (fun E hl X Y => ?_)
  refine g_iload_n X dX7_push_0 rfl rfl ?_
  refine g_iconst X kI_1 dX7_push_1 rfl ?_
  refine g_isub X dX7_push_2 rfl ?_
  refine g_istore X [some (.ref (w.1 2)), some (.long x1), none, some (.int x3), some (.int (x3 - 1))] dX7_push_3 (Nat.le_of_ble_eq_true rfl) rfl rfl rfl ?_
  exact g_le (lle_s (lle_s (lle_k (lle_k (lle_s (lle_0)))))) (ok_Tape_push_l5 X Y σ h)

theorem dX8_feed_0 : decode cX8_feed 0 = .ok (.iload_n 3, 1) := by decide +kernel
theorem dX8_feed_1 : decode cX8_feed 1 = .ok (.iconst 1, 1) := by decide +kernel
theorem dX8_feed_2 : decode cX8_feed 2 = .ok (.if_icmp .lt 9, 3) := by decide +kernel
theorem dX8_feed_5 : decode cX8_feed 5 = .ok (.iload_n 3, 1) := by decide +kernel
theorem dX8_feed_6 : decode cX8_feed 6 = .ok (.bipush 8, 2) := by decide +kernel
theorem dX8_feed_8 : decode cX8_feed 8 = .ok (.if_icmp .le 7, 3) := by decide +kernel
theorem dX8_feed_11 : decode cX8_feed 11 = .ok (.ldc2_w 83, 3) := by decide +kernel
theorem dX8_feed_14 : decode cX8_feed 14 = .ok (.lreturn, 1) := by decide +kernel
theorem dX8_feed_15 : decode cX8_feed 15 = .ok (.aload_n 0, 1) := by decide +kernel
theorem dX8_feed_16 : decode cX8_feed 16 = .ok (.getfield 19, 3) := by decide +kernel
theorem dX8_feed_19 : decode cX8_feed 19 = .ok (.getfield 120, 3) := by decide +kernel
theorem dX8_feed_22 : decode cX8_feed 22 = .ok (.iload_n 3, 1) := by decide +kernel
theorem dX8_feed_23 : decode cX8_feed 23 = .ok (.iadd, 1) := by decide +kernel
theorem dX8_feed_24 : decode cX8_feed 24 = .ok (.sipush 600, 3) := by decide +kernel
theorem dX8_feed_27 : decode cX8_feed 27 = .ok (.if_icmp .le 7, 3) := by decide +kernel
theorem dX8_feed_30 : decode cX8_feed 30 = .ok (.ldc2_w 123, 3) := by decide +kernel
theorem dX8_feed_33 : decode cX8_feed 33 = .ok (.lreturn, 1) := by decide +kernel
theorem dX8_feed_34 : decode cX8_feed 34 = .ok (.aload_n 0, 1) := by decide +kernel
theorem dX8_feed_35 : decode cX8_feed 35 = .ok (.getfield 19, 3) := by decide +kernel
theorem dX8_feed_38 : decode cX8_feed 38 = .ok (.lload_n 1, 1) := by decide +kernel
theorem dX8_feed_39 : decode cX8_feed 39 = .ok (.iload_n 3, 1) := by decide +kernel
theorem dX8_feed_40 : decode cX8_feed 40 = .ok (.invokevirtual 125, 3) := by decide +kernel
theorem dX8_feed_43 : decode cX8_feed 43 = .ok (.aload_n 0, 1) := by decide +kernel
theorem dX8_feed_44 : decode cX8_feed 44 = .ok (.getfield 19, 3) := by decide +kernel
theorem dX8_feed_47 : decode cX8_feed 47 = .ok (.getfield 120, 3) := by decide +kernel
theorem dX8_feed_50 : decode cX8_feed 50 = .ok (.i2l, 1) := by decide +kernel
theorem dX8_feed_51 : decode cX8_feed 51 = .ok (.lreturn, 1) := by decide +kernel
def f_HG_feed (x1 : Int64) (x3 : Int32) (σ : St) : Option (Int64 × St) :=
  if x3 < 1 then (some ((-9000000000000000001), σ)) else (if x3 ≤ 8 then (if ((rF σ 2) + x3) ≤ 600 then (bv (f_Tape_push x1 x3 σ) fun σ5 => some ((rF σ5 2).toInt64, σ5)) else (some ((-9000000000000000003), σ))) else (some ((-9000000000000000001), σ)))
set_option maxRecDepth 4000 in
theorem ok_HG_feed {w : wT} (hi : wInj w) {l : Launch} {x1 : Int64} {x3 : Int32} {σ σ' : St} {r : Int64} (h : f_HG_feed x1 x3 σ = some (r, σ')) : gM w l yX8_feed cX8_feed 4 (some .long) 2 [.ref (w.1 0), .long x1, .int x3] σ (some (.long r)) σ' := by
  unfold f_HG_feed at h
  refine gM_of hi (by decide) [some (.ref (w.1 0)), some (.long x1), none, some (.int x3)] rfl (Nat.le_of_ble_eq_true rfl) (fun E hl X Y => ?_)
  refine g_iload_n X dX8_feed_0 rfl rfl ?_
  refine g_iconst X kI_1 dX8_feed_1 rfl ?_
  refine g_icmp_lt X dX8_feed_2 (tgt := 11) rfl rfl (fun c1 => ?_) (fun c1 => ?_)
  · replace h := if_t c1 h
    refine g_ldc2 X dX8_feed_11 kc_RX8_83 rfl ?_
    obtain ⟨rfl, rfl⟩ := rt_e h
    exact g_lret X Y dX8_feed_14
  · replace h := if_f c1 h
    refine g_iload_n X dX8_feed_5 rfl rfl ?_
    refine g_bipush X kB_8 dX8_feed_6 rfl ?_
    refine g_icmp_le X dX8_feed_8 (tgt := 15) rfl rfl (fun c2 => ?_) (fun c2 => ?_)
    · replace h := if_t c2 h
      refine g_aload_n X dX8_feed_15 rfl rfl ?_
      refine gf_RX8_19 X dX8_feed_16 rfl ?_
      refine gf_RX8_120 X dX8_feed_19 rfl ?_
      refine g_iload_n X dX8_feed_22 rfl rfl ?_
      refine g_iadd X dX8_feed_23 rfl ?_
      refine g_sipush X kS_600 dX8_feed_24 rfl ?_
      refine g_icmp_le X dX8_feed_27 (tgt := 34) rfl rfl (fun c3 => ?_) (fun c3 => ?_)
      · replace h := if_t c3 h
        refine g_aload_n X dX8_feed_34 rfl rfl ?_
        refine gf_RX8_19 X dX8_feed_35 rfl ?_
        refine g_lload_n X dX8_feed_38 rfl rfl ?_
        refine g_iload_n X dX8_feed_39 rfl rfl ?_
        obtain ⟨σ5, h4, h⟩ := bv_e h
        refine g_callVV X [.long x1, .int x3] (ok_Tape_push X.inj h4) my_yX7_push mi_yX7_push ms_yX7_push ml_RX8_125 (by decide) rfl rfl (by decide) rfl dX8_feed_40 (Nat.le_of_ble_eq_true rfl) rfl rfl ?_
        refine g_aload_n X dX8_feed_43 rfl rfl ?_
        refine gf_RX8_19 X dX8_feed_44 rfl ?_
        refine gf_RX8_120 X dX8_feed_47 rfl ?_
        refine g_i2l X dX8_feed_50 rfl ?_
        obtain ⟨rfl, rfl⟩ := rt_e h
        exact g_lret X Y dX8_feed_51
      · replace h := if_f c3 h
        refine g_ldc2 X dX8_feed_30 kc_RX8_123 rfl ?_
        obtain ⟨rfl, rfl⟩ := rt_e h
        exact g_lret X Y dX8_feed_33
    · replace h := if_f c2 h
      refine g_ldc2 X dX8_feed_11 kc_RX8_83 rfl ?_
      obtain ⟨rfl, rfl⟩ := rt_e h
      exact g_lret X Y dX8_feed_14

theorem dX1_empty_0 : decode cX1_empty 0 = .ok (.aload_n 0, 1) := by decide +kernel
theorem dX1_empty_1 : decode cX1_empty 1 = .ok (.iconst 0, 1) := by decide +kernel
theorem dX1_empty_2 : decode cX1_empty 2 = .ok (.putfield 9, 3) := by decide +kernel
theorem dX1_empty_5 : decode cX1_empty 5 = .ok (.aload_n 0, 1) := by decide +kernel
theorem dX1_empty_6 : decode cX1_empty 6 = .ok (.getfield 53, 3) := by decide +kernel
theorem dX1_empty_9 : decode cX1_empty 9 = .ok (.ldc 69, 2) := by decide +kernel
theorem dX1_empty_11 : decode cX1_empty 11 = .ok (.invokestatic 70, 3) := by decide +kernel
theorem dX1_empty_14 : decode cX1_empty 14 = .ok (.aload_n 0, 1) := by decide +kernel
theorem dX1_empty_15 : decode cX1_empty 15 = .ok (.getfield 56, 3) := by decide +kernel
theorem dX1_empty_18 : decode cX1_empty 18 = .ok (.iconst 0, 1) := by decide +kernel
theorem dX1_empty_19 : decode cX1_empty 19 = .ok (.invokestatic 70, 3) := by decide +kernel
theorem dX1_empty_22 : decode cX1_empty 22 = .ok (.aload_n 0, 1) := by decide +kernel
theorem dX1_empty_23 : decode cX1_empty 23 = .ok (.getfield 59, 3) := by decide +kernel
theorem dX1_empty_26 : decode cX1_empty 26 = .ok (.iconst 0, 1) := by decide +kernel
theorem dX1_empty_27 : decode cX1_empty 27 = .ok (.invokestatic 70, 3) := by decide +kernel
theorem dX1_empty_30 : decode cX1_empty 30 = .ok (.aload_n 0, 1) := by decide +kernel
theorem dX1_empty_31 : decode cX1_empty 31 = .ok (.getfield 62, 3) := by decide +kernel
theorem dX1_empty_34 : decode cX1_empty 34 = .ok (.iconst 0, 1) := by decide +kernel
theorem dX1_empty_35 : decode cX1_empty 35 = .ok (.invokestatic 70, 3) := by decide +kernel
theorem dX1_empty_38 : decode cX1_empty 38 = .ok (.aload_n 0, 1) := by decide +kernel
theorem dX1_empty_39 : decode cX1_empty 39 = .ok (.getfield 65, 3) := by decide +kernel
theorem dX1_empty_42 : decode cX1_empty 42 = .ok (.iconst 0, 1) := by decide +kernel
theorem dX1_empty_43 : decode cX1_empty 43 = .ok (.iconst 0, 1) := by decide +kernel
theorem dX1_empty_44 : decode cX1_empty 44 = .ok (.bastore, 1) := by decide +kernel
theorem dX1_empty_45 : decode cX1_empty 45 = .ok (.aload_n 0, 1) := by decide +kernel
theorem dX1_empty_46 : decode cX1_empty 46 = .ok (.getfield 65, 3) := by decide +kernel
theorem dX1_empty_49 : decode cX1_empty 49 = .ok (.iconst 1, 1) := by decide +kernel
theorem dX1_empty_50 : decode cX1_empty 50 = .ok (.iconst 0, 1) := by decide +kernel
theorem dX1_empty_51 : decode cX1_empty 51 = .ok (.bastore, 1) := by decide +kernel
theorem dX1_empty_52 : decode cX1_empty 52 = .ok (.return_, 1) := by decide +kernel
def f_Game_empty (g : Nat) (σ : St) : Option St :=
  ck (isG g) <| lE (stF σ (g + 10) 0) fun σ1 => bv (f_Ar_fillI (g + 13) ((-1000000)) σ1) fun σ4 => bv (f_Ar_fillI (g + 14) 0 σ4) fun σ6 => bv (f_Ar_fillI (g + 15) 0 σ6) fun σ8 => bv (f_Ar_fillI (g + 16) 0 σ8) fun σ10 => ck (ib 0 2) <| lE (stA σ10 (g + 17) (0 : Int32).toNatClampNeg (vp_nar .boolean 0)) fun σ12 => ck (ib 1 2) <| lE (stA σ12 (g + 17) (1 : Int32).toNatClampNeg (vp_nar .boolean 0)) fun σ15 => some σ15
set_option maxRecDepth 4000 in
theorem ok_Game_empty {w : wT} (hi : wInj w) {l : Launch} {g : Nat} {σ σ' : St} (h : f_Game_empty g σ = some σ') : gM w l yX1_empty cX1_empty 1 none 2 [.ref (w.1 g)] σ none σ' := by
  unfold f_Game_empty at h
  obtain ⟨hg, h⟩ := ck_e h
  refine gM_of hi (by decide) [some (.ref (w.1 g))] rfl (Nat.le_of_ble_eq_true rfl) (fun E hl X Y => ?_)
  refine g_aload_n X dX1_empty_0 rfl rfl ?_
  refine g_iconst X kI_0 dX1_empty_1 rfl ?_
  refine gp_RX1_9 hg X dX1_empty_2 rfl (fun σ1 e2 => ?_)
  replace h := lE_c e2 h
  refine g_aload_n X dX1_empty_5 rfl rfl ?_
  refine gf_RX1_53 hg X dX1_empty_6 rfl ?_
  refine g_ldc X dX1_empty_9 kc_RX1_69 rfl ?_
  obtain ⟨σ4, h3, h⟩ := bv_e h
  refine g_callSV X [.ref (w.1 (g + 13)), .int ((-1000000))] (ok_Ar_fillI X.inj h3) my_yJ7_fill_53178 mt_yJ7_fill_53178 ml_RX1_70 (by decide) rfl dX1_empty_11 (Nat.le_of_ble_eq_true rfl) rfl rfl ?_
  refine g_aload_n X dX1_empty_14 rfl rfl ?_
  refine gf_RX1_56 hg X dX1_empty_15 rfl ?_
  refine g_iconst X kI_0 dX1_empty_18 rfl ?_
  obtain ⟨σ6, h5, h⟩ := bv_e h
  refine g_callSV X [.ref (w.1 (g + 14)), .int 0] (ok_Ar_fillI X.inj h5) my_yJ7_fill_53178 mt_yJ7_fill_53178 ml_RX1_70 (by decide) rfl dX1_empty_19 (Nat.le_of_ble_eq_true rfl) rfl rfl ?_
  refine g_aload_n X dX1_empty_22 rfl rfl ?_
  refine gf_RX1_59 hg X dX1_empty_23 rfl ?_
  refine g_iconst X kI_0 dX1_empty_26 rfl ?_
  obtain ⟨σ8, h7, h⟩ := bv_e h
  refine g_callSV X [.ref (w.1 (g + 15)), .int 0] (ok_Ar_fillI X.inj h7) my_yJ7_fill_53178 mt_yJ7_fill_53178 ml_RX1_70 (by decide) rfl dX1_empty_27 (Nat.le_of_ble_eq_true rfl) rfl rfl ?_
  refine g_aload_n X dX1_empty_30 rfl rfl ?_
  refine gf_RX1_62 hg X dX1_empty_31 rfl ?_
  refine g_iconst X kI_0 dX1_empty_34 rfl ?_
  obtain ⟨σ10, h9, h⟩ := bv_e h
  refine g_callSV X [.ref (w.1 (g + 16)), .int 0] (ok_Ar_fillI X.inj h9) my_yJ7_fill_53178 mt_yJ7_fill_53178 ml_RX1_70 (by decide) rfl dX1_empty_35 (Nat.le_of_ble_eq_true rfl) rfl rfl ?_
  refine g_aload_n X dX1_empty_38 rfl rfl ?_
  refine gf_RX1_65 hg X dX1_empty_39 rfl ?_
  refine g_iconst X kI_0 dX1_empty_42 rfl ?_
  refine g_iconst X kI_0 dX1_empty_43 rfl ?_
  obtain ⟨c11, h⟩ := ck_e h
  refine g_zast X (ga_17 hg).1 (ga_17 hg).2.1 (ga_17 hg).2.2 (ib_e c11) dX1_empty_44 rfl (fun σ12 e13 => ?_)
  replace h := lE_c e13 h
  refine g_aload_n X dX1_empty_45 rfl rfl ?_
  refine gf_RX1_65 hg X dX1_empty_46 rfl ?_
  refine g_iconst X kI_1 dX1_empty_49 rfl ?_
  refine g_iconst X kI_0 dX1_empty_50 rfl ?_
  obtain ⟨c14, h⟩ := ck_e h
  refine g_zast X (ga_17 hg).1 (ga_17 hg).2.1 (ga_17 hg).2.2 (ib_e c14) dX1_empty_51 rfl (fun σ15 e16 => ?_)
  replace h := lE_c e16 h
  obtain rfl := rv_e h
  exact g_vret X Y dX1_empty_52

theorem dX7_isLetter_0 : decode cX7_isLetter 0 = .ok (.iload_n 0, 1) := by decide +kernel
theorem dX7_isLetter_1 : decode cX7_isLetter 1 = .ok (.bipush 97, 2) := by decide +kernel
theorem dX7_isLetter_3 : decode cX7_isLetter 3 = .ok (.if_icmp .lt 13, 3) := by decide +kernel
theorem dX7_isLetter_6 : decode cX7_isLetter 6 = .ok (.iload_n 0, 1) := by decide +kernel
theorem dX7_isLetter_7 : decode cX7_isLetter 7 = .ok (.bipush 122, 2) := by decide +kernel
theorem dX7_isLetter_9 : decode cX7_isLetter 9 = .ok (.if_icmp .gt 7, 3) := by decide +kernel
theorem dX7_isLetter_12 : decode cX7_isLetter 12 = .ok (.iconst 1, 1) := by decide +kernel
theorem dX7_isLetter_13 : decode cX7_isLetter 13 = .ok (.goto 4, 3) := by decide +kernel
theorem dX7_isLetter_16 : decode cX7_isLetter 16 = .ok (.iconst 0, 1) := by decide +kernel
theorem dX7_isLetter_17 : decode cX7_isLetter 17 = .ok (.ireturn, 1) := by decide +kernel
def f_Tape_isLetter (x0 : Int32) (σ : St) : Option (Int32 × St) :=
  if x0 < 97 then (some (0, σ)) else (if (122 : Int32) < x0 then (some (0, σ)) else (some (1, σ)))
set_option maxRecDepth 4000 in
theorem ok_Tape_isLetter {w : wT} (hi : wInj w) {l : Launch} {x0 : Int32} {σ σ' : St} {r : Int32} (h : f_Tape_isLetter x0 σ = some (r, σ')) : gM w l yX7_isLetter cX7_isLetter 1 (some .boolean) 1 [.int x0] σ (some (.int r)) σ' := by
  unfold f_Tape_isLetter at h
  refine gM_of hi (by decide) [some (.int x0)] rfl (Nat.le_of_ble_eq_true rfl) (fun E hl X Y => ?_)
  refine g_iload_n X dX7_isLetter_0 rfl rfl ?_
  refine g_bipush X kB_97 dX7_isLetter_1 rfl ?_
  refine g_icmp_lt X dX7_isLetter_3 (tgt := 16) rfl rfl (fun c1 => ?_) (fun c1 => ?_)
  · replace h := if_t c1 h
    refine g_iconst X kI_0 dX7_isLetter_16 rfl ?_
    obtain ⟨rfl, rfl⟩ := rt_e h
    exact g_zret X Y rfl dX7_isLetter_17
  · replace h := if_f c1 h
    refine g_iload_n X dX7_isLetter_6 rfl rfl ?_
    refine g_bipush X kB_122 dX7_isLetter_7 rfl ?_
    refine g_icmp_gt X dX7_isLetter_9 (tgt := 16) rfl rfl (fun c2 => ?_) (fun c2 => ?_)
    · replace h := if_t c2 h
      refine g_iconst X kI_0 dX7_isLetter_16 rfl ?_
      obtain ⟨rfl, rfl⟩ := rt_e h
      exact g_zret X Y rfl dX7_isLetter_17
    · replace h := if_f c2 h
      refine g_iconst X kI_1 dX7_isLetter_12 rfl ?_
      refine g_goto X dX7_isLetter_13 (tgt := 17) rfl ?_
      obtain ⟨rfl, rfl⟩ := rt_e h
      exact g_zret X Y rfl dX7_isLetter_17

theorem dX7_isName_0 : decode cX7_isName 0 = .ok (.aload_n 0, 1) := by decide +kernel
theorem dX7_isName_1 : decode cX7_isName 1 = .ok (.getfield 28, 3) := by decide +kernel
theorem dX7_isName_4 : decode cX7_isName 4 = .ok (.aload_n 0, 1) := by decide +kernel
theorem dX7_isName_5 : decode cX7_isName 5 = .ok (.getfield 22, 3) := by decide +kernel
theorem dX7_isName_8 : decode cX7_isName 8 = .ok (.isub, 1) := by decide +kernel
theorem dX7_isName_9 : decode cX7_isName 9 = .ok (.aload_n 1, 1) := by decide +kernel
theorem dX7_isName_10 : decode cX7_isName 10 = .ok (.invokevirtual 59, 3) := by decide +kernel
theorem dX7_isName_13 : decode cX7_isName 13 = .ok (.if_icmp .eq 5, 3) := by decide +kernel
theorem dX7_isName_16 : decode cX7_isName 16 = .ok (.iconst 0, 1) := by decide +kernel
theorem dX7_isName_17 : decode cX7_isName 17 = .ok (.ireturn, 1) := by decide +kernel
theorem dX7_isName_18 : decode cX7_isName 18 = .ok (.iconst 0, 1) := by decide +kernel
theorem dX7_isName_19 : decode cX7_isName 19 = .ok (.istore_n 2, 1) := by decide +kernel
theorem dX7_isName_20 : decode cX7_isName 20 = .ok (.iload_n 2, 1) := by decide +kernel
theorem dX7_isName_21 : decode cX7_isName 21 = .ok (.aload_n 1, 1) := by decide +kernel
theorem dX7_isName_22 : decode cX7_isName 22 = .ok (.invokevirtual 59, 3) := by decide +kernel
theorem dX7_isName_25 : decode cX7_isName 25 = .ok (.if_icmp .ge 30, 3) := by decide +kernel
theorem dX7_isName_28 : decode cX7_isName 28 = .ok (.aload_n 0, 1) := by decide +kernel
theorem dX7_isName_29 : decode cX7_isName 29 = .ok (.getfield 9, 3) := by decide +kernel
theorem dX7_isName_32 : decode cX7_isName 32 = .ok (.aload_n 0, 1) := by decide +kernel
theorem dX7_isName_33 : decode cX7_isName 33 = .ok (.getfield 22, 3) := by decide +kernel
theorem dX7_isName_36 : decode cX7_isName 36 = .ok (.iload_n 2, 1) := by decide +kernel
theorem dX7_isName_37 : decode cX7_isName 37 = .ok (.iadd, 1) := by decide +kernel
theorem dX7_isName_38 : decode cX7_isName 38 = .ok (.baload, 1) := by decide +kernel
theorem dX7_isName_39 : decode cX7_isName 39 = .ok (.aload_n 1, 1) := by decide +kernel
theorem dX7_isName_40 : decode cX7_isName 40 = .ok (.iload_n 2, 1) := by decide +kernel
theorem dX7_isName_41 : decode cX7_isName 41 = .ok (.invokevirtual 64, 3) := by decide +kernel
theorem dX7_isName_44 : decode cX7_isName 44 = .ok (.if_icmp .eq 5, 3) := by decide +kernel
theorem dX7_isName_47 : decode cX7_isName 47 = .ok (.iconst 0, 1) := by decide +kernel
theorem dX7_isName_48 : decode cX7_isName 48 = .ok (.ireturn, 1) := by decide +kernel
theorem dX7_isName_49 : decode cX7_isName 49 = .ok (.iinc 2 1, 3) := by decide +kernel
theorem dX7_isName_52 : decode cX7_isName 52 = .ok (.goto (-32), 3) := by decide +kernel
theorem dX7_isName_55 : decode cX7_isName 55 = .ok (.iconst 1, 1) := by decide +kernel
theorem dX7_isName_56 : decode cX7_isName 56 = .ok (.ireturn, 1) := by decide +kernel
def f_Tape_isName_b20 (i : Nat) (k20 : Int32 → St → Option (Int32 × St)) (x2 : Int32) (σ : St) : Option (Int32 × St) :=
  bd (f_Str_length i σ) fun r3 σ2 => if r3 ≤ x2 then (some (1, σ2)) else (ck (ib ((rF σ2 4) + x2) 600) <| bd (f_Str_charAt i x2 σ2) fun r8 σ7 => if (rI σ2 50 ((rF σ2 4) + x2)) = r8 then (k20 (x2 + 1) σ7) else (some (0, σ7)))
set_option maxRecDepth 4000 in
theorem ok_Tape_isName_b20 {E : gE} {w : wT} {σ' : St} {r : Int32} (X : gC E w cX7_isName 3 RX7 5) (Y : gQ E w (some .boolean) (some (.int r)) σ') {i : Nat} (hs : isS i = true) {k20 : Int32 → St → Option (Int32 × St)} (hk20 : ∀ (x2 : Int32) (σ : St), k20 x2 σ = some (r, σ') → gW E w 3 σ 20 [some (.ref (w.1 2)), some (.ref (w.2.2.2.1 i)), some (.int x2)] []) {x2 : Int32} (σ : St) (h : f_Tape_isName_b20 i k20 x2 σ = some (r, σ')) : gW E w 3 σ 20 [some (.ref (w.1 2)), some (.ref (w.2.2.2.1 i)), some (.int x2)] [] := by
  unfold f_Tape_isName_b20 at h
  refine g_iload_n X dX7_isName_20 rfl rfl ?_
  refine g_aload_n X dX7_isName_21 rfl rfl ?_
  obtain ⟨r3, σ2, h1, h⟩ := bd_e h
  refine g_callTI X [] (ok_Str_length X.inj h1) my_yJ0_length_8abf5 mi_yJ0_length_8abf5 ms_yJ0_length_8abf5 ml_RX7_59 (isS_e hs) (by decide) rfl dX7_isName_22 (Nat.le_of_ble_eq_true rfl) rfl rfl ?_
  refine g_icmp_ge X dX7_isName_25 (tgt := 55) rfl rfl (fun c4 => ?_) (fun c4 => ?_)
  · replace h := if_t c4 h
    refine g_iconst X kI_1 dX7_isName_55 rfl ?_
    obtain ⟨rfl, rfl⟩ := rt_e h
    exact g_zret X Y rfl dX7_isName_56
  · replace h := if_f c4 h
    refine g_aload_n X dX7_isName_28 rfl rfl ?_
    refine gf_RX7_9 X dX7_isName_29 rfl ?_
    refine g_aload_n X dX7_isName_32 rfl rfl ?_
    refine gf_RX7_22 X dX7_isName_33 rfl ?_
    refine g_iload_n X dX7_isName_36 rfl rfl ?_
    refine g_iadd X dX7_isName_37 rfl ?_
    obtain ⟨c5, h⟩ := ck_e h
    refine g_bald X ar_50.1 ar_50.2.1 ar_50.2.2 (ib_e c5) dX7_isName_38 rfl ?_
    refine g_aload_n X dX7_isName_39 rfl rfl ?_
    refine g_iload_n X dX7_isName_40 rfl rfl ?_
    obtain ⟨r8, σ7, h6, h⟩ := bd_e h
    refine g_callTI X [.int x2] (ok_Str_charAt X.inj h6) my_yJ0_charAt_5068e mi_yJ0_charAt_5068e ms_yJ0_charAt_5068e ml_RX7_64 (isS_e hs) (by decide) rfl dX7_isName_41 (Nat.le_of_ble_eq_true rfl) rfl rfl ?_
    refine g_icmp_eq X dX7_isName_44 (tgt := 49) rfl rfl (fun c9 => ?_) (fun c9 => ?_)
    · replace h := if_t c9 h
      refine g_iinc X [some (.ref (w.1 2)), some (.ref (w.2.2.2.1 i)), some (.int (x2 + 1))] dX7_isName_49 rfl (ii_1 x2) (Nat.le_of_ble_eq_true rfl) rfl rfl rfl ?_
      refine g_goto X dX7_isName_52 (tgt := 20) rfl ?_
      exact hk20 (x2 + 1) σ7 h
    · replace h := if_f c9 h
      refine g_iconst X kI_0 dX7_isName_47 rfl ?_
      obtain ⟨rfl, rfl⟩ := rt_e h
      exact g_zret X Y rfl dX7_isName_48
def f_Tape_isName_l20 (i : Nat) : Int32 → St → Option (Int32 × St) := lp (fun _ _ => none) (f_Tape_isName_b20 i) FU
theorem ok_Tape_isName_l20 {E : gE} {w : wT} {σ' : St} {r : Int32} (X : gC E w cX7_isName 3 RX7 5) (Y : gQ E w (some .boolean) (some (.int r)) σ') {i : Nat} (hs : isS i = true) {x2 : Int32} (σ : St) (h : f_Tape_isName_l20 i x2 σ = some (r, σ')) : gW E w 3 σ 20 [some (.ref (w.1 2)), some (.ref (w.2.2.2.1 i)), some (.int x2)] [] :=
  lp_ind (P := fun (k : Int32 → St → Option (Int32 × St)) => ∀ (x2 : Int32) (σ : St), k x2 σ = some (r, σ') → gW E w 3 σ 20 [some (.ref (w.1 2)), some (.ref (w.2.2.2.1 i)), some (.int x2)] []) (fun _ _ hh => nn hh) (fun k hk x2 σ  hh => ok_Tape_isName_b20 X Y hs hk σ hh) FU x2 σ  h

def f_Tape_isName (i : Nat) (σ : St) : Option (Int32 × St) :=
  ck (isS i) <| bd (f_Str_length i σ) fun r3 σ2 => if ((rF σ 6) - (rF σ 4)) = r3 then (f_Tape_isName_l20 i 0 σ2) else (some (0, σ2))
set_option maxRecDepth 4000 in
theorem ok_Tape_isName {w : wT} (hi : wInj w) {l : Launch} {i : Nat} {σ σ' : St} {r : Int32} (h : f_Tape_isName i σ = some (r, σ')) : gM w l yX7_isName cX7_isName 3 (some .boolean) 5 [.ref (w.1 2), .ref (w.2.2.2.1 i)] σ (some (.int r)) σ' := by
  unfold f_Tape_isName at h
  obtain ⟨hs, h⟩ := ck_e h
  refine gM_of hi (by decide) [some (.ref (w.1 2)), some (.ref (w.2.2.2.1 i))] rfl (Nat.le_of_ble_eq_true rfl) (fun E hl X Y => ?_)
  refine g_aload_n X dX7_isName_0 rfl rfl ?_
  refine gf_RX7_28 X dX7_isName_1 rfl ?_
  refine g_aload_n X dX7_isName_4 rfl rfl ?_
  refine gf_RX7_22 X dX7_isName_5 rfl ?_
  refine g_isub X dX7_isName_8 rfl ?_
  refine g_aload_n X dX7_isName_9 rfl rfl ?_
  obtain ⟨r3, σ2, h1, h⟩ := bd_e h
  refine g_callTI X [] (ok_Str_length X.inj h1) my_yJ0_length_8abf5 mi_yJ0_length_8abf5 ms_yJ0_length_8abf5 ml_RX7_59 (isS_e hs) (by decide) rfl dX7_isName_10 (Nat.le_of_ble_eq_true rfl) rfl rfl ?_
  refine g_icmp_eq X dX7_isName_13 (tgt := 18) rfl rfl (fun c4 => ?_) (fun c4 => ?_)
  · replace h := if_t c4 h
    refine g_iconst X kI_0 dX7_isName_18 rfl ?_
    refine g_istore_n X [some (.ref (w.1 2)), some (.ref (w.2.2.2.1 i)), some (.int 0)] dX7_isName_19 (Nat.le_of_ble_eq_true rfl) rfl rfl rfl ?_
    exact ok_Tape_isName_l20 X Y hs σ2 h
  · replace h := if_f c4 h
    refine g_iconst X kI_0 dX7_isName_16 rfl ?_
    obtain ⟨rfl, rfl⟩ := rt_e h
    exact g_zret X Y rfl dX7_isName_17

theorem dX7_stepOverName_0 : decode cX7_stepOverName 0 = .ok (.aload_n 0, 1) := by decide +kernel
theorem dX7_stepOverName_1 : decode cX7_stepOverName 1 = .ok (.getfield 28, 3) := by decide +kernel
theorem dX7_stepOverName_4 : decode cX7_stepOverName 4 = .ok (.aload_n 0, 1) := by decide +kernel
theorem dX7_stepOverName_5 : decode cX7_stepOverName 5 = .ok (.getfield 15, 3) := by decide +kernel
theorem dX7_stepOverName_8 : decode cX7_stepOverName 8 = .ok (.if_icmp .ge 31, 3) := by decide +kernel
theorem dX7_stepOverName_11 : decode cX7_stepOverName 11 = .ok (.aload_n 0, 1) := by decide +kernel
theorem dX7_stepOverName_12 : decode cX7_stepOverName 12 = .ok (.getfield 9, 3) := by decide +kernel
theorem dX7_stepOverName_15 : decode cX7_stepOverName 15 = .ok (.aload_n 0, 1) := by decide +kernel
theorem dX7_stepOverName_16 : decode cX7_stepOverName 16 = .ok (.getfield 28, 3) := by decide +kernel
theorem dX7_stepOverName_19 : decode cX7_stepOverName 19 = .ok (.baload, 1) := by decide +kernel
theorem dX7_stepOverName_20 : decode cX7_stepOverName 20 = .ok (.invokestatic 34, 3) := by decide +kernel
theorem dX7_stepOverName_23 : decode cX7_stepOverName 23 = .ok (.ifCond .eq 16, 3) := by decide +kernel
theorem dX7_stepOverName_26 : decode cX7_stepOverName 26 = .ok (.aload_n 0, 1) := by decide +kernel
theorem dX7_stepOverName_27 : decode cX7_stepOverName 27 = .ok (.dup, 1) := by decide +kernel
theorem dX7_stepOverName_28 : decode cX7_stepOverName 28 = .ok (.getfield 28, 3) := by decide +kernel
theorem dX7_stepOverName_31 : decode cX7_stepOverName 31 = .ok (.iconst 1, 1) := by decide +kernel
theorem dX7_stepOverName_32 : decode cX7_stepOverName 32 = .ok (.iadd, 1) := by decide +kernel
theorem dX7_stepOverName_33 : decode cX7_stepOverName 33 = .ok (.putfield 28, 3) := by decide +kernel
theorem dX7_stepOverName_36 : decode cX7_stepOverName 36 = .ok (.goto (-36), 3) := by decide +kernel
theorem dX7_stepOverName_39 : decode cX7_stepOverName 39 = .ok (.aload_n 0, 1) := by decide +kernel
theorem dX7_stepOverName_40 : decode cX7_stepOverName 40 = .ok (.aload_n 0, 1) := by decide +kernel
theorem dX7_stepOverName_41 : decode cX7_stepOverName 41 = .ok (.ldc 47, 2) := by decide +kernel
theorem dX7_stepOverName_43 : decode cX7_stepOverName 43 = .ok (.invokevirtual 49, 3) := by decide +kernel
theorem dX7_stepOverName_46 : decode cX7_stepOverName 46 = .ok (.ifCond .eq 7, 3) := by decide +kernel
theorem dX7_stepOverName_49 : decode cX7_stepOverName 49 = .ok (.iconst 0, 1) := by decide +kernel
theorem dX7_stepOverName_50 : decode cX7_stepOverName 50 = .ok (.goto 44, 3) := by decide +kernel
theorem dX7_stepOverName_53 : decode cX7_stepOverName 53 = .ok (.aload_n 0, 1) := by decide +kernel
theorem dX7_stepOverName_54 : decode cX7_stepOverName 54 = .ok (.ldc 53, 2) := by decide +kernel
theorem dX7_stepOverName_56 : decode cX7_stepOverName 56 = .ok (.invokevirtual 49, 3) := by decide +kernel
theorem dX7_stepOverName_59 : decode cX7_stepOverName 59 = .ok (.ifCond .eq 7, 3) := by decide +kernel
theorem dX7_stepOverName_62 : decode cX7_stepOverName 62 = .ok (.iconst 1, 1) := by decide +kernel
theorem dX7_stepOverName_63 : decode cX7_stepOverName 63 = .ok (.goto 31, 3) := by decide +kernel
theorem dX7_stepOverName_66 : decode cX7_stepOverName 66 = .ok (.aload_n 0, 1) := by decide +kernel
theorem dX7_stepOverName_67 : decode cX7_stepOverName 67 = .ok (.ldc 55, 2) := by decide +kernel
theorem dX7_stepOverName_69 : decode cX7_stepOverName 69 = .ok (.invokevirtual 49, 3) := by decide +kernel
theorem dX7_stepOverName_72 : decode cX7_stepOverName 72 = .ok (.ifCond .eq 7, 3) := by decide +kernel
theorem dX7_stepOverName_75 : decode cX7_stepOverName 75 = .ok (.iconst 2, 1) := by decide +kernel
theorem dX7_stepOverName_76 : decode cX7_stepOverName 76 = .ok (.goto 18, 3) := by decide +kernel
theorem dX7_stepOverName_79 : decode cX7_stepOverName 79 = .ok (.aload_n 0, 1) := by decide +kernel
theorem dX7_stepOverName_80 : decode cX7_stepOverName 80 = .ok (.ldc 57, 2) := by decide +kernel
theorem dX7_stepOverName_82 : decode cX7_stepOverName 82 = .ok (.invokevirtual 49, 3) := by decide +kernel
theorem dX7_stepOverName_85 : decode cX7_stepOverName 85 = .ok (.ifCond .eq 7, 3) := by decide +kernel
theorem dX7_stepOverName_88 : decode cX7_stepOverName 88 = .ok (.iconst 3, 1) := by decide +kernel
theorem dX7_stepOverName_89 : decode cX7_stepOverName 89 = .ok (.goto 5, 3) := by decide +kernel
theorem dX7_stepOverName_92 : decode cX7_stepOverName 92 = .ok (.bipush 7, 2) := by decide +kernel
theorem dX7_stepOverName_94 : decode cX7_stepOverName 94 = .ok (.putfield 19, 3) := by decide +kernel
theorem dX7_stepOverName_97 : decode cX7_stepOverName 97 = .ok (.return_, 1) := by decide +kernel
def f_Tape_stepOverName_b39 (σ : St) : Option St :=
  bd (f_Tape_isName 0 σ) fun r3 σ2 => if r3 = 0 then (bd (f_Tape_isName 1 σ2) fun r7 σ6 => if r7 = 0 then (bd (f_Tape_isName 2 σ6) fun r11 σ10 => if r11 = 0 then (bd (f_Tape_isName 3 σ10) fun r15 σ14 => if r15 = 0 then (lE (stF σ14 3 7) fun σ17 => some σ17) else (lE (stF σ14 3 3) fun σ19 => some σ19)) else (lE (stF σ10 3 2) fun σ21 => some σ21)) else (lE (stF σ6 3 1) fun σ23 => some σ23)) else (lE (stF σ2 3 0) fun σ25 => some σ25)
set_option maxRecDepth 4000 in
theorem ok_Tape_stepOverName_b39 {E : gE} {w : wT} {σ' : St} (X : gC E w cX7_stepOverName 1 RX7 6) (Y : gQ E w none none σ') (σ : St) (h : f_Tape_stepOverName_b39 σ = some σ') : gW E w 1 σ 39 [some (.ref (w.1 2))] [] := by
  unfold f_Tape_stepOverName_b39 at h
  refine g_aload_n X dX7_stepOverName_39 rfl rfl ?_
  refine g_aload_n X dX7_stepOverName_40 rfl rfl ?_
  refine g_ldcS X (i := 0) dX7_stepOverName_41 X.str0 rfl ?_
  obtain ⟨r3, σ2, h1, h⟩ := bd_e h
  refine g_callVI X [.ref (w.2.2.2.1 0)] (ok_Tape_isName X.inj h1) my_yX7_isName mi_yX7_isName ms_yX7_isName ml_RX7_49 (by decide) rfl rfl (by decide) rfl dX7_stepOverName_43 (Nat.le_of_ble_eq_true rfl) rfl rfl ?_
  refine g_if_eq X dX7_stepOverName_46 (tgt := 53) rfl rfl (fun c4 => ?_) (fun c4 => ?_)
  · replace h := if_t c4 h
    refine g_aload_n X dX7_stepOverName_53 rfl rfl ?_
    refine g_ldcS X (i := 1) dX7_stepOverName_54 X.str1 rfl ?_
    obtain ⟨r7, σ6, h5, h⟩ := bd_e h
    refine g_callVI X [.ref (w.2.2.2.1 1)] (ok_Tape_isName X.inj h5) my_yX7_isName mi_yX7_isName ms_yX7_isName ml_RX7_49 (by decide) rfl rfl (by decide) rfl dX7_stepOverName_56 (Nat.le_of_ble_eq_true rfl) rfl rfl ?_
    refine g_if_eq X dX7_stepOverName_59 (tgt := 66) rfl rfl (fun c8 => ?_) (fun c8 => ?_)
    · replace h := if_t c8 h
      refine g_aload_n X dX7_stepOverName_66 rfl rfl ?_
      refine g_ldcS X (i := 2) dX7_stepOverName_67 X.str2 rfl ?_
      obtain ⟨r11, σ10, h9, h⟩ := bd_e h
      refine g_callVI X [.ref (w.2.2.2.1 2)] (ok_Tape_isName X.inj h9) my_yX7_isName mi_yX7_isName ms_yX7_isName ml_RX7_49 (by decide) rfl rfl (by decide) rfl dX7_stepOverName_69 (Nat.le_of_ble_eq_true rfl) rfl rfl ?_
      refine g_if_eq X dX7_stepOverName_72 (tgt := 79) rfl rfl (fun c12 => ?_) (fun c12 => ?_)
      · replace h := if_t c12 h
        refine g_aload_n X dX7_stepOverName_79 rfl rfl ?_
        refine g_ldcS X (i := 3) dX7_stepOverName_80 X.str3 rfl ?_
        obtain ⟨r15, σ14, h13, h⟩ := bd_e h
        refine g_callVI X [.ref (w.2.2.2.1 3)] (ok_Tape_isName X.inj h13) my_yX7_isName mi_yX7_isName ms_yX7_isName ml_RX7_49 (by decide) rfl rfl (by decide) rfl dX7_stepOverName_82 (Nat.le_of_ble_eq_true rfl) rfl rfl ?_
        refine g_if_eq X dX7_stepOverName_85 (tgt := 92) rfl rfl (fun c16 => ?_) (fun c16 => ?_)
        · replace h := if_t c16 h
          refine g_bipush X kB_7 dX7_stepOverName_92 rfl ?_
          refine gp_RX7_19 X dX7_stepOverName_94 rfl (fun σ17 e18 => ?_)
          replace h := lE_c e18 h
          obtain rfl := rv_e h
          exact g_vret X Y dX7_stepOverName_97
        · replace h := if_f c16 h
          refine g_iconst X kI_3 dX7_stepOverName_88 rfl ?_
          refine g_goto X dX7_stepOverName_89 (tgt := 94) rfl ?_
          refine gp_RX7_19 X dX7_stepOverName_94 rfl (fun σ19 e20 => ?_)
          replace h := lE_c e20 h
          obtain rfl := rv_e h
          exact g_vret X Y dX7_stepOverName_97
      · replace h := if_f c12 h
        refine g_iconst X kI_2 dX7_stepOverName_75 rfl ?_
        refine g_goto X dX7_stepOverName_76 (tgt := 94) rfl ?_
        refine gp_RX7_19 X dX7_stepOverName_94 rfl (fun σ21 e22 => ?_)
        replace h := lE_c e22 h
        obtain rfl := rv_e h
        exact g_vret X Y dX7_stepOverName_97
    · replace h := if_f c8 h
      refine g_iconst X kI_1 dX7_stepOverName_62 rfl ?_
      refine g_goto X dX7_stepOverName_63 (tgt := 94) rfl ?_
      refine gp_RX7_19 X dX7_stepOverName_94 rfl (fun σ23 e24 => ?_)
      replace h := lE_c e24 h
      obtain rfl := rv_e h
      exact g_vret X Y dX7_stepOverName_97
  · replace h := if_f c4 h
    refine g_iconst X kI_0 dX7_stepOverName_49 rfl ?_
    refine g_goto X dX7_stepOverName_50 (tgt := 94) rfl ?_
    refine gp_RX7_19 X dX7_stepOverName_94 rfl (fun σ25 e26 => ?_)
    replace h := lE_c e26 h
    obtain rfl := rv_e h
    exact g_vret X Y dX7_stepOverName_97

def f_Tape_stepOverName_b0 (k0 : St → Option St) (σ : St) : Option St :=
  if (rF σ 2) ≤ (rF σ 6) then (f_Tape_stepOverName_b39 σ) else (ck (ib (rF σ 6) 600) <| bd (f_Tape_isLetter (rI σ 50 (rF σ 6)) σ) fun r5 σ4 => if r5 = 0 then (f_Tape_stepOverName_b39 σ4) else (lE (stF σ4 6 ((rF σ4 6) + 1)) fun σ7 => k0 σ7))
set_option maxRecDepth 4000 in
theorem ok_Tape_stepOverName_b0 {E : gE} {w : wT} {σ' : St} (X : gC E w cX7_stepOverName 1 RX7 6) (Y : gQ E w none none σ') {k0 : St → Option St} (hk0 : ∀ (σ : St), k0 σ = some σ' → gW E w 1 σ 0 [some (.ref (w.1 2))] []) (σ : St) (h : f_Tape_stepOverName_b0 k0 σ = some σ') : gW E w 1 σ 0 [some (.ref (w.1 2))] [] := by
  unfold f_Tape_stepOverName_b0 at h
  refine g_aload_n X dX7_stepOverName_0 rfl rfl ?_
  refine gf_RX7_28 X dX7_stepOverName_1 rfl ?_
  refine g_aload_n X dX7_stepOverName_4 rfl rfl ?_
  refine gf_RX7_15 X dX7_stepOverName_5 rfl ?_
  refine g_icmp_ge X dX7_stepOverName_8 (tgt := 39) rfl rfl (fun c1 => ?_) (fun c1 => ?_)
  · replace h := if_t c1 h
    exact ok_Tape_stepOverName_b39 X Y σ h
  · replace h := if_f c1 h
    refine g_aload_n X dX7_stepOverName_11 rfl rfl ?_
    refine gf_RX7_9 X dX7_stepOverName_12 rfl ?_
    refine g_aload_n X dX7_stepOverName_15 rfl rfl ?_
    refine gf_RX7_28 X dX7_stepOverName_16 rfl ?_
    obtain ⟨c2, h⟩ := ck_e h
    refine g_bald X ar_50.1 ar_50.2.1 ar_50.2.2 (ib_e c2) dX7_stepOverName_19 rfl ?_
    obtain ⟨r5, σ4, h3, h⟩ := bd_e h
    refine g_callSI X [.int (rI σ 50 (rF σ 6))] (ok_Tape_isLetter X.inj h3) my_yX7_isLetter mt_yX7_isLetter ml_RX7_34 (by decide) rfl dX7_stepOverName_20 (Nat.le_of_ble_eq_true rfl) rfl rfl ?_
    refine g_if_eq X dX7_stepOverName_23 (tgt := 39) rfl rfl (fun c6 => ?_) (fun c6 => ?_)
    · replace h := if_t c6 h
      exact ok_Tape_stepOverName_b39 X Y σ4 h
    · replace h := if_f c6 h
      refine g_aload_n X dX7_stepOverName_26 rfl rfl ?_
      refine g_dup X dX7_stepOverName_27 rfl rfl ?_
      refine gf_RX7_28 X dX7_stepOverName_28 rfl ?_
      refine g_iconst X kI_1 dX7_stepOverName_31 rfl ?_
      refine g_iadd X dX7_stepOverName_32 rfl ?_
      refine gp_RX7_28 X dX7_stepOverName_33 rfl (fun σ7 e8 => ?_)
      replace h := lE_c e8 h
      refine g_goto X dX7_stepOverName_36 (tgt := 0) rfl ?_
      exact hk0 σ7 h
def f_Tape_stepOverName_l0 : St → Option St := lp (fun _ => none) (f_Tape_stepOverName_b0) FU
theorem ok_Tape_stepOverName_l0 {E : gE} {w : wT} {σ' : St} (X : gC E w cX7_stepOverName 1 RX7 6) (Y : gQ E w none none σ') (σ : St) (h : f_Tape_stepOverName_l0 σ = some σ') : gW E w 1 σ 0 [some (.ref (w.1 2))] [] :=
  lp_ind (P := fun (k : St → Option St) => ∀ (σ : St), k  σ = some σ' → gW E w 1 σ 0 [some (.ref (w.1 2))] []) (fun _ hh => nn hh) (fun k hk  σ  hh => ok_Tape_stepOverName_b0 X Y hk σ hh) FU  σ  h

def f_Tape_stepOverName (σ : St) : Option St :=
  f_Tape_stepOverName_l0 σ
set_option maxRecDepth 4000 in
theorem ok_Tape_stepOverName {w : wT} (hi : wInj w) {l : Launch} {σ σ' : St} (h : f_Tape_stepOverName σ = some σ') : gM w l yX7_stepOverName cX7_stepOverName 1 none 6 [.ref (w.1 2)] σ none σ' := by
  unfold f_Tape_stepOverName at h
  refine gM_of hi (by decide) [some (.ref (w.1 2))] rfl (Nat.le_of_ble_eq_true rfl) (fun E hl X Y => ?_)
  exact ok_Tape_stepOverName_l0 X Y σ h

theorem dX7_isFigure_0 : decode cX7_isFigure 0 = .ok (.iload_n 0, 1) := by decide +kernel
theorem dX7_isFigure_1 : decode cX7_isFigure 1 = .ok (.bipush 48, 2) := by decide +kernel
theorem dX7_isFigure_3 : decode cX7_isFigure 3 = .ok (.if_icmp .lt 13, 3) := by decide +kernel
theorem dX7_isFigure_6 : decode cX7_isFigure 6 = .ok (.iload_n 0, 1) := by decide +kernel
theorem dX7_isFigure_7 : decode cX7_isFigure 7 = .ok (.bipush 57, 2) := by decide +kernel
theorem dX7_isFigure_9 : decode cX7_isFigure 9 = .ok (.if_icmp .gt 7, 3) := by decide +kernel
theorem dX7_isFigure_12 : decode cX7_isFigure 12 = .ok (.iconst 1, 1) := by decide +kernel
theorem dX7_isFigure_13 : decode cX7_isFigure 13 = .ok (.goto 4, 3) := by decide +kernel
theorem dX7_isFigure_16 : decode cX7_isFigure 16 = .ok (.iconst 0, 1) := by decide +kernel
theorem dX7_isFigure_17 : decode cX7_isFigure 17 = .ok (.ireturn, 1) := by decide +kernel
def f_Tape_isFigure (x0 : Int32) (σ : St) : Option (Int32 × St) :=
  if x0 < 48 then (some (0, σ)) else (if (57 : Int32) < x0 then (some (0, σ)) else (some (1, σ)))
set_option maxRecDepth 4000 in
theorem ok_Tape_isFigure {w : wT} (hi : wInj w) {l : Launch} {x0 : Int32} {σ σ' : St} {r : Int32} (h : f_Tape_isFigure x0 σ = some (r, σ')) : gM w l yX7_isFigure cX7_isFigure 1 (some .boolean) 1 [.int x0] σ (some (.int r)) σ' := by
  unfold f_Tape_isFigure at h
  refine gM_of hi (by decide) [some (.int x0)] rfl (Nat.le_of_ble_eq_true rfl) (fun E hl X Y => ?_)
  refine g_iload_n X dX7_isFigure_0 rfl rfl ?_
  refine g_bipush X kB_48 dX7_isFigure_1 rfl ?_
  refine g_icmp_lt X dX7_isFigure_3 (tgt := 16) rfl rfl (fun c1 => ?_) (fun c1 => ?_)
  · replace h := if_t c1 h
    refine g_iconst X kI_0 dX7_isFigure_16 rfl ?_
    obtain ⟨rfl, rfl⟩ := rt_e h
    exact g_zret X Y rfl dX7_isFigure_17
  · replace h := if_f c1 h
    refine g_iload_n X dX7_isFigure_6 rfl rfl ?_
    refine g_bipush X kB_57 dX7_isFigure_7 rfl ?_
    refine g_icmp_gt X dX7_isFigure_9 (tgt := 16) rfl rfl (fun c2 => ?_) (fun c2 => ?_)
    · replace h := if_t c2 h
      refine g_iconst X kI_0 dX7_isFigure_16 rfl ?_
      obtain ⟨rfl, rfl⟩ := rt_e h
      exact g_zret X Y rfl dX7_isFigure_17
    · replace h := if_f c2 h
      refine g_iconst X kI_1 dX7_isFigure_12 rfl ?_
      refine g_goto X dX7_isFigure_13 (tgt := 17) rfl ?_
      obtain ⟨rfl, rfl⟩ := rt_e h
      exact g_zret X Y rfl dX7_isFigure_17

theorem dX7_stepOverNumber_0 : decode cX7_stepOverNumber 0 = .ok (.aload_n 0, 1) := by decide +kernel
theorem dX7_stepOverNumber_1 : decode cX7_stepOverNumber 1 = .ok (.iconst 0, 1) := by decide +kernel
theorem dX7_stepOverNumber_2 : decode cX7_stepOverNumber 2 = .ok (.putfield 25, 3) := by decide +kernel
theorem dX7_stepOverNumber_5 : decode cX7_stepOverNumber 5 = .ok (.aload_n 0, 1) := by decide +kernel
theorem dX7_stepOverNumber_6 : decode cX7_stepOverNumber 6 = .ok (.getfield 28, 3) := by decide +kernel
theorem dX7_stepOverNumber_9 : decode cX7_stepOverNumber 9 = .ok (.aload_n 0, 1) := by decide +kernel
theorem dX7_stepOverNumber_10 : decode cX7_stepOverNumber 10 = .ok (.getfield 15, 3) := by decide +kernel
theorem dX7_stepOverNumber_13 : decode cX7_stepOverNumber 13 = .ok (.if_icmp .ge 68, 3) := by decide +kernel
theorem dX7_stepOverNumber_16 : decode cX7_stepOverNumber 16 = .ok (.aload_n 0, 1) := by decide +kernel
theorem dX7_stepOverNumber_17 : decode cX7_stepOverNumber 17 = .ok (.getfield 9, 3) := by decide +kernel
theorem dX7_stepOverNumber_20 : decode cX7_stepOverNumber 20 = .ok (.aload_n 0, 1) := by decide +kernel
theorem dX7_stepOverNumber_21 : decode cX7_stepOverNumber 21 = .ok (.getfield 28, 3) := by decide +kernel
theorem dX7_stepOverNumber_24 : decode cX7_stepOverNumber 24 = .ok (.baload, 1) := by decide +kernel
theorem dX7_stepOverNumber_25 : decode cX7_stepOverNumber 25 = .ok (.invokestatic 41, 3) := by decide +kernel
theorem dX7_stepOverNumber_28 : decode cX7_stepOverNumber 28 = .ok (.ifCond .eq 53, 3) := by decide +kernel
theorem dX7_stepOverNumber_31 : decode cX7_stepOverNumber 31 = .ok (.aload_n 0, 1) := by decide +kernel
theorem dX7_stepOverNumber_32 : decode cX7_stepOverNumber 32 = .ok (.getfield 28, 3) := by decide +kernel
theorem dX7_stepOverNumber_35 : decode cX7_stepOverNumber 35 = .ok (.aload_n 0, 1) := by decide +kernel
theorem dX7_stepOverNumber_36 : decode cX7_stepOverNumber 36 = .ok (.getfield 22, 3) := by decide +kernel
theorem dX7_stepOverNumber_39 : decode cX7_stepOverNumber 39 = .ok (.isub, 1) := by decide +kernel
theorem dX7_stepOverNumber_40 : decode cX7_stepOverNumber 40 = .ok (.iconst 2, 1) := by decide +kernel
theorem dX7_stepOverNumber_41 : decode cX7_stepOverNumber 41 = .ok (.if_icmp .ge 27, 3) := by decide +kernel
theorem dX7_stepOverNumber_44 : decode cX7_stepOverNumber 44 = .ok (.aload_n 0, 1) := by decide +kernel
theorem dX7_stepOverNumber_45 : decode cX7_stepOverNumber 45 = .ok (.aload_n 0, 1) := by decide +kernel
theorem dX7_stepOverNumber_46 : decode cX7_stepOverNumber 46 = .ok (.getfield 25, 3) := by decide +kernel
theorem dX7_stepOverNumber_49 : decode cX7_stepOverNumber 49 = .ok (.bipush 10, 2) := by decide +kernel
theorem dX7_stepOverNumber_51 : decode cX7_stepOverNumber 51 = .ok (.imul, 1) := by decide +kernel
theorem dX7_stepOverNumber_52 : decode cX7_stepOverNumber 52 = .ok (.aload_n 0, 1) := by decide +kernel
theorem dX7_stepOverNumber_53 : decode cX7_stepOverNumber 53 = .ok (.getfield 9, 3) := by decide +kernel
theorem dX7_stepOverNumber_56 : decode cX7_stepOverNumber 56 = .ok (.aload_n 0, 1) := by decide +kernel
theorem dX7_stepOverNumber_57 : decode cX7_stepOverNumber 57 = .ok (.getfield 28, 3) := by decide +kernel
theorem dX7_stepOverNumber_60 : decode cX7_stepOverNumber 60 = .ok (.baload, 1) := by decide +kernel
theorem dX7_stepOverNumber_61 : decode cX7_stepOverNumber 61 = .ok (.iadd, 1) := by decide +kernel
theorem dX7_stepOverNumber_62 : decode cX7_stepOverNumber 62 = .ok (.bipush 48, 2) := by decide +kernel
theorem dX7_stepOverNumber_64 : decode cX7_stepOverNumber 64 = .ok (.isub, 1) := by decide +kernel
theorem dX7_stepOverNumber_65 : decode cX7_stepOverNumber 65 = .ok (.putfield 25, 3) := by decide +kernel
theorem dX7_stepOverNumber_68 : decode cX7_stepOverNumber 68 = .ok (.aload_n 0, 1) := by decide +kernel
theorem dX7_stepOverNumber_69 : decode cX7_stepOverNumber 69 = .ok (.dup, 1) := by decide +kernel
theorem dX7_stepOverNumber_70 : decode cX7_stepOverNumber 70 = .ok (.getfield 28, 3) := by decide +kernel
theorem dX7_stepOverNumber_73 : decode cX7_stepOverNumber 73 = .ok (.iconst 1, 1) := by decide +kernel
theorem dX7_stepOverNumber_74 : decode cX7_stepOverNumber 74 = .ok (.iadd, 1) := by decide +kernel
theorem dX7_stepOverNumber_75 : decode cX7_stepOverNumber 75 = .ok (.putfield 28, 3) := by decide +kernel
theorem dX7_stepOverNumber_78 : decode cX7_stepOverNumber 78 = .ok (.goto (-73), 3) := by decide +kernel
theorem dX7_stepOverNumber_81 : decode cX7_stepOverNumber 81 = .ok (.aload_n 0, 1) := by decide +kernel
theorem dX7_stepOverNumber_82 : decode cX7_stepOverNumber 82 = .ok (.aload_n 0, 1) := by decide +kernel
theorem dX7_stepOverNumber_83 : decode cX7_stepOverNumber 83 = .ok (.getfield 28, 3) := by decide +kernel
theorem dX7_stepOverNumber_86 : decode cX7_stepOverNumber 86 = .ok (.aload_n 0, 1) := by decide +kernel
theorem dX7_stepOverNumber_87 : decode cX7_stepOverNumber 87 = .ok (.getfield 22, 3) := by decide +kernel
theorem dX7_stepOverNumber_90 : decode cX7_stepOverNumber 90 = .ok (.isub, 1) := by decide +kernel
theorem dX7_stepOverNumber_91 : decode cX7_stepOverNumber 91 = .ok (.iconst 2, 1) := by decide +kernel
theorem dX7_stepOverNumber_92 : decode cX7_stepOverNumber 92 = .ok (.if_icmp .gt 7, 3) := by decide +kernel
theorem dX7_stepOverNumber_95 : decode cX7_stepOverNumber 95 = .ok (.iconst 4, 1) := by decide +kernel
theorem dX7_stepOverNumber_96 : decode cX7_stepOverNumber 96 = .ok (.goto 5, 3) := by decide +kernel
theorem dX7_stepOverNumber_99 : decode cX7_stepOverNumber 99 = .ok (.bipush 7, 2) := by decide +kernel
theorem dX7_stepOverNumber_101 : decode cX7_stepOverNumber 101 = .ok (.putfield 19, 3) := by decide +kernel
theorem dX7_stepOverNumber_104 : decode cX7_stepOverNumber 104 = .ok (.return_, 1) := by decide +kernel
def f_Tape_stepOverNumber_b81 (σ : St) : Option St :=
  if (2 : Int32) < ((rF σ 6) - (rF σ 4)) then (lE (stF σ 3 7) fun σ2 => some σ2) else (lE (stF σ 3 4) fun σ4 => some σ4)
set_option maxRecDepth 4000 in
theorem ok_Tape_stepOverNumber_b81 {E : gE} {w : wT} {σ' : St} (X : gC E w cX7_stepOverNumber 1 RX7 2) (Y : gQ E w none none σ') (σ : St) (h : f_Tape_stepOverNumber_b81 σ = some σ') : gW E w 1 σ 81 [some (.ref (w.1 2))] [] := by
  unfold f_Tape_stepOverNumber_b81 at h
  refine g_aload_n X dX7_stepOverNumber_81 rfl rfl ?_
  refine g_aload_n X dX7_stepOverNumber_82 rfl rfl ?_
  refine gf_RX7_28 X dX7_stepOverNumber_83 rfl ?_
  refine g_aload_n X dX7_stepOverNumber_86 rfl rfl ?_
  refine gf_RX7_22 X dX7_stepOverNumber_87 rfl ?_
  refine g_isub X dX7_stepOverNumber_90 rfl ?_
  refine g_iconst X kI_2 dX7_stepOverNumber_91 rfl ?_
  refine g_icmp_gt X dX7_stepOverNumber_92 (tgt := 99) rfl rfl (fun c1 => ?_) (fun c1 => ?_)
  · replace h := if_t c1 h
    refine g_bipush X kB_7 dX7_stepOverNumber_99 rfl ?_
    refine gp_RX7_19 X dX7_stepOverNumber_101 rfl (fun σ2 e3 => ?_)
    replace h := lE_c e3 h
    obtain rfl := rv_e h
    exact g_vret X Y dX7_stepOverNumber_104
  · replace h := if_f c1 h
    refine g_iconst X kI_4 dX7_stepOverNumber_95 rfl ?_
    refine g_goto X dX7_stepOverNumber_96 (tgt := 101) rfl ?_
    refine gp_RX7_19 X dX7_stepOverNumber_101 rfl (fun σ4 e5 => ?_)
    replace h := lE_c e5 h
    obtain rfl := rv_e h
    exact g_vret X Y dX7_stepOverNumber_104

def f_Tape_stepOverNumber_b68 (k5 : St → Option St) (σ : St) : Option St :=
  lE (stF σ 6 ((rF σ 6) + 1)) fun σ1 => k5 σ1
set_option maxRecDepth 4000 in
theorem ok_Tape_stepOverNumber_b68 {E : gE} {w : wT} {σ' : St} (X : gC E w cX7_stepOverNumber 1 RX7 2) (Y : gQ E w none none σ') {k5 : St → Option St} (hk5 : ∀ (σ : St), k5 σ = some σ' → gW E w 1 σ 5 [some (.ref (w.1 2))] []) (σ : St) (h : f_Tape_stepOverNumber_b68 k5 σ = some σ') : gW E w 1 σ 68 [some (.ref (w.1 2))] [] := by
  unfold f_Tape_stepOverNumber_b68 at h
  refine g_aload_n X dX7_stepOverNumber_68 rfl rfl ?_
  refine g_dup X dX7_stepOverNumber_69 rfl rfl ?_
  refine gf_RX7_28 X dX7_stepOverNumber_70 rfl ?_
  refine g_iconst X kI_1 dX7_stepOverNumber_73 rfl ?_
  refine g_iadd X dX7_stepOverNumber_74 rfl ?_
  refine gp_RX7_28 X dX7_stepOverNumber_75 rfl (fun σ1 e2 => ?_)
  replace h := lE_c e2 h
  refine g_goto X dX7_stepOverNumber_78 (tgt := 5) rfl ?_
  exact hk5 σ1 h

def f_Tape_stepOverNumber_b5 (k5 : St → Option St) (σ : St) : Option St :=
  if (rF σ 2) ≤ (rF σ 6) then (f_Tape_stepOverNumber_b81 σ) else (ck (ib (rF σ 6) 600) <| bd (f_Tape_isFigure (rI σ 50 (rF σ 6)) σ) fun r5 σ4 => if r5 = 0 then (f_Tape_stepOverNumber_b81 σ4) else (if (2 : Int32) ≤ ((rF σ4 6) - (rF σ4 4)) then (f_Tape_stepOverNumber_b68 k5 σ4) else (ck (ib (rF σ4 6) 600) <| lE (stF σ4 5 ((((rF σ4 5) * 10) + (rI σ4 50 (rF σ4 6))) - 48)) fun σ9 => f_Tape_stepOverNumber_b68 k5 σ9)))
set_option maxRecDepth 4000 in
theorem ok_Tape_stepOverNumber_b5 {E : gE} {w : wT} {σ' : St} (X : gC E w cX7_stepOverNumber 1 RX7 2) (Y : gQ E w none none σ') {k5 : St → Option St} (hk5 : ∀ (σ : St), k5 σ = some σ' → gW E w 1 σ 5 [some (.ref (w.1 2))] []) (σ : St) (h : f_Tape_stepOverNumber_b5 k5 σ = some σ') : gW E w 1 σ 5 [some (.ref (w.1 2))] [] := by
  unfold f_Tape_stepOverNumber_b5 at h
  refine g_aload_n X dX7_stepOverNumber_5 rfl rfl ?_
  refine gf_RX7_28 X dX7_stepOverNumber_6 rfl ?_
  refine g_aload_n X dX7_stepOverNumber_9 rfl rfl ?_
  refine gf_RX7_15 X dX7_stepOverNumber_10 rfl ?_
  refine g_icmp_ge X dX7_stepOverNumber_13 (tgt := 81) rfl rfl (fun c1 => ?_) (fun c1 => ?_)
  · replace h := if_t c1 h
    exact ok_Tape_stepOverNumber_b81 X Y σ h
  · replace h := if_f c1 h
    refine g_aload_n X dX7_stepOverNumber_16 rfl rfl ?_
    refine gf_RX7_9 X dX7_stepOverNumber_17 rfl ?_
    refine g_aload_n X dX7_stepOverNumber_20 rfl rfl ?_
    refine gf_RX7_28 X dX7_stepOverNumber_21 rfl ?_
    obtain ⟨c2, h⟩ := ck_e h
    refine g_bald X ar_50.1 ar_50.2.1 ar_50.2.2 (ib_e c2) dX7_stepOverNumber_24 rfl ?_
    obtain ⟨r5, σ4, h3, h⟩ := bd_e h
    refine g_callSI X [.int (rI σ 50 (rF σ 6))] (ok_Tape_isFigure X.inj h3) my_yX7_isFigure mt_yX7_isFigure ml_RX7_41 (by decide) rfl dX7_stepOverNumber_25 (Nat.le_of_ble_eq_true rfl) rfl rfl ?_
    refine g_if_eq X dX7_stepOverNumber_28 (tgt := 81) rfl rfl (fun c6 => ?_) (fun c6 => ?_)
    · replace h := if_t c6 h
      exact ok_Tape_stepOverNumber_b81 X Y σ4 h
    · replace h := if_f c6 h
      refine g_aload_n X dX7_stepOverNumber_31 rfl rfl ?_
      refine gf_RX7_28 X dX7_stepOverNumber_32 rfl ?_
      refine g_aload_n X dX7_stepOverNumber_35 rfl rfl ?_
      refine gf_RX7_22 X dX7_stepOverNumber_36 rfl ?_
      refine g_isub X dX7_stepOverNumber_39 rfl ?_
      refine g_iconst X kI_2 dX7_stepOverNumber_40 rfl ?_
      refine g_icmp_ge X dX7_stepOverNumber_41 (tgt := 68) rfl rfl (fun c7 => ?_) (fun c7 => ?_)
      · replace h := if_t c7 h
        exact ok_Tape_stepOverNumber_b68 X Y hk5 σ4 h
      · replace h := if_f c7 h
        refine g_aload_n X dX7_stepOverNumber_44 rfl rfl ?_
        refine g_aload_n X dX7_stepOverNumber_45 rfl rfl ?_
        refine gf_RX7_25 X dX7_stepOverNumber_46 rfl ?_
        refine g_bipush X kB_10 dX7_stepOverNumber_49 rfl ?_
        refine g_imul X dX7_stepOverNumber_51 rfl ?_
        refine g_aload_n X dX7_stepOverNumber_52 rfl rfl ?_
        refine gf_RX7_9 X dX7_stepOverNumber_53 rfl ?_
        refine g_aload_n X dX7_stepOverNumber_56 rfl rfl ?_
        refine gf_RX7_28 X dX7_stepOverNumber_57 rfl ?_
        obtain ⟨c8, h⟩ := ck_e h
        refine g_bald X ar_50.1 ar_50.2.1 ar_50.2.2 (ib_e c8) dX7_stepOverNumber_60 rfl ?_
        refine g_iadd X dX7_stepOverNumber_61 rfl ?_
        refine g_bipush X kB_48 dX7_stepOverNumber_62 rfl ?_
        refine g_isub X dX7_stepOverNumber_64 rfl ?_
        refine gp_RX7_25 X dX7_stepOverNumber_65 rfl (fun σ9 e10 => ?_)
        replace h := lE_c e10 h
        exact ok_Tape_stepOverNumber_b68 X Y hk5 σ9 h
def f_Tape_stepOverNumber_l5 : St → Option St := lp (fun _ => none) (f_Tape_stepOverNumber_b5) FU
theorem ok_Tape_stepOverNumber_l5 {E : gE} {w : wT} {σ' : St} (X : gC E w cX7_stepOverNumber 1 RX7 2) (Y : gQ E w none none σ') (σ : St) (h : f_Tape_stepOverNumber_l5 σ = some σ') : gW E w 1 σ 5 [some (.ref (w.1 2))] [] :=
  lp_ind (P := fun (k : St → Option St) => ∀ (σ : St), k  σ = some σ' → gW E w 1 σ 5 [some (.ref (w.1 2))] []) (fun _ hh => nn hh) (fun k hk  σ  hh => ok_Tape_stepOverNumber_b5 X Y hk σ hh) FU  σ  h

def f_Tape_stepOverNumber (σ : St) : Option St :=
  lE (stF σ 5 0) fun σ1 => f_Tape_stepOverNumber_l5 σ1
set_option maxRecDepth 4000 in
theorem ok_Tape_stepOverNumber {w : wT} (hi : wInj w) {l : Launch} {σ σ' : St} (h : f_Tape_stepOverNumber σ = some σ') : gM w l yX7_stepOverNumber cX7_stepOverNumber 1 none 2 [.ref (w.1 2)] σ none σ' := by
  unfold f_Tape_stepOverNumber at h
  refine gM_of hi (by decide) [some (.ref (w.1 2))] rfl (Nat.le_of_ble_eq_true rfl) (fun E hl X Y => ?_)
  refine g_aload_n X dX7_stepOverNumber_0 rfl rfl ?_
  refine g_iconst X kI_0 dX7_stepOverNumber_1 rfl ?_
  refine gp_RX7_25 X dX7_stepOverNumber_2 rfl (fun σ1 e2 => ?_)
  replace h := lE_c e2 h
  exact ok_Tape_stepOverNumber_l5 X Y σ1 h

theorem dX7_step_0 : decode cX7_step 0 = .ok (.aload_n 0, 1) := by decide +kernel
theorem dX7_step_1 : decode cX7_step 1 = .ok (.getfield 28, 3) := by decide +kernel
theorem dX7_step_4 : decode cX7_step 4 = .ok (.aload_n 0, 1) := by decide +kernel
theorem dX7_step_5 : decode cX7_step 5 = .ok (.getfield 15, 3) := by decide +kernel
theorem dX7_step_8 : decode cX7_step 8 = .ok (.if_icmp .ge 44, 3) := by decide +kernel
theorem dX7_step_11 : decode cX7_step 11 = .ok (.aload_n 0, 1) := by decide +kernel
theorem dX7_step_12 : decode cX7_step 12 = .ok (.getfield 9, 3) := by decide +kernel
theorem dX7_step_15 : decode cX7_step 15 = .ok (.aload_n 0, 1) := by decide +kernel
theorem dX7_step_16 : decode cX7_step 16 = .ok (.getfield 28, 3) := by decide +kernel
theorem dX7_step_19 : decode cX7_step 19 = .ok (.baload, 1) := by decide +kernel
theorem dX7_step_20 : decode cX7_step 20 = .ok (.bipush 32, 2) := by decide +kernel
theorem dX7_step_22 : decode cX7_step 22 = .ok (.if_icmp .eq 17, 3) := by decide +kernel
theorem dX7_step_25 : decode cX7_step 25 = .ok (.aload_n 0, 1) := by decide +kernel
theorem dX7_step_26 : decode cX7_step 26 = .ok (.getfield 9, 3) := by decide +kernel
theorem dX7_step_29 : decode cX7_step 29 = .ok (.aload_n 0, 1) := by decide +kernel
theorem dX7_step_30 : decode cX7_step 30 = .ok (.getfield 28, 3) := by decide +kernel
theorem dX7_step_33 : decode cX7_step 33 = .ok (.baload, 1) := by decide +kernel
theorem dX7_step_34 : decode cX7_step 34 = .ok (.bipush 10, 2) := by decide +kernel
theorem dX7_step_36 : decode cX7_step 36 = .ok (.if_icmp .ne 16, 3) := by decide +kernel
theorem dX7_step_39 : decode cX7_step 39 = .ok (.aload_n 0, 1) := by decide +kernel
theorem dX7_step_40 : decode cX7_step 40 = .ok (.dup, 1) := by decide +kernel
theorem dX7_step_41 : decode cX7_step 41 = .ok (.getfield 28, 3) := by decide +kernel
theorem dX7_step_44 : decode cX7_step 44 = .ok (.iconst 1, 1) := by decide +kernel
theorem dX7_step_45 : decode cX7_step 45 = .ok (.iadd, 1) := by decide +kernel
theorem dX7_step_46 : decode cX7_step 46 = .ok (.putfield 28, 3) := by decide +kernel
theorem dX7_step_49 : decode cX7_step 49 = .ok (.goto (-49), 3) := by decide +kernel
theorem dX7_step_52 : decode cX7_step 52 = .ok (.aload_n 0, 1) := by decide +kernel
theorem dX7_step_53 : decode cX7_step 53 = .ok (.aload_n 0, 1) := by decide +kernel
theorem dX7_step_54 : decode cX7_step 54 = .ok (.getfield 28, 3) := by decide +kernel
theorem dX7_step_57 : decode cX7_step 57 = .ok (.putfield 22, 3) := by decide +kernel
theorem dX7_step_60 : decode cX7_step 60 = .ok (.aload_n 0, 1) := by decide +kernel
theorem dX7_step_61 : decode cX7_step 61 = .ok (.getfield 28, 3) := by decide +kernel
theorem dX7_step_64 : decode cX7_step 64 = .ok (.aload_n 0, 1) := by decide +kernel
theorem dX7_step_65 : decode cX7_step 65 = .ok (.getfield 15, 3) := by decide +kernel
theorem dX7_step_68 : decode cX7_step 68 = .ok (.if_icmp .lt 12, 3) := by decide +kernel
theorem dX7_step_71 : decode cX7_step 71 = .ok (.aload_n 0, 1) := by decide +kernel
theorem dX7_step_72 : decode cX7_step 72 = .ok (.bipush 6, 2) := by decide +kernel
theorem dX7_step_74 : decode cX7_step 74 = .ok (.putfield 19, 3) := by decide +kernel
theorem dX7_step_77 : decode cX7_step 77 = .ok (.goto 81, 3) := by decide +kernel
theorem dX7_step_80 : decode cX7_step 80 = .ok (.aload_n 0, 1) := by decide +kernel
theorem dX7_step_81 : decode cX7_step 81 = .ok (.getfield 9, 3) := by decide +kernel
theorem dX7_step_84 : decode cX7_step 84 = .ok (.aload_n 0, 1) := by decide +kernel
theorem dX7_step_85 : decode cX7_step 85 = .ok (.getfield 28, 3) := by decide +kernel
theorem dX7_step_88 : decode cX7_step 88 = .ok (.baload, 1) := by decide +kernel
theorem dX7_step_89 : decode cX7_step 89 = .ok (.invokestatic 34, 3) := by decide +kernel
theorem dX7_step_92 : decode cX7_step 92 = .ok (.ifCond .eq 10, 3) := by decide +kernel
theorem dX7_step_95 : decode cX7_step 95 = .ok (.aload_n 0, 1) := by decide +kernel
theorem dX7_step_96 : decode cX7_step 96 = .ok (.invokevirtual 38, 3) := by decide +kernel
theorem dX7_step_99 : decode cX7_step 99 = .ok (.goto 59, 3) := by decide +kernel
theorem dX7_step_102 : decode cX7_step 102 = .ok (.aload_n 0, 1) := by decide +kernel
theorem dX7_step_103 : decode cX7_step 103 = .ok (.getfield 9, 3) := by decide +kernel
theorem dX7_step_106 : decode cX7_step 106 = .ok (.aload_n 0, 1) := by decide +kernel
theorem dX7_step_107 : decode cX7_step 107 = .ok (.getfield 28, 3) := by decide +kernel
theorem dX7_step_110 : decode cX7_step 110 = .ok (.baload, 1) := by decide +kernel
theorem dX7_step_111 : decode cX7_step 111 = .ok (.invokestatic 41, 3) := by decide +kernel
theorem dX7_step_114 : decode cX7_step 114 = .ok (.ifCond .eq 10, 3) := by decide +kernel
theorem dX7_step_117 : decode cX7_step 117 = .ok (.aload_n 0, 1) := by decide +kernel
theorem dX7_step_118 : decode cX7_step 118 = .ok (.invokevirtual 44, 3) := by decide +kernel
theorem dX7_step_121 : decode cX7_step 121 = .ok (.goto 37, 3) := by decide +kernel
theorem dX7_step_124 : decode cX7_step 124 = .ok (.aload_n 0, 1) := by decide +kernel
theorem dX7_step_125 : decode cX7_step 125 = .ok (.aload_n 0, 1) := by decide +kernel
theorem dX7_step_126 : decode cX7_step 126 = .ok (.getfield 9, 3) := by decide +kernel
theorem dX7_step_129 : decode cX7_step 129 = .ok (.aload_n 0, 1) := by decide +kernel
theorem dX7_step_130 : decode cX7_step 130 = .ok (.getfield 28, 3) := by decide +kernel
theorem dX7_step_133 : decode cX7_step 133 = .ok (.baload, 1) := by decide +kernel
theorem dX7_step_134 : decode cX7_step 134 = .ok (.bipush 59, 2) := by decide +kernel
theorem dX7_step_136 : decode cX7_step 136 = .ok (.if_icmp .ne 7, 3) := by decide +kernel
theorem dX7_step_139 : decode cX7_step 139 = .ok (.iconst 5, 1) := by decide +kernel
theorem dX7_step_140 : decode cX7_step 140 = .ok (.goto 5, 3) := by decide +kernel
theorem dX7_step_143 : decode cX7_step 143 = .ok (.bipush 7, 2) := by decide +kernel
theorem dX7_step_145 : decode cX7_step 145 = .ok (.putfield 19, 3) := by decide +kernel
theorem dX7_step_148 : decode cX7_step 148 = .ok (.aload_n 0, 1) := by decide +kernel
theorem dX7_step_149 : decode cX7_step 149 = .ok (.dup, 1) := by decide +kernel
theorem dX7_step_150 : decode cX7_step 150 = .ok (.getfield 28, 3) := by decide +kernel
theorem dX7_step_153 : decode cX7_step 153 = .ok (.iconst 1, 1) := by decide +kernel
theorem dX7_step_154 : decode cX7_step 154 = .ok (.iadd, 1) := by decide +kernel
theorem dX7_step_155 : decode cX7_step 155 = .ok (.putfield 28, 3) := by decide +kernel
theorem dX7_step_158 : decode cX7_step 158 = .ok (.return_, 1) := by decide +kernel
def f_Tape_step_b145 (xs1 : Int32) (σ : St) : Option St :=
  lE (stF σ 3 xs1) fun σ1 => lE (stF σ1 6 ((rF σ1 6) + 1)) fun σ3 => some σ3
set_option maxRecDepth 4000 in
theorem ok_Tape_step_b145 {E : gE} {w : wT} {σ' : St} (X : gC E w cX7_step 1 RX7 7) (Y : gQ E w none none σ') {xs1 : Int32} (σ : St) (h : f_Tape_step_b145 xs1 σ = some σ') : gW E w 1 σ 145 [some (.ref (w.1 2))] [.int xs1, .ref (w.1 2)] := by
  unfold f_Tape_step_b145 at h
  refine gp_RX7_19 X dX7_step_145 rfl (fun σ1 e2 => ?_)
  replace h := lE_c e2 h
  refine g_aload_n X dX7_step_148 rfl rfl ?_
  refine g_dup X dX7_step_149 rfl rfl ?_
  refine gf_RX7_28 X dX7_step_150 rfl ?_
  refine g_iconst X kI_1 dX7_step_153 rfl ?_
  refine g_iadd X dX7_step_154 rfl ?_
  refine gp_RX7_28 X dX7_step_155 rfl (fun σ3 e4 => ?_)
  replace h := lE_c e4 h
  obtain rfl := rv_e h
  exact g_vret X Y dX7_step_158

def f_Tape_step_b52 (σ : St) : Option St :=
  lE (stF σ 4 (rF σ 6)) fun σ1 => if (rF σ1 6) < (rF σ1 2) then (ck (ib (rF σ1 6) 600) <| bd (f_Tape_isLetter (rI σ1 50 (rF σ1 6)) σ1) fun r7 σ6 => if r7 = 0 then (ck (ib (rF σ6 6) 600) <| bd (f_Tape_isFigure (rI σ6 50 (rF σ6 6)) σ6) fun r12 σ11 => if r12 = 0 then (ck (ib (rF σ11 6) 600) <| if (rI σ11 50 (rF σ11 6)) = 59 then (f_Tape_step_b145 5 σ11) else (f_Tape_step_b145 7 σ11)) else (bv (f_Tape_stepOverNumber σ11) fun σ17 => some σ17)) else (bv (f_Tape_stepOverName σ6) fun σ19 => some σ19)) else (lE (stF σ1 3 6) fun σ20 => some σ20)
set_option maxRecDepth 4000 in
theorem ok_Tape_step_b52 {E : gE} {w : wT} {σ' : St} (X : gC E w cX7_step 1 RX7 7) (Y : gQ E w none none σ') (σ : St) (h : f_Tape_step_b52 σ = some σ') : gW E w 1 σ 52 [some (.ref (w.1 2))] [] := by
  unfold f_Tape_step_b52 at h
  refine g_aload_n X dX7_step_52 rfl rfl ?_
  refine g_aload_n X dX7_step_53 rfl rfl ?_
  refine gf_RX7_28 X dX7_step_54 rfl ?_
  refine gp_RX7_22 X dX7_step_57 rfl (fun σ1 e2 => ?_)
  replace h := lE_c e2 h
  refine g_aload_n X dX7_step_60 rfl rfl ?_
  refine gf_RX7_28 X dX7_step_61 rfl ?_
  refine g_aload_n X dX7_step_64 rfl rfl ?_
  refine gf_RX7_15 X dX7_step_65 rfl ?_
  refine g_icmp_lt X dX7_step_68 (tgt := 80) rfl rfl (fun c3 => ?_) (fun c3 => ?_)
  · replace h := if_t c3 h
    refine g_aload_n X dX7_step_80 rfl rfl ?_
    refine gf_RX7_9 X dX7_step_81 rfl ?_
    refine g_aload_n X dX7_step_84 rfl rfl ?_
    refine gf_RX7_28 X dX7_step_85 rfl ?_
    obtain ⟨c4, h⟩ := ck_e h
    refine g_bald X ar_50.1 ar_50.2.1 ar_50.2.2 (ib_e c4) dX7_step_88 rfl ?_
    obtain ⟨r7, σ6, h5, h⟩ := bd_e h
    refine g_callSI X [.int (rI σ1 50 (rF σ1 6))] (ok_Tape_isLetter X.inj h5) my_yX7_isLetter mt_yX7_isLetter ml_RX7_34 (by decide) rfl dX7_step_89 (Nat.le_of_ble_eq_true rfl) rfl rfl ?_
    refine g_if_eq X dX7_step_92 (tgt := 102) rfl rfl (fun c8 => ?_) (fun c8 => ?_)
    · replace h := if_t c8 h
      refine g_aload_n X dX7_step_102 rfl rfl ?_
      refine gf_RX7_9 X dX7_step_103 rfl ?_
      refine g_aload_n X dX7_step_106 rfl rfl ?_
      refine gf_RX7_28 X dX7_step_107 rfl ?_
      obtain ⟨c9, h⟩ := ck_e h
      refine g_bald X ar_50.1 ar_50.2.1 ar_50.2.2 (ib_e c9) dX7_step_110 rfl ?_
      obtain ⟨r12, σ11, h10, h⟩ := bd_e h
      refine g_callSI X [.int (rI σ6 50 (rF σ6 6))] (ok_Tape_isFigure X.inj h10) my_yX7_isFigure mt_yX7_isFigure ml_RX7_41 (by decide) rfl dX7_step_111 (Nat.le_of_ble_eq_true rfl) rfl rfl ?_
      refine g_if_eq X dX7_step_114 (tgt := 124) rfl rfl (fun c13 => ?_) (fun c13 => ?_)
      · replace h := if_t c13 h
        refine g_aload_n X dX7_step_124 rfl rfl ?_
        refine g_aload_n X dX7_step_125 rfl rfl ?_
        refine gf_RX7_9 X dX7_step_126 rfl ?_
        refine g_aload_n X dX7_step_129 rfl rfl ?_
        refine gf_RX7_28 X dX7_step_130 rfl ?_
        obtain ⟨c14, h⟩ := ck_e h
        refine g_bald X ar_50.1 ar_50.2.1 ar_50.2.2 (ib_e c14) dX7_step_133 rfl ?_
        refine g_bipush X kB_59 dX7_step_134 rfl ?_
        refine g_icmp_ne X dX7_step_136 (tgt := 143) rfl rfl (fun c15 => ?_) (fun c15 => ?_)
        · replace h := if_f c15 h
          refine g_bipush X kB_7 dX7_step_143 rfl ?_
          exact ok_Tape_step_b145 X Y σ11 h
        · replace h := if_t c15 h
          refine g_iconst X kI_5 dX7_step_139 rfl ?_
          refine g_goto X dX7_step_140 (tgt := 145) rfl ?_
          exact ok_Tape_step_b145 X Y σ11 h
      · replace h := if_f c13 h
        refine g_aload_n X dX7_step_117 rfl rfl ?_
        obtain ⟨σ17, h16, h⟩ := bv_e h
        refine g_callVV X [] (ok_Tape_stepOverNumber X.inj h16) my_yX7_stepOverNumber mi_yX7_stepOverNumber ms_yX7_stepOverNumber ml_RX7_44 (by decide) rfl rfl (by decide) rfl dX7_step_118 (Nat.le_of_ble_eq_true rfl) rfl rfl ?_
        refine g_goto X dX7_step_121 (tgt := 158) rfl ?_
        obtain rfl := rv_e h
        exact g_vret X Y dX7_step_158
    · replace h := if_f c8 h
      refine g_aload_n X dX7_step_95 rfl rfl ?_
      obtain ⟨σ19, h18, h⟩ := bv_e h
      refine g_callVV X [] (ok_Tape_stepOverName X.inj h18) my_yX7_stepOverName mi_yX7_stepOverName ms_yX7_stepOverName ml_RX7_38 (by decide) rfl rfl (by decide) rfl dX7_step_96 (Nat.le_of_ble_eq_true rfl) rfl rfl ?_
      refine g_goto X dX7_step_99 (tgt := 158) rfl ?_
      obtain rfl := rv_e h
      exact g_vret X Y dX7_step_158
  · replace h := if_f c3 h
    refine g_aload_n X dX7_step_71 rfl rfl ?_
    refine g_bipush X kB_6 dX7_step_72 rfl ?_
    refine gp_RX7_19 X dX7_step_74 rfl (fun σ20 e21 => ?_)
    replace h := lE_c e21 h
    refine g_goto X dX7_step_77 (tgt := 158) rfl ?_
    obtain rfl := rv_e h
    exact g_vret X Y dX7_step_158

def f_Tape_step_b39 (k0 : St → Option St) (σ : St) : Option St :=
  lE (stF σ 6 ((rF σ 6) + 1)) fun σ1 => k0 σ1
set_option maxRecDepth 4000 in
theorem ok_Tape_step_b39 {E : gE} {w : wT} {σ' : St} (X : gC E w cX7_step 1 RX7 7) (Y : gQ E w none none σ') {k0 : St → Option St} (hk0 : ∀ (σ : St), k0 σ = some σ' → gW E w 1 σ 0 [some (.ref (w.1 2))] []) (σ : St) (h : f_Tape_step_b39 k0 σ = some σ') : gW E w 1 σ 39 [some (.ref (w.1 2))] [] := by
  unfold f_Tape_step_b39 at h
  refine g_aload_n X dX7_step_39 rfl rfl ?_
  refine g_dup X dX7_step_40 rfl rfl ?_
  refine gf_RX7_28 X dX7_step_41 rfl ?_
  refine g_iconst X kI_1 dX7_step_44 rfl ?_
  refine g_iadd X dX7_step_45 rfl ?_
  refine gp_RX7_28 X dX7_step_46 rfl (fun σ1 e2 => ?_)
  replace h := lE_c e2 h
  refine g_goto X dX7_step_49 (tgt := 0) rfl ?_
  exact hk0 σ1 h

def f_Tape_step_b0 (k0 : St → Option St) (σ : St) : Option St :=
  if (rF σ 2) ≤ (rF σ 6) then (f_Tape_step_b52 σ) else (ck (ib (rF σ 6) 600) <| if (rI σ 50 (rF σ 6)) = 32 then (f_Tape_step_b39 k0 σ) else (ck (ib (rF σ 6) 600) <| if (rI σ 50 (rF σ 6)) = 10 then (f_Tape_step_b39 k0 σ) else (f_Tape_step_b52 σ)))
set_option maxRecDepth 4000 in
theorem ok_Tape_step_b0 {E : gE} {w : wT} {σ' : St} (X : gC E w cX7_step 1 RX7 7) (Y : gQ E w none none σ') {k0 : St → Option St} (hk0 : ∀ (σ : St), k0 σ = some σ' → gW E w 1 σ 0 [some (.ref (w.1 2))] []) (σ : St) (h : f_Tape_step_b0 k0 σ = some σ') : gW E w 1 σ 0 [some (.ref (w.1 2))] [] := by
  unfold f_Tape_step_b0 at h
  refine g_aload_n X dX7_step_0 rfl rfl ?_
  refine gf_RX7_28 X dX7_step_1 rfl ?_
  refine g_aload_n X dX7_step_4 rfl rfl ?_
  refine gf_RX7_15 X dX7_step_5 rfl ?_
  refine g_icmp_ge X dX7_step_8 (tgt := 52) rfl rfl (fun c1 => ?_) (fun c1 => ?_)
  · replace h := if_t c1 h
    exact ok_Tape_step_b52 X Y σ h
  · replace h := if_f c1 h
    refine g_aload_n X dX7_step_11 rfl rfl ?_
    refine gf_RX7_9 X dX7_step_12 rfl ?_
    refine g_aload_n X dX7_step_15 rfl rfl ?_
    refine gf_RX7_28 X dX7_step_16 rfl ?_
    obtain ⟨c2, h⟩ := ck_e h
    refine g_bald X ar_50.1 ar_50.2.1 ar_50.2.2 (ib_e c2) dX7_step_19 rfl ?_
    refine g_bipush X kB_32 dX7_step_20 rfl ?_
    refine g_icmp_eq X dX7_step_22 (tgt := 39) rfl rfl (fun c3 => ?_) (fun c3 => ?_)
    · replace h := if_t c3 h
      exact ok_Tape_step_b39 X Y hk0 σ h
    · replace h := if_f c3 h
      refine g_aload_n X dX7_step_25 rfl rfl ?_
      refine gf_RX7_9 X dX7_step_26 rfl ?_
      refine g_aload_n X dX7_step_29 rfl rfl ?_
      refine gf_RX7_28 X dX7_step_30 rfl ?_
      obtain ⟨c4, h⟩ := ck_e h
      refine g_bald X ar_50.1 ar_50.2.1 ar_50.2.2 (ib_e c4) dX7_step_33 rfl ?_
      refine g_bipush X kB_10 dX7_step_34 rfl ?_
      refine g_icmp_ne X dX7_step_36 (tgt := 52) rfl rfl (fun c5 => ?_) (fun c5 => ?_)
      · replace h := if_f c5 h
        exact ok_Tape_step_b52 X Y σ h
      · replace h := if_t c5 h
        exact ok_Tape_step_b39 X Y hk0 σ h
def f_Tape_step_l0 : St → Option St := lp (fun _ => none) (f_Tape_step_b0) FU
theorem ok_Tape_step_l0 {E : gE} {w : wT} {σ' : St} (X : gC E w cX7_step 1 RX7 7) (Y : gQ E w none none σ') (σ : St) (h : f_Tape_step_l0 σ = some σ') : gW E w 1 σ 0 [some (.ref (w.1 2))] [] :=
  lp_ind (P := fun (k : St → Option St) => ∀ (σ : St), k  σ = some σ' → gW E w 1 σ 0 [some (.ref (w.1 2))] []) (fun _ hh => nn hh) (fun k hk  σ  hh => ok_Tape_step_b0 X Y hk σ hh) FU  σ  h

def f_Tape_step (σ : St) : Option St :=
  f_Tape_step_l0 σ
set_option maxRecDepth 4000 in
theorem ok_Tape_step {w : wT} (hi : wInj w) {l : Launch} {σ σ' : St} (h : f_Tape_step σ = some σ') : gM w l yX7_step cX7_step 1 none 7 [.ref (w.1 2)] σ none σ' := by
  unfold f_Tape_step at h
  refine gM_of hi (by decide) [some (.ref (w.1 2))] rfl (Nat.le_of_ble_eq_true rfl) (fun E hl X Y => ?_)
  exact ok_Tape_step_l0 X Y σ h

theorem dX7_rewind_0 : decode cX7_rewind 0 = .ok (.aload_n 0, 1) := by decide +kernel
theorem dX7_rewind_1 : decode cX7_rewind 1 = .ok (.iconst 0, 1) := by decide +kernel
theorem dX7_rewind_2 : decode cX7_rewind 2 = .ok (.putfield 28, 3) := by decide +kernel
theorem dX7_rewind_5 : decode cX7_rewind 5 = .ok (.aload_n 0, 1) := by decide +kernel
theorem dX7_rewind_6 : decode cX7_rewind 6 = .ok (.invokevirtual 31, 3) := by decide +kernel
theorem dX7_rewind_9 : decode cX7_rewind 9 = .ok (.return_, 1) := by decide +kernel
def f_Tape_rewind (σ : St) : Option St :=
  lE (stF σ 6 0) fun σ1 => bv (f_Tape_step σ1) fun σ4 => some σ4
set_option maxRecDepth 4000 in
theorem ok_Tape_rewind {w : wT} (hi : wInj w) {l : Launch} {σ σ' : St} (h : f_Tape_rewind σ = some σ') : gM w l yX7_rewind cX7_rewind 1 none 8 [.ref (w.1 2)] σ none σ' := by
  unfold f_Tape_rewind at h
  refine gM_of hi (by decide) [some (.ref (w.1 2))] rfl (Nat.le_of_ble_eq_true rfl) (fun E hl X Y => ?_)
  refine g_aload_n X dX7_rewind_0 rfl rfl ?_
  refine g_iconst X kI_0 dX7_rewind_1 rfl ?_
  refine gp_RX7_28 X dX7_rewind_2 rfl (fun σ1 e2 => ?_)
  replace h := lE_c e2 h
  refine g_aload_n X dX7_rewind_5 rfl rfl ?_
  obtain ⟨σ4, h3, h⟩ := bv_e h
  refine g_callVV X [] (ok_Tape_step X.inj h3) my_yX7_step mi_yX7_step ms_yX7_step ml_RX7_31 (by decide) rfl rfl (by decide) rfl dX7_rewind_6 (Nat.le_of_ble_eq_true rfl) rfl rfl ?_
  obtain rfl := rv_e h
  exact g_vret X Y dX7_rewind_9

theorem dX4_fail_0 : decode cX4_fail 0 = .ok (.aload_n 0, 1) := by decide +kernel
theorem dX4_fail_1 : decode cX4_fail 1 = .ok (.iload_n 2, 1) := by decide +kernel
theorem dX4_fail_2 : decode cX4_fail 2 = .ok (.putfield 9, 3) := by decide +kernel
theorem dX4_fail_5 : decode cX4_fail 5 = .ok (.aload_n 0, 1) := by decide +kernel
theorem dX4_fail_6 : decode cX4_fail 6 = .ok (.aload_n 1, 1) := by decide +kernel
theorem dX4_fail_7 : decode cX4_fail 7 = .ok (.getfield 46, 3) := by decide +kernel
theorem dX4_fail_10 : decode cX4_fail 10 = .ok (.putfield 15, 3) := by decide +kernel
theorem dX4_fail_13 : decode cX4_fail 13 = .ok (.iconst 0, 1) := by decide +kernel
theorem dX4_fail_14 : decode cX4_fail 14 = .ok (.ireturn, 1) := by decide +kernel
def f_Reader_fail (x2 : Int32) (σ : St) : Option (Int32 × St) :=
  lE (stF σ 7 x2) fun σ1 => lE (stF σ1 8 (rF σ1 4)) fun σ3 => some (0, σ3)
set_option maxRecDepth 4000 in
theorem ok_Reader_fail {w : wT} (hi : wInj w) {l : Launch} {x2 : Int32} {σ σ' : St} {r : Int32} (h : f_Reader_fail x2 σ = some (r, σ')) : gM w l yX4_fail cX4_fail 3 (some .boolean) 1 [.ref (w.1 3), .ref (w.1 2), .int x2] σ (some (.int r)) σ' := by
  unfold f_Reader_fail at h
  refine gM_of hi (by decide) [some (.ref (w.1 3)), some (.ref (w.1 2)), some (.int x2)] rfl (Nat.le_of_ble_eq_true rfl) (fun E hl X Y => ?_)
  refine g_aload_n X dX4_fail_0 rfl rfl ?_
  refine g_iload_n X dX4_fail_1 rfl rfl ?_
  refine gp_RX4_9 X dX4_fail_2 rfl (fun σ1 e2 => ?_)
  replace h := lE_c e2 h
  refine g_aload_n X dX4_fail_5 rfl rfl ?_
  refine g_aload_n X dX4_fail_6 rfl rfl ?_
  refine gf_RX4_46 X dX4_fail_7 rfl ?_
  refine gp_RX4_15 X dX4_fail_10 rfl (fun σ3 e4 => ?_)
  replace h := lE_c e4 h
  refine g_iconst X kI_0 dX4_fail_13 rfl ?_
  obtain ⟨rfl, rfl⟩ := rt_e h
  exact g_zret X Y rfl dX4_fail_14

theorem dX1_add_0 : decode cX1_add 0 = .ok (.aload_n 0, 1) := by decide +kernel
theorem dX1_add_1 : decode cX1_add 1 = .ok (.getfield 9, 3) := by decide +kernel
theorem dX1_add_4 : decode cX1_add 4 = .ok (.istore 6, 2) := by decide +kernel
theorem dX1_add_6 : decode cX1_add 6 = .ok (.aload_n 0, 1) := by decide +kernel
theorem dX1_add_7 : decode cX1_add 7 = .ok (.dup, 1) := by decide +kernel
theorem dX1_add_8 : decode cX1_add 8 = .ok (.getfield 9, 3) := by decide +kernel
theorem dX1_add_11 : decode cX1_add 11 = .ok (.iconst 1, 1) := by decide +kernel
theorem dX1_add_12 : decode cX1_add 12 = .ok (.iadd, 1) := by decide +kernel
theorem dX1_add_13 : decode cX1_add 13 = .ok (.putfield 9, 3) := by decide +kernel
theorem dX1_add_16 : decode cX1_add 16 = .ok (.aload_n 0, 1) := by decide +kernel
theorem dX1_add_17 : decode cX1_add 17 = .ok (.getfield 15, 3) := by decide +kernel
theorem dX1_add_20 : decode cX1_add 20 = .ok (.iload 6, 2) := by decide +kernel
theorem dX1_add_22 : decode cX1_add 22 = .ok (.iload_n 1, 1) := by decide +kernel
theorem dX1_add_23 : decode cX1_add 23 = .ok (.iastore, 1) := by decide +kernel
theorem dX1_add_24 : decode cX1_add 24 = .ok (.aload_n 0, 1) := by decide +kernel
theorem dX1_add_25 : decode cX1_add 25 = .ok (.getfield 19, 3) := by decide +kernel
theorem dX1_add_28 : decode cX1_add 28 = .ok (.iload 6, 2) := by decide +kernel
theorem dX1_add_30 : decode cX1_add 30 = .ok (.ldc 69, 2) := by decide +kernel
theorem dX1_add_32 : decode cX1_add 32 = .ok (.iastore, 1) := by decide +kernel
theorem dX1_add_33 : decode cX1_add 33 = .ok (.aload_n 0, 1) := by decide +kernel
theorem dX1_add_34 : decode cX1_add 34 = .ok (.getfield 22, 3) := by decide +kernel
theorem dX1_add_37 : decode cX1_add 37 = .ok (.iload 6, 2) := by decide +kernel
theorem dX1_add_39 : decode cX1_add 39 = .ok (.ldc 69, 2) := by decide +kernel
theorem dX1_add_41 : decode cX1_add 41 = .ok (.iastore, 1) := by decide +kernel
theorem dX1_add_42 : decode cX1_add 42 = .ok (.aload_n 0, 1) := by decide +kernel
theorem dX1_add_43 : decode cX1_add 43 = .ok (.getfield 25, 3) := by decide +kernel
theorem dX1_add_46 : decode cX1_add 46 = .ok (.iload 6, 2) := by decide +kernel
theorem dX1_add_48 : decode cX1_add 48 = .ok (.iconst 0, 1) := by decide +kernel
theorem dX1_add_49 : decode cX1_add 49 = .ok (.iastore, 1) := by decide +kernel
theorem dX1_add_50 : decode cX1_add 50 = .ok (.aload_n 0, 1) := by decide +kernel
theorem dX1_add_51 : decode cX1_add 51 = .ok (.getfield 28, 3) := by decide +kernel
theorem dX1_add_54 : decode cX1_add 54 = .ok (.iload 6, 2) := by decide +kernel
theorem dX1_add_56 : decode cX1_add 56 = .ok (.iload_n 3, 1) := by decide +kernel
theorem dX1_add_57 : decode cX1_add 57 = .ok (.iastore, 1) := by decide +kernel
theorem dX1_add_58 : decode cX1_add 58 = .ok (.aload_n 0, 1) := by decide +kernel
theorem dX1_add_59 : decode cX1_add 59 = .ok (.getfield 31, 3) := by decide +kernel
theorem dX1_add_62 : decode cX1_add 62 = .ok (.iload 6, 2) := by decide +kernel
theorem dX1_add_64 : decode cX1_add 64 = .ok (.iload_n 2, 1) := by decide +kernel
theorem dX1_add_65 : decode cX1_add 65 = .ok (.iastore, 1) := by decide +kernel
theorem dX1_add_66 : decode cX1_add 66 = .ok (.aload_n 0, 1) := by decide +kernel
theorem dX1_add_67 : decode cX1_add 67 = .ok (.getfield 34, 3) := by decide +kernel
theorem dX1_add_70 : decode cX1_add 70 = .ok (.iload 6, 2) := by decide +kernel
theorem dX1_add_72 : decode cX1_add 72 = .ok (.iload 4, 2) := by decide +kernel
theorem dX1_add_74 : decode cX1_add 74 = .ok (.iastore, 1) := by decide +kernel
theorem dX1_add_75 : decode cX1_add 75 = .ok (.aload_n 0, 1) := by decide +kernel
theorem dX1_add_76 : decode cX1_add 76 = .ok (.getfield 37, 3) := by decide +kernel
theorem dX1_add_79 : decode cX1_add 79 = .ok (.iload 6, 2) := by decide +kernel
theorem dX1_add_81 : decode cX1_add 81 = .ok (.iload 5, 2) := by decide +kernel
theorem dX1_add_83 : decode cX1_add 83 = .ok (.iastore, 1) := by decide +kernel
theorem dX1_add_84 : decode cX1_add 84 = .ok (.aload_n 0, 1) := by decide +kernel
theorem dX1_add_85 : decode cX1_add 85 = .ok (.getfield 43, 3) := by decide +kernel
theorem dX1_add_88 : decode cX1_add 88 = .ok (.iload 6, 2) := by decide +kernel
theorem dX1_add_90 : decode cX1_add 90 = .ok (.iconst 1, 1) := by decide +kernel
theorem dX1_add_91 : decode cX1_add 91 = .ok (.iastore, 1) := by decide +kernel
theorem dX1_add_92 : decode cX1_add 92 = .ok (.iload_n 3, 1) := by decide +kernel
theorem dX1_add_93 : decode cX1_add 93 = .ok (.ldc 69, 2) := by decide +kernel
theorem dX1_add_95 : decode cX1_add 95 = .ok (.if_icmp .eq 16, 3) := by decide +kernel
theorem dX1_add_98 : decode cX1_add 98 = .ok (.aload_n 0, 1) := by decide +kernel
theorem dX1_add_99 : decode cX1_add 99 = .ok (.getfield 40, 3) := by decide +kernel
theorem dX1_add_102 : decode cX1_add 102 = .ok (.iload_n 3, 1) := by decide +kernel
theorem dX1_add_103 : decode cX1_add 103 = .ok (.iconst 4, 1) := by decide +kernel
theorem dX1_add_104 : decode cX1_add 104 = .ok (.imul, 1) := by decide +kernel
theorem dX1_add_105 : decode cX1_add 105 = .ok (.iload 4, 2) := by decide +kernel
theorem dX1_add_107 : decode cX1_add 107 = .ok (.iadd, 1) := by decide +kernel
theorem dX1_add_108 : decode cX1_add 108 = .ok (.iload 6, 2) := by decide +kernel
theorem dX1_add_110 : decode cX1_add 110 = .ok (.iastore, 1) := by decide +kernel
theorem dX1_add_111 : decode cX1_add 111 = .ok (.iload 6, 2) := by decide +kernel
theorem dX1_add_113 : decode cX1_add 113 = .ok (.ireturn, 1) := by decide +kernel
def f_Game_add (g : Nat) (x1 : Int32) (x2 : Int32) (x3 : Int32) (x4 : Int32) (x5 : Int32) (σ : St) : Option (Int32 × St) :=
  ck (isG g) <| lE (stF σ (g + 10) ((rF σ (g + 10)) + 1)) fun σ1 => ck (ib (rF σ (g + 10)) 60) <| lE (stA σ1 (g + 1) (rF σ (g + 10)).toNatClampNeg x1) fun σ4 => ck (ib (rF σ (g + 10)) 60) <| lE (stA σ4 (g + 2) (rF σ (g + 10)).toNatClampNeg ((-1000000))) fun σ7 => ck (ib (rF σ (g + 10)) 60) <| lE (stA σ7 (g + 3) (rF σ (g + 10)).toNatClampNeg ((-1000000))) fun σ10 => ck (ib (rF σ (g + 10)) 60) <| lE (stA σ10 (g + 4) (rF σ (g + 10)).toNatClampNeg 0) fun σ13 => ck (ib (rF σ (g + 10)) 60) <| lE (stA σ13 (g + 5) (rF σ (g + 10)).toNatClampNeg x3) fun σ16 => ck (ib (rF σ (g + 10)) 60) <| lE (stA σ16 (g + 6) (rF σ (g + 10)).toNatClampNeg x2) fun σ19 => ck (ib (rF σ (g + 10)) 60) <| lE (stA σ19 (g + 7) (rF σ (g + 10)).toNatClampNeg x4) fun σ22 => ck (ib (rF σ (g + 10)) 60) <| lE (stA σ22 (g + 8) (rF σ (g + 10)).toNatClampNeg x5) fun σ25 => ck (ib (rF σ (g + 10)) 60) <| lE (stA σ25 (g + 10) (rF σ (g + 10)).toNatClampNeg 1) fun σ28 => if x3 = ((-1000000)) then (some (rF σ (g + 10), σ28)) else (ck (ib ((x3 * 4) + x4) 240) <| lE (stA σ28 (g + 9) ((x3 * 4) + x4).toNatClampNeg (rF σ (g + 10))) fun σ32 => some (rF σ (g + 10), σ32))
set_option maxRecDepth 4000 in
theorem ok_Game_add {w : wT} (hi : wInj w) {l : Launch} {g : Nat} {x1 : Int32} {x2 : Int32} {x3 : Int32} {x4 : Int32} {x5 : Int32} {σ σ' : St} {r : Int32} (h : f_Game_add g x1 x2 x3 x4 x5 σ = some (r, σ')) : gM w l yX1_add cX1_add 7 (some .int) 1 [.ref (w.1 g), .int x1, .int x2, .int x3, .int x4, .int x5] σ (some (.int r)) σ' := by
  unfold f_Game_add at h
  obtain ⟨hg, h⟩ := ck_e h
  refine gM_of hi (by decide) [some (.ref (w.1 g)), some (.int x1), some (.int x2), some (.int x3), some (.int x4), some (.int x5)] rfl (Nat.le_of_ble_eq_true rfl) (fun E hl X Y => ?_)
  refine g_aload_n X dX1_add_0 rfl rfl ?_
  refine gf_RX1_9 hg X dX1_add_1 rfl ?_
  refine g_istore X [some (.ref (w.1 g)), some (.int x1), some (.int x2), some (.int x3), some (.int x4), some (.int x5), some (.int (rF σ (g + 10)))] dX1_add_4 (Nat.le_of_ble_eq_true rfl) rfl rfl rfl ?_
  refine g_aload_n X dX1_add_6 rfl rfl ?_
  refine g_dup X dX1_add_7 rfl rfl ?_
  refine gf_RX1_9 hg X dX1_add_8 rfl ?_
  refine g_iconst X kI_1 dX1_add_11 rfl ?_
  refine g_iadd X dX1_add_12 rfl ?_
  refine gp_RX1_9 hg X dX1_add_13 rfl (fun σ1 e2 => ?_)
  replace h := lE_c e2 h
  refine g_aload_n X dX1_add_16 rfl rfl ?_
  refine gf_RX1_15 hg X dX1_add_17 rfl ?_
  refine g_iload X dX1_add_20 rfl rfl ?_
  refine g_iload_n X dX1_add_22 rfl rfl ?_
  obtain ⟨c3, h⟩ := ck_e h
  refine g_iast X (ga_1 hg).1 (ga_1 hg).2.1 (ga_1 hg).2.2 (ib_e c3) dX1_add_23 rfl (fun σ4 e5 => ?_)
  replace h := lE_c e5 h
  refine g_aload_n X dX1_add_24 rfl rfl ?_
  refine gf_RX1_19 hg X dX1_add_25 rfl ?_
  refine g_iload X dX1_add_28 rfl rfl ?_
  refine g_ldc X dX1_add_30 kc_RX1_69 rfl ?_
  obtain ⟨c6, h⟩ := ck_e h
  refine g_iast X (ga_2 hg).1 (ga_2 hg).2.1 (ga_2 hg).2.2 (ib_e c6) dX1_add_32 rfl (fun σ7 e8 => ?_)
  replace h := lE_c e8 h
  refine g_aload_n X dX1_add_33 rfl rfl ?_
  refine gf_RX1_22 hg X dX1_add_34 rfl ?_
  refine g_iload X dX1_add_37 rfl rfl ?_
  refine g_ldc X dX1_add_39 kc_RX1_69 rfl ?_
  obtain ⟨c9, h⟩ := ck_e h
  refine g_iast X (ga_3 hg).1 (ga_3 hg).2.1 (ga_3 hg).2.2 (ib_e c9) dX1_add_41 rfl (fun σ10 e11 => ?_)
  replace h := lE_c e11 h
  refine g_aload_n X dX1_add_42 rfl rfl ?_
  refine gf_RX1_25 hg X dX1_add_43 rfl ?_
  refine g_iload X dX1_add_46 rfl rfl ?_
  refine g_iconst X kI_0 dX1_add_48 rfl ?_
  obtain ⟨c12, h⟩ := ck_e h
  refine g_iast X (ga_4 hg).1 (ga_4 hg).2.1 (ga_4 hg).2.2 (ib_e c12) dX1_add_49 rfl (fun σ13 e14 => ?_)
  replace h := lE_c e14 h
  refine g_aload_n X dX1_add_50 rfl rfl ?_
  refine gf_RX1_28 hg X dX1_add_51 rfl ?_
  refine g_iload X dX1_add_54 rfl rfl ?_
  refine g_iload_n X dX1_add_56 rfl rfl ?_
  obtain ⟨c15, h⟩ := ck_e h
  refine g_iast X (ga_5 hg).1 (ga_5 hg).2.1 (ga_5 hg).2.2 (ib_e c15) dX1_add_57 rfl (fun σ16 e17 => ?_)
  replace h := lE_c e17 h
  refine g_aload_n X dX1_add_58 rfl rfl ?_
  refine gf_RX1_31 hg X dX1_add_59 rfl ?_
  refine g_iload X dX1_add_62 rfl rfl ?_
  refine g_iload_n X dX1_add_64 rfl rfl ?_
  obtain ⟨c18, h⟩ := ck_e h
  refine g_iast X (ga_6 hg).1 (ga_6 hg).2.1 (ga_6 hg).2.2 (ib_e c18) dX1_add_65 rfl (fun σ19 e20 => ?_)
  replace h := lE_c e20 h
  refine g_aload_n X dX1_add_66 rfl rfl ?_
  refine gf_RX1_34 hg X dX1_add_67 rfl ?_
  refine g_iload X dX1_add_70 rfl rfl ?_
  refine g_iload X dX1_add_72 rfl rfl ?_
  obtain ⟨c21, h⟩ := ck_e h
  refine g_iast X (ga_7 hg).1 (ga_7 hg).2.1 (ga_7 hg).2.2 (ib_e c21) dX1_add_74 rfl (fun σ22 e23 => ?_)
  replace h := lE_c e23 h
  refine g_aload_n X dX1_add_75 rfl rfl ?_
  refine gf_RX1_37 hg X dX1_add_76 rfl ?_
  refine g_iload X dX1_add_79 rfl rfl ?_
  refine g_iload X dX1_add_81 rfl rfl ?_
  obtain ⟨c24, h⟩ := ck_e h
  refine g_iast X (ga_8 hg).1 (ga_8 hg).2.1 (ga_8 hg).2.2 (ib_e c24) dX1_add_83 rfl (fun σ25 e26 => ?_)
  replace h := lE_c e26 h
  refine g_aload_n X dX1_add_84 rfl rfl ?_
  refine gf_RX1_43 hg X dX1_add_85 rfl ?_
  refine g_iload X dX1_add_88 rfl rfl ?_
  refine g_iconst X kI_1 dX1_add_90 rfl ?_
  obtain ⟨c27, h⟩ := ck_e h
  refine g_iast X (ga_10 hg).1 (ga_10 hg).2.1 (ga_10 hg).2.2 (ib_e c27) dX1_add_91 rfl (fun σ28 e29 => ?_)
  replace h := lE_c e29 h
  refine g_iload_n X dX1_add_92 rfl rfl ?_
  refine g_ldc X dX1_add_93 kc_RX1_69 rfl ?_
  refine g_icmp_eq X dX1_add_95 (tgt := 111) rfl rfl (fun c30 => ?_) (fun c30 => ?_)
  · replace h := if_t c30 h
    refine g_iload X dX1_add_111 rfl rfl ?_
    obtain ⟨rfl, rfl⟩ := rt_e h
    exact g_iret X Y dX1_add_113
  · replace h := if_f c30 h
    refine g_aload_n X dX1_add_98 rfl rfl ?_
    refine gf_RX1_40 hg X dX1_add_99 rfl ?_
    refine g_iload_n X dX1_add_102 rfl rfl ?_
    refine g_iconst X kI_4 dX1_add_103 rfl ?_
    refine g_imul X dX1_add_104 rfl ?_
    refine g_iload X dX1_add_105 rfl rfl ?_
    refine g_iadd X dX1_add_107 rfl ?_
    refine g_iload X dX1_add_108 rfl rfl ?_
    obtain ⟨c31, h⟩ := ck_e h
    refine g_iast X (ga_9 hg).1 (ga_9 hg).2.1 (ga_9 hg).2.2 (ib_e c31) dX1_add_110 rfl (fun σ32 e33 => ?_)
    replace h := lE_c e33 h
    refine g_iload X dX1_add_111 rfl rfl ?_
    obtain ⟨rfl, rfl⟩ := rt_e h
    exact g_iret X Y dX1_add_113

theorem dX4_readPay_0 : decode cX4_readPay 0 = .ok (.aload_n 1, 1) := by decide +kernel
theorem dX4_readPay_1 : decode cX4_readPay 1 = .ok (.getfield 33, 3) := by decide +kernel
theorem dX4_readPay_4 : decode cX4_readPay 4 = .ok (.iconst 4, 1) := by decide +kernel
theorem dX4_readPay_5 : decode cX4_readPay 5 = .ok (.if_icmp .eq 10, 3) := by decide +kernel
theorem dX4_readPay_8 : decode cX4_readPay 8 = .ok (.aload_n 0, 1) := by decide +kernel
theorem dX4_readPay_9 : decode cX4_readPay 9 = .ok (.aload_n 1, 1) := by decide +kernel
theorem dX4_readPay_10 : decode cX4_readPay 10 = .ok (.iconst 1, 1) := by decide +kernel
theorem dX4_readPay_11 : decode cX4_readPay 11 = .ok (.invokevirtual 36, 3) := by decide +kernel
theorem dX4_readPay_14 : decode cX4_readPay 14 = .ok (.ireturn, 1) := by decide +kernel
theorem dX4_readPay_15 : decode cX4_readPay 15 = .ok (.aload_n 2, 1) := by decide +kernel
theorem dX4_readPay_16 : decode cX4_readPay 16 = .ok (.getfield 70, 3) := by decide +kernel
theorem dX4_readPay_19 : decode cX4_readPay 19 = .ok (.iload_n 3, 1) := by decide +kernel
theorem dX4_readPay_20 : decode cX4_readPay 20 = .ok (.aload_n 1, 1) := by decide +kernel
theorem dX4_readPay_21 : decode cX4_readPay 21 = .ok (.getfield 73, 3) := by decide +kernel
theorem dX4_readPay_24 : decode cX4_readPay 24 = .ok (.iastore, 1) := by decide +kernel
theorem dX4_readPay_25 : decode cX4_readPay 25 = .ok (.aload_n 1, 1) := by decide +kernel
theorem dX4_readPay_26 : decode cX4_readPay 26 = .ok (.invokevirtual 40, 3) := by decide +kernel
theorem dX4_readPay_29 : decode cX4_readPay 29 = .ok (.iconst 1, 1) := by decide +kernel
theorem dX4_readPay_30 : decode cX4_readPay 30 = .ok (.ireturn, 1) := by decide +kernel
def f_Reader_readPay (g : Nat) (x3 : Int32) (σ : St) : Option (Int32 × St) :=
  ck (isG g) <| if (rF σ 3) = 4 then (ck (ib x3 60) <| lE (stA σ (g + 2) x3.toNatClampNeg (rF σ 5)) fun σ3 => bv (f_Tape_step σ3) fun σ6 => some (1, σ6)) else (bd (f_Reader_fail 1 σ) fun r9 σ8 => ck (isB r9) <| some (r9, σ8))
set_option maxRecDepth 4000 in
theorem ok_Reader_readPay {w : wT} (hi : wInj w) {l : Launch} {g : Nat} {x3 : Int32} {σ σ' : St} {r : Int32} (h : f_Reader_readPay g x3 σ = some (r, σ')) : gM w l yX4_readPay cX4_readPay 4 (some .boolean) 8 [.ref (w.1 3), .ref (w.1 2), .ref (w.1 g), .int x3] σ (some (.int r)) σ' := by
  unfold f_Reader_readPay at h
  obtain ⟨hg, h⟩ := ck_e h
  refine gM_of hi (by decide) [some (.ref (w.1 3)), some (.ref (w.1 2)), some (.ref (w.1 g)), some (.int x3)] rfl (Nat.le_of_ble_eq_true rfl) (fun E hl X Y => ?_)
  refine g_aload_n X dX4_readPay_0 rfl rfl ?_
  refine gf_RX4_33 X dX4_readPay_1 rfl ?_
  refine g_iconst X kI_4 dX4_readPay_4 rfl ?_
  refine g_icmp_eq X dX4_readPay_5 (tgt := 15) rfl rfl (fun c1 => ?_) (fun c1 => ?_)
  · replace h := if_t c1 h
    refine g_aload_n X dX4_readPay_15 rfl rfl ?_
    refine gf_RX4_70 hg X dX4_readPay_16 rfl ?_
    refine g_iload_n X dX4_readPay_19 rfl rfl ?_
    refine g_aload_n X dX4_readPay_20 rfl rfl ?_
    refine gf_RX4_73 X dX4_readPay_21 rfl ?_
    obtain ⟨c2, h⟩ := ck_e h
    refine g_iast X (ga_2 hg).1 (ga_2 hg).2.1 (ga_2 hg).2.2 (ib_e c2) dX4_readPay_24 rfl (fun σ3 e4 => ?_)
    replace h := lE_c e4 h
    refine g_aload_n X dX4_readPay_25 rfl rfl ?_
    obtain ⟨σ6, h5, h⟩ := bv_e h
    refine g_callVV X [] (ok_Tape_step X.inj h5) my_yX7_step mi_yX7_step ms_yX7_step ml_RX4_40 (by decide) rfl rfl (by decide) rfl dX4_readPay_26 (Nat.le_of_ble_eq_true rfl) rfl rfl ?_
    refine g_iconst X kI_1 dX4_readPay_29 rfl ?_
    obtain ⟨rfl, rfl⟩ := rt_e h
    exact g_zret X Y rfl dX4_readPay_30
  · replace h := if_f c1 h
    refine g_aload_n X dX4_readPay_8 rfl rfl ?_
    refine g_aload_n X dX4_readPay_9 rfl rfl ?_
    refine g_iconst X kI_1 dX4_readPay_10 rfl ?_
    obtain ⟨r9, σ8, h7, h⟩ := bd_e h
    refine g_callVI X [.ref (w.1 2), .int 1] (ok_Reader_fail X.inj h7) my_yX4_fail mi_yX4_fail ms_yX4_fail ml_RX4_36 (by decide) rfl rfl (by decide) rfl dX4_readPay_11 (Nat.le_of_ble_eq_true rfl) rfl rfl ?_
    obtain ⟨c10, h⟩ := ck_e h
    obtain ⟨rfl, rfl⟩ := rt_e h
    exact g_zret X Y (isB_e c10) dX4_readPay_14

theorem dX4_readDeal_0 : decode cX4_readDeal 0 = .ok (.aload_n 1, 1) := by decide +kernel
theorem dX4_readDeal_1 : decode cX4_readDeal 1 = .ok (.getfield 33, 3) := by decide +kernel
theorem dX4_readDeal_4 : decode cX4_readDeal 4 = .ok (.iconst 4, 1) := by decide +kernel
theorem dX4_readDeal_5 : decode cX4_readDeal 5 = .ok (.if_icmp .eq 10, 3) := by decide +kernel
theorem dX4_readDeal_8 : decode cX4_readDeal 8 = .ok (.aload_n 0, 1) := by decide +kernel
theorem dX4_readDeal_9 : decode cX4_readDeal 9 = .ok (.aload_n 1, 1) := by decide +kernel
theorem dX4_readDeal_10 : decode cX4_readDeal 10 = .ok (.iconst 1, 1) := by decide +kernel
theorem dX4_readDeal_11 : decode cX4_readDeal 11 = .ok (.invokevirtual 36, 3) := by decide +kernel
theorem dX4_readDeal_14 : decode cX4_readDeal 14 = .ok (.ireturn, 1) := by decide +kernel
theorem dX4_readDeal_15 : decode cX4_readDeal 15 = .ok (.aload_n 1, 1) := by decide +kernel
theorem dX4_readDeal_16 : decode cX4_readDeal 16 = .ok (.getfield 73, 3) := by decide +kernel
theorem dX4_readDeal_19 : decode cX4_readDeal 19 = .ok (.istore 4, 2) := by decide +kernel
theorem dX4_readDeal_21 : decode cX4_readDeal 21 = .ok (.iload 4, 2) := by decide +kernel
theorem dX4_readDeal_23 : decode cX4_readDeal 23 = .ok (.iconst 2, 1) := by decide +kernel
theorem dX4_readDeal_24 : decode cX4_readDeal 24 = .ok (.if_icmp .lt 9, 3) := by decide +kernel
theorem dX4_readDeal_27 : decode cX4_readDeal 27 = .ok (.iload 4, 2) := by decide +kernel
theorem dX4_readDeal_29 : decode cX4_readDeal 29 = .ok (.iconst 4, 1) := by decide +kernel
theorem dX4_readDeal_30 : decode cX4_readDeal 30 = .ok (.if_icmp .le 10, 3) := by decide +kernel
theorem dX4_readDeal_33 : decode cX4_readDeal 33 = .ok (.aload_n 0, 1) := by decide +kernel
theorem dX4_readDeal_34 : decode cX4_readDeal 34 = .ok (.aload_n 1, 1) := by decide +kernel
theorem dX4_readDeal_35 : decode cX4_readDeal 35 = .ok (.iconst 2, 1) := by decide +kernel
theorem dX4_readDeal_36 : decode cX4_readDeal 36 = .ok (.invokevirtual 36, 3) := by decide +kernel
theorem dX4_readDeal_39 : decode cX4_readDeal 39 = .ok (.ireturn, 1) := by decide +kernel
theorem dX4_readDeal_40 : decode cX4_readDeal 40 = .ok (.aload_n 2, 1) := by decide +kernel
theorem dX4_readDeal_41 : decode cX4_readDeal 41 = .ok (.getfield 76, 3) := by decide +kernel
theorem dX4_readDeal_44 : decode cX4_readDeal 44 = .ok (.iload_n 3, 1) := by decide +kernel
theorem dX4_readDeal_45 : decode cX4_readDeal 45 = .ok (.iload 4, 2) := by decide +kernel
theorem dX4_readDeal_47 : decode cX4_readDeal 47 = .ok (.iastore, 1) := by decide +kernel
theorem dX4_readDeal_48 : decode cX4_readDeal 48 = .ok (.aload_n 1, 1) := by decide +kernel
theorem dX4_readDeal_49 : decode cX4_readDeal 49 = .ok (.invokevirtual 40, 3) := by decide +kernel
theorem dX4_readDeal_52 : decode cX4_readDeal 52 = .ok (.bipush 12, 2) := by decide +kernel
theorem dX4_readDeal_54 : decode cX4_readDeal 54 = .ok (.istore 5, 2) := by decide +kernel
theorem dX4_readDeal_56 : decode cX4_readDeal 56 = .ok (.iconst 0, 1) := by decide +kernel
theorem dX4_readDeal_57 : decode cX4_readDeal 57 = .ok (.istore 6, 2) := by decide +kernel
theorem dX4_readDeal_59 : decode cX4_readDeal 59 = .ok (.iload 6, 2) := by decide +kernel
theorem dX4_readDeal_61 : decode cX4_readDeal 61 = .ok (.iload 4, 2) := by decide +kernel
theorem dX4_readDeal_63 : decode cX4_readDeal 63 = .ok (.if_icmp .ge 112, 3) := by decide +kernel
theorem dX4_readDeal_66 : decode cX4_readDeal 66 = .ok (.aload_n 1, 1) := by decide +kernel
theorem dX4_readDeal_67 : decode cX4_readDeal 67 = .ok (.getfield 33, 3) := by decide +kernel
theorem dX4_readDeal_70 : decode cX4_readDeal 70 = .ok (.iconst 4, 1) := by decide +kernel
theorem dX4_readDeal_71 : decode cX4_readDeal 71 = .ok (.if_icmp .eq 10, 3) := by decide +kernel
theorem dX4_readDeal_74 : decode cX4_readDeal 74 = .ok (.aload_n 0, 1) := by decide +kernel
theorem dX4_readDeal_75 : decode cX4_readDeal 75 = .ok (.aload_n 1, 1) := by decide +kernel
theorem dX4_readDeal_76 : decode cX4_readDeal 76 = .ok (.iconst 1, 1) := by decide +kernel
theorem dX4_readDeal_77 : decode cX4_readDeal 77 = .ok (.invokevirtual 36, 3) := by decide +kernel
theorem dX4_readDeal_80 : decode cX4_readDeal 80 = .ok (.ireturn, 1) := by decide +kernel
theorem dX4_readDeal_81 : decode cX4_readDeal 81 = .ok (.aload_n 1, 1) := by decide +kernel
theorem dX4_readDeal_82 : decode cX4_readDeal 82 = .ok (.getfield 73, 3) := by decide +kernel
theorem dX4_readDeal_85 : decode cX4_readDeal 85 = .ok (.istore 7, 2) := by decide +kernel
theorem dX4_readDeal_87 : decode cX4_readDeal 87 = .ok (.iload 6, 2) := by decide +kernel
theorem dX4_readDeal_89 : decode cX4_readDeal 89 = .ok (.iload 4, 2) := by decide +kernel
theorem dX4_readDeal_91 : decode cX4_readDeal 91 = .ok (.iconst 1, 1) := by decide +kernel
theorem dX4_readDeal_92 : decode cX4_readDeal 92 = .ok (.isub, 1) := by decide +kernel
theorem dX4_readDeal_93 : decode cX4_readDeal 93 = .ok (.if_icmp .ne 14, 3) := by decide +kernel
theorem dX4_readDeal_96 : decode cX4_readDeal 96 = .ok (.iload 7, 2) := by decide +kernel
theorem dX4_readDeal_98 : decode cX4_readDeal 98 = .ok (.iload 5, 2) := by decide +kernel
theorem dX4_readDeal_100 : decode cX4_readDeal 100 = .ok (.if_icmp .ge 7, 3) := by decide +kernel
theorem dX4_readDeal_103 : decode cX4_readDeal 103 = .ok (.iconst 1, 1) := by decide +kernel
theorem dX4_readDeal_104 : decode cX4_readDeal 104 = .ok (.goto 4, 3) := by decide +kernel
theorem dX4_readDeal_107 : decode cX4_readDeal 107 = .ok (.iconst 0, 1) := by decide +kernel
theorem dX4_readDeal_108 : decode cX4_readDeal 108 = .ok (.istore 8, 2) := by decide +kernel
theorem dX4_readDeal_110 : decode cX4_readDeal 110 = .ok (.iload 7, 2) := by decide +kernel
theorem dX4_readDeal_112 : decode cX4_readDeal 112 = .ok (.iconst 1, 1) := by decide +kernel
theorem dX4_readDeal_113 : decode cX4_readDeal 113 = .ok (.if_icmp .lt 22, 3) := by decide +kernel
theorem dX4_readDeal_116 : decode cX4_readDeal 116 = .ok (.iload 7, 2) := by decide +kernel
theorem dX4_readDeal_118 : decode cX4_readDeal 118 = .ok (.bipush 12, 2) := by decide +kernel
theorem dX4_readDeal_120 : decode cX4_readDeal 120 = .ok (.if_icmp .ge 15, 3) := by decide +kernel
theorem dX4_readDeal_123 : decode cX4_readDeal 123 = .ok (.iload 7, 2) := by decide +kernel
theorem dX4_readDeal_125 : decode cX4_readDeal 125 = .ok (.iload 5, 2) := by decide +kernel
theorem dX4_readDeal_127 : decode cX4_readDeal 127 = .ok (.if_icmp .gt 8, 3) := by decide +kernel
theorem dX4_readDeal_130 : decode cX4_readDeal 130 = .ok (.iload 8, 2) := by decide +kernel
theorem dX4_readDeal_132 : decode cX4_readDeal 132 = .ok (.ifCond .eq 10, 3) := by decide +kernel
theorem dX4_readDeal_135 : decode cX4_readDeal 135 = .ok (.aload_n 0, 1) := by decide +kernel
theorem dX4_readDeal_136 : decode cX4_readDeal 136 = .ok (.aload_n 1, 1) := by decide +kernel
theorem dX4_readDeal_137 : decode cX4_readDeal 137 = .ok (.iconst 2, 1) := by decide +kernel
theorem dX4_readDeal_138 : decode cX4_readDeal 138 = .ok (.invokevirtual 36, 3) := by decide +kernel
theorem dX4_readDeal_141 : decode cX4_readDeal 141 = .ok (.ireturn, 1) := by decide +kernel
theorem dX4_readDeal_142 : decode cX4_readDeal 142 = .ok (.iload 5, 2) := by decide +kernel
theorem dX4_readDeal_144 : decode cX4_readDeal 144 = .ok (.iload 7, 2) := by decide +kernel
theorem dX4_readDeal_146 : decode cX4_readDeal 146 = .ok (.isub, 1) := by decide +kernel
theorem dX4_readDeal_147 : decode cX4_readDeal 147 = .ok (.istore 5, 2) := by decide +kernel
theorem dX4_readDeal_149 : decode cX4_readDeal 149 = .ok (.aload_n 1, 1) := by decide +kernel
theorem dX4_readDeal_150 : decode cX4_readDeal 150 = .ok (.invokevirtual 40, 3) := by decide +kernel
theorem dX4_readDeal_153 : decode cX4_readDeal 153 = .ok (.aload_n 0, 1) := by decide +kernel
theorem dX4_readDeal_154 : decode cX4_readDeal 154 = .ok (.aload_n 1, 1) := by decide +kernel
theorem dX4_readDeal_155 : decode cX4_readDeal 155 = .ok (.aload_n 2, 1) := by decide +kernel
theorem dX4_readDeal_156 : decode cX4_readDeal 156 = .ok (.iload_n 3, 1) := by decide +kernel
theorem dX4_readDeal_157 : decode cX4_readDeal 157 = .ok (.iload 6, 2) := by decide +kernel
theorem dX4_readDeal_159 : decode cX4_readDeal 159 = .ok (.iload 7, 2) := by decide +kernel
theorem dX4_readDeal_161 : decode cX4_readDeal 161 = .ok (.invokevirtual 29, 3) := by decide +kernel
theorem dX4_readDeal_164 : decode cX4_readDeal 164 = .ok (.ifCond .ne 5, 3) := by decide +kernel
theorem dX4_readDeal_167 : decode cX4_readDeal 167 = .ok (.iconst 0, 1) := by decide +kernel
theorem dX4_readDeal_168 : decode cX4_readDeal 168 = .ok (.ireturn, 1) := by decide +kernel
theorem dX4_readDeal_169 : decode cX4_readDeal 169 = .ok (.iinc 6 1, 3) := by decide +kernel
theorem dX4_readDeal_172 : decode cX4_readDeal 172 = .ok (.goto (-113), 3) := by decide +kernel
theorem dX4_readDeal_175 : decode cX4_readDeal 175 = .ok (.iconst 1, 1) := by decide +kernel
theorem dX4_readDeal_176 : decode cX4_readDeal 176 = .ok (.ireturn, 1) := by decide +kernel
def f_Reader_readDeal_b135 (g : Nat) (rp : Nat → Int32 → Int32 → Int32 → St → Option (Int32 × St)) (σ : St) : Option (Int32 × St) :=
  bd (f_Reader_fail 2 σ) fun r3 σ2 => ck (isB r3) <| some (r3, σ2)
set_option maxRecDepth 4000 in
theorem ok_Reader_readDeal_b135 {h0 : Nat} (hb : 20 ≤ h0) {E : gE} {w : wT} {σ' : St} {r : Int32} (X : gC E w cX4_readDeal 9 RX4 (h0 + 1)) (Y : gQ E w (some .boolean) (some (.int r)) σ') {g : Nat} (hg : isG g = true) {rp : Nat → Int32 → Int32 → Int32 → St → Option (Int32 × St)} (hrp : ∀ (g : Nat) (x3 x4 x5 : Int32) (σ σ' : St) (r : Int32), rp g x3 x4 x5 σ = some (r, σ') → gM w (eL E) yX4_readPlace cX4_readPlace 9 (some .boolean) h0 [.ref (w.1 3), .ref (w.1 2), .ref (w.1 g), .int x3, .int x4, .int x5] σ (some (.int r)) σ') (σ : St) (h : f_Reader_readDeal_b135 g rp σ = some (r, σ')) : gW E w 9 σ 135 [some (.ref (w.1 3)), some (.ref (w.1 2))] [] := by
  unfold f_Reader_readDeal_b135 at h
  refine g_aload_n X dX4_readDeal_135 rfl rfl ?_
  refine g_aload_n X dX4_readDeal_136 rfl rfl ?_
  refine g_iconst X kI_2 dX4_readDeal_137 rfl ?_
  obtain ⟨r3, σ2, h1, h⟩ := bd_e h
  refine g_callVI X [.ref (w.1 2), .int 2] (ok_Reader_fail X.inj h1) my_yX4_fail mi_yX4_fail ms_yX4_fail ml_RX4_36 (by decide) rfl rfl (by omega) rfl dX4_readDeal_138 (Nat.le_of_ble_eq_true rfl) rfl rfl ?_
  obtain ⟨c4, h⟩ := ck_e h
  obtain ⟨rfl, rfl⟩ := rt_e h
  exact g_zret X Y (isB_e c4) dX4_readDeal_141

def f_Reader_readDeal_b108 (g : Nat) (rp : Nat → Int32 → Int32 → Int32 → St → Option (Int32 × St)) (k59 : Int32 → Int32 → Int32 → Int32 → St → Option (Int32 × St)) (x3 : Int32) (x4 : Int32) (x5 : Int32) (x6 : Int32) (x7 : Int32) (xs0 : Int32) (σ : St) : Option (Int32 × St) :=
  if x7 < 1 then (f_Reader_readDeal_b135 g rp σ) else (if (12 : Int32) ≤ x7 then (f_Reader_readDeal_b135 g rp σ) else (if x5 < x7 then (f_Reader_readDeal_b135 g rp σ) else (if xs0 = 0 then (bv (f_Tape_step σ) fun σ6 => bd (rp g x3 x6 x7 σ6) fun r9 σ8 => if r9 = 0 then (some (0, σ8)) else (k59 x3 x4 (x5 - x7) (x6 + 1) σ8)) else (f_Reader_readDeal_b135 g rp σ))))
set_option maxRecDepth 4000 in
theorem ok_Reader_readDeal_b108 {h0 : Nat} (hb : 20 ≤ h0) {E : gE} {w : wT} {σ' : St} {r : Int32} (X : gC E w cX4_readDeal 9 RX4 (h0 + 1)) (Y : gQ E w (some .boolean) (some (.int r)) σ') {g : Nat} (hg : isG g = true) {rp : Nat → Int32 → Int32 → Int32 → St → Option (Int32 × St)} (hrp : ∀ (g : Nat) (x3 x4 x5 : Int32) (σ σ' : St) (r : Int32), rp g x3 x4 x5 σ = some (r, σ') → gM w (eL E) yX4_readPlace cX4_readPlace 9 (some .boolean) h0 [.ref (w.1 3), .ref (w.1 2), .ref (w.1 g), .int x3, .int x4, .int x5] σ (some (.int r)) σ') {k59 : Int32 → Int32 → Int32 → Int32 → St → Option (Int32 × St)} (hk59 : ∀ (x3 : Int32) (x4 : Int32) (x5 : Int32) (x6 : Int32) (σ : St), k59 x3 x4 x5 x6 σ = some (r, σ') → gW E w 9 σ 59 [some (.ref (w.1 3)), some (.ref (w.1 2)), some (.ref (w.1 g)), some (.int x3), some (.int x4), some (.int x5), some (.int x6)] []) {x3 : Int32} {x4 : Int32} {x5 : Int32} {x6 : Int32} {x7 : Int32} {xs0 : Int32} (σ : St) (h : f_Reader_readDeal_b108 g rp k59 x3 x4 x5 x6 x7 xs0 σ = some (r, σ')) : gW E w 9 σ 108 [some (.ref (w.1 3)), some (.ref (w.1 2)), some (.ref (w.1 g)), some (.int x3), some (.int x4), some (.int x5), some (.int x6), some (.int x7)] [.int xs0] := by
  unfold f_Reader_readDeal_b108 at h
  refine g_istore X [some (.ref (w.1 3)), some (.ref (w.1 2)), some (.ref (w.1 g)), some (.int x3), some (.int x4), some (.int x5), some (.int x6), some (.int x7), some (.int xs0)] dX4_readDeal_108 (Nat.le_of_ble_eq_true rfl) rfl rfl rfl ?_
  refine g_iload X dX4_readDeal_110 rfl rfl ?_
  refine g_iconst X kI_1 dX4_readDeal_112 rfl ?_
  refine g_icmp_lt X dX4_readDeal_113 (tgt := 135) rfl rfl (fun c1 => ?_) (fun c1 => ?_)
  · replace h := if_t c1 h
    exact g_le (lle_s (lle_s (lle_0))) (ok_Reader_readDeal_b135 hb X Y hg hrp σ h)
  · replace h := if_f c1 h
    refine g_iload X dX4_readDeal_116 rfl rfl ?_
    refine g_bipush X kB_12 dX4_readDeal_118 rfl ?_
    refine g_icmp_ge X dX4_readDeal_120 (tgt := 135) rfl rfl (fun c2 => ?_) (fun c2 => ?_)
    · replace h := if_t c2 h
      exact g_le (lle_s (lle_s (lle_0))) (ok_Reader_readDeal_b135 hb X Y hg hrp σ h)
    · replace h := if_f c2 h
      refine g_iload X dX4_readDeal_123 rfl rfl ?_
      refine g_iload X dX4_readDeal_125 rfl rfl ?_
      refine g_icmp_gt X dX4_readDeal_127 (tgt := 135) rfl rfl (fun c3 => ?_) (fun c3 => ?_)
      · replace h := if_t c3 h
        exact g_le (lle_s (lle_s (lle_0))) (ok_Reader_readDeal_b135 hb X Y hg hrp σ h)
      · replace h := if_f c3 h
        refine g_iload X dX4_readDeal_130 rfl rfl ?_
        refine g_if_eq X dX4_readDeal_132 (tgt := 142) rfl rfl (fun c4 => ?_) (fun c4 => ?_)
        · replace h := if_t c4 h
          refine g_iload X dX4_readDeal_142 rfl rfl ?_
          refine g_iload X dX4_readDeal_144 rfl rfl ?_
          refine g_isub X dX4_readDeal_146 rfl ?_
          refine g_istore X [some (.ref (w.1 3)), some (.ref (w.1 2)), some (.ref (w.1 g)), some (.int x3), some (.int x4), some (.int (x5 - x7)), some (.int x6), some (.int x7), some (.int xs0)] dX4_readDeal_147 (Nat.le_of_ble_eq_true rfl) rfl rfl rfl ?_
          refine g_aload_n X dX4_readDeal_149 rfl rfl ?_
          obtain ⟨σ6, h5, h⟩ := bv_e h
          refine g_callVV X [] (ok_Tape_step X.inj h5) my_yX7_step mi_yX7_step ms_yX7_step ml_RX4_40 (by decide) rfl rfl (by omega) rfl dX4_readDeal_150 (Nat.le_of_ble_eq_true rfl) rfl rfl ?_
          refine g_aload_n X dX4_readDeal_153 rfl rfl ?_
          refine g_aload_n X dX4_readDeal_154 rfl rfl ?_
          refine g_aload_n X dX4_readDeal_155 rfl rfl ?_
          refine g_iload_n X dX4_readDeal_156 rfl rfl ?_
          refine g_iload X dX4_readDeal_157 rfl rfl ?_
          refine g_iload X dX4_readDeal_159 rfl rfl ?_
          obtain ⟨r9, σ8, h7, h⟩ := bd_e h
          refine g_callVI X [.ref (w.1 2), .ref (w.1 g), .int x3, .int x6, .int x7] (hrp _ _ _ _ _ _ _ h7) my_yX4_readPlace mi_yX4_readPlace ms_yX4_readPlace ml_RX4_29 (by decide) rfl rfl (by omega) rfl dX4_readDeal_161 (Nat.le_of_ble_eq_true rfl) rfl rfl ?_
          refine g_if_ne X dX4_readDeal_164 (tgt := 169) rfl rfl (fun c10 => ?_) (fun c10 => ?_)
          · replace h := if_f c10 h
            refine g_iinc X [some (.ref (w.1 3)), some (.ref (w.1 2)), some (.ref (w.1 g)), some (.int x3), some (.int x4), some (.int (x5 - x7)), some (.int (x6 + 1)), some (.int x7), some (.int xs0)] dX4_readDeal_169 rfl (ii_1 x6) (Nat.le_of_ble_eq_true rfl) rfl rfl rfl ?_
            refine g_goto X dX4_readDeal_172 (tgt := 59) rfl ?_
            exact g_le (lle_s (lle_s (lle_s (lle_s (lle_s (lle_s (lle_s (lle_0)))))))) (hk59 x3 x4 (x5 - x7) (x6 + 1) σ8 h)
          · replace h := if_t c10 h
            refine g_iconst X kI_0 dX4_readDeal_167 rfl ?_
            obtain ⟨rfl, rfl⟩ := rt_e h
            exact g_zret X Y rfl dX4_readDeal_168
        · replace h := if_f c4 h
          exact g_le (lle_s (lle_s (lle_0))) (ok_Reader_readDeal_b135 hb X Y hg hrp σ h)

def f_Reader_readDeal_b107 (g : Nat) (rp : Nat → Int32 → Int32 → Int32 → St → Option (Int32 × St)) (k59 : Int32 → Int32 → Int32 → Int32 → St → Option (Int32 × St)) (x3 : Int32) (x4 : Int32) (x5 : Int32) (x6 : Int32) (x7 : Int32) (σ : St) : Option (Int32 × St) :=
  f_Reader_readDeal_b108 g rp k59 x3 x4 x5 x6 x7 0 σ
set_option maxRecDepth 4000 in
theorem ok_Reader_readDeal_b107 {h0 : Nat} (hb : 20 ≤ h0) {E : gE} {w : wT} {σ' : St} {r : Int32} (X : gC E w cX4_readDeal 9 RX4 (h0 + 1)) (Y : gQ E w (some .boolean) (some (.int r)) σ') {g : Nat} (hg : isG g = true) {rp : Nat → Int32 → Int32 → Int32 → St → Option (Int32 × St)} (hrp : ∀ (g : Nat) (x3 x4 x5 : Int32) (σ σ' : St) (r : Int32), rp g x3 x4 x5 σ = some (r, σ') → gM w (eL E) yX4_readPlace cX4_readPlace 9 (some .boolean) h0 [.ref (w.1 3), .ref (w.1 2), .ref (w.1 g), .int x3, .int x4, .int x5] σ (some (.int r)) σ') {k59 : Int32 → Int32 → Int32 → Int32 → St → Option (Int32 × St)} (hk59 : ∀ (x3 : Int32) (x4 : Int32) (x5 : Int32) (x6 : Int32) (σ : St), k59 x3 x4 x5 x6 σ = some (r, σ') → gW E w 9 σ 59 [some (.ref (w.1 3)), some (.ref (w.1 2)), some (.ref (w.1 g)), some (.int x3), some (.int x4), some (.int x5), some (.int x6)] []) {x3 : Int32} {x4 : Int32} {x5 : Int32} {x6 : Int32} {x7 : Int32} (σ : St) (h : f_Reader_readDeal_b107 g rp k59 x3 x4 x5 x6 x7 σ = some (r, σ')) : gW E w 9 σ 107 [some (.ref (w.1 3)), some (.ref (w.1 2)), some (.ref (w.1 g)), some (.int x3), some (.int x4), some (.int x5), some (.int x6), some (.int x7)] [] := by
  unfold f_Reader_readDeal_b107 at h
  refine g_iconst X kI_0 dX4_readDeal_107 rfl ?_
  exact ok_Reader_readDeal_b108 hb X Y hg hrp hk59 σ h

def f_Reader_readDeal_b59 (g : Nat) (rp : Nat → Int32 → Int32 → Int32 → St → Option (Int32 × St)) (k59 : Int32 → Int32 → Int32 → Int32 → St → Option (Int32 × St)) (x3 : Int32) (x4 : Int32) (x5 : Int32) (x6 : Int32) (σ : St) : Option (Int32 × St) :=
  if x4 ≤ x6 then (some (1, σ)) else (if (rF σ 3) = 4 then (if x6 = (x4 - 1) then (if x5 ≤ (rF σ 5) then (f_Reader_readDeal_b107 g rp k59 x3 x4 x5 x6 (rF σ 5) σ) else (f_Reader_readDeal_b108 g rp k59 x3 x4 x5 x6 (rF σ 5) 1 σ)) else (f_Reader_readDeal_b107 g rp k59 x3 x4 x5 x6 (rF σ 5) σ)) else (bd (f_Reader_fail 1 σ) fun r7 σ6 => ck (isB r7) <| some (r7, σ6)))
set_option maxRecDepth 4000 in
theorem ok_Reader_readDeal_b59 {h0 : Nat} (hb : 20 ≤ h0) {E : gE} {w : wT} {σ' : St} {r : Int32} (X : gC E w cX4_readDeal 9 RX4 (h0 + 1)) (Y : gQ E w (some .boolean) (some (.int r)) σ') {g : Nat} (hg : isG g = true) {rp : Nat → Int32 → Int32 → Int32 → St → Option (Int32 × St)} (hrp : ∀ (g : Nat) (x3 x4 x5 : Int32) (σ σ' : St) (r : Int32), rp g x3 x4 x5 σ = some (r, σ') → gM w (eL E) yX4_readPlace cX4_readPlace 9 (some .boolean) h0 [.ref (w.1 3), .ref (w.1 2), .ref (w.1 g), .int x3, .int x4, .int x5] σ (some (.int r)) σ') {k59 : Int32 → Int32 → Int32 → Int32 → St → Option (Int32 × St)} (hk59 : ∀ (x3 : Int32) (x4 : Int32) (x5 : Int32) (x6 : Int32) (σ : St), k59 x3 x4 x5 x6 σ = some (r, σ') → gW E w 9 σ 59 [some (.ref (w.1 3)), some (.ref (w.1 2)), some (.ref (w.1 g)), some (.int x3), some (.int x4), some (.int x5), some (.int x6)] []) {x3 : Int32} {x4 : Int32} {x5 : Int32} {x6 : Int32} (σ : St) (h : f_Reader_readDeal_b59 g rp k59 x3 x4 x5 x6 σ = some (r, σ')) : gW E w 9 σ 59 [some (.ref (w.1 3)), some (.ref (w.1 2)), some (.ref (w.1 g)), some (.int x3), some (.int x4), some (.int x5), some (.int x6)] [] := by
  unfold f_Reader_readDeal_b59 at h
  refine g_iload X dX4_readDeal_59 rfl rfl ?_
  refine g_iload X dX4_readDeal_61 rfl rfl ?_
  refine g_icmp_ge X dX4_readDeal_63 (tgt := 175) rfl rfl (fun c1 => ?_) (fun c1 => ?_)
  · replace h := if_t c1 h
    refine g_iconst X kI_1 dX4_readDeal_175 rfl ?_
    obtain ⟨rfl, rfl⟩ := rt_e h
    exact g_zret X Y rfl dX4_readDeal_176
  · replace h := if_f c1 h
    refine g_aload_n X dX4_readDeal_66 rfl rfl ?_
    refine gf_RX4_33 X dX4_readDeal_67 rfl ?_
    refine g_iconst X kI_4 dX4_readDeal_70 rfl ?_
    refine g_icmp_eq X dX4_readDeal_71 (tgt := 81) rfl rfl (fun c2 => ?_) (fun c2 => ?_)
    · replace h := if_t c2 h
      refine g_aload_n X dX4_readDeal_81 rfl rfl ?_
      refine gf_RX4_73 X dX4_readDeal_82 rfl ?_
      refine g_istore X [some (.ref (w.1 3)), some (.ref (w.1 2)), some (.ref (w.1 g)), some (.int x3), some (.int x4), some (.int x5), some (.int x6), some (.int (rF σ 5))] dX4_readDeal_85 (Nat.le_of_ble_eq_true rfl) rfl rfl rfl ?_
      refine g_iload X dX4_readDeal_87 rfl rfl ?_
      refine g_iload X dX4_readDeal_89 rfl rfl ?_
      refine g_iconst X kI_1 dX4_readDeal_91 rfl ?_
      refine g_isub X dX4_readDeal_92 rfl ?_
      refine g_icmp_ne X dX4_readDeal_93 (tgt := 107) rfl rfl (fun c3 => ?_) (fun c3 => ?_)
      · replace h := if_f c3 h
        exact ok_Reader_readDeal_b107 hb X Y hg hrp hk59 σ h
      · replace h := if_t c3 h
        refine g_iload X dX4_readDeal_96 rfl rfl ?_
        refine g_iload X dX4_readDeal_98 rfl rfl ?_
        refine g_icmp_ge X dX4_readDeal_100 (tgt := 107) rfl rfl (fun c4 => ?_) (fun c4 => ?_)
        · replace h := if_t c4 h
          exact ok_Reader_readDeal_b107 hb X Y hg hrp hk59 σ h
        · replace h := if_f c4 h
          refine g_iconst X kI_1 dX4_readDeal_103 rfl ?_
          refine g_goto X dX4_readDeal_104 (tgt := 108) rfl ?_
          exact ok_Reader_readDeal_b108 hb X Y hg hrp hk59 σ h
    · replace h := if_f c2 h
      refine g_aload_n X dX4_readDeal_74 rfl rfl ?_
      refine g_aload_n X dX4_readDeal_75 rfl rfl ?_
      refine g_iconst X kI_1 dX4_readDeal_76 rfl ?_
      obtain ⟨r7, σ6, h5, h⟩ := bd_e h
      refine g_callVI X [.ref (w.1 2), .int 1] (ok_Reader_fail X.inj h5) my_yX4_fail mi_yX4_fail ms_yX4_fail ml_RX4_36 (by decide) rfl rfl (by omega) rfl dX4_readDeal_77 (Nat.le_of_ble_eq_true rfl) rfl rfl ?_
      obtain ⟨c8, h⟩ := ck_e h
      obtain ⟨rfl, rfl⟩ := rt_e h
      exact g_zret X Y (isB_e c8) dX4_readDeal_80
def f_Reader_readDeal_l59 (g : Nat) (rp : Nat → Int32 → Int32 → Int32 → St → Option (Int32 × St)) : Int32 → Int32 → Int32 → Int32 → St → Option (Int32 × St) := lp (fun _ _ _ _ _ => none) (f_Reader_readDeal_b59 g rp) FU
theorem ok_Reader_readDeal_l59 {h0 : Nat} (hb : 20 ≤ h0) {E : gE} {w : wT} {σ' : St} {r : Int32} (X : gC E w cX4_readDeal 9 RX4 (h0 + 1)) (Y : gQ E w (some .boolean) (some (.int r)) σ') {g : Nat} (hg : isG g = true) {rp : Nat → Int32 → Int32 → Int32 → St → Option (Int32 × St)} (hrp : ∀ (g : Nat) (x3 x4 x5 : Int32) (σ σ' : St) (r : Int32), rp g x3 x4 x5 σ = some (r, σ') → gM w (eL E) yX4_readPlace cX4_readPlace 9 (some .boolean) h0 [.ref (w.1 3), .ref (w.1 2), .ref (w.1 g), .int x3, .int x4, .int x5] σ (some (.int r)) σ') {x3 : Int32} {x4 : Int32} {x5 : Int32} {x6 : Int32} (σ : St) (h : f_Reader_readDeal_l59 g rp x3 x4 x5 x6 σ = some (r, σ')) : gW E w 9 σ 59 [some (.ref (w.1 3)), some (.ref (w.1 2)), some (.ref (w.1 g)), some (.int x3), some (.int x4), some (.int x5), some (.int x6)] [] :=
  lp_ind (P := fun (k : Int32 → Int32 → Int32 → Int32 → St → Option (Int32 × St)) => ∀ (x3 : Int32) (x4 : Int32) (x5 : Int32) (x6 : Int32) (σ : St), k x3 x4 x5 x6 σ = some (r, σ') → gW E w 9 σ 59 [some (.ref (w.1 3)), some (.ref (w.1 2)), some (.ref (w.1 g)), some (.int x3), some (.int x4), some (.int x5), some (.int x6)] []) (fun _ _ _ _ _ hh => nn hh) (fun k hk x3 x4 x5 x6 σ  hh => ok_Reader_readDeal_b59 hb X Y hg hrp hk σ hh) FU x3 x4 x5 x6 σ  h

def f_Reader_readDeal_b33 (g : Nat) (rp : Nat → Int32 → Int32 → Int32 → St → Option (Int32 × St)) (σ : St) : Option (Int32 × St) :=
  bd (f_Reader_fail 2 σ) fun r3 σ2 => ck (isB r3) <| some (r3, σ2)
set_option maxRecDepth 4000 in
theorem ok_Reader_readDeal_b33 {h0 : Nat} (hb : 20 ≤ h0) {E : gE} {w : wT} {σ' : St} {r : Int32} (X : gC E w cX4_readDeal 9 RX4 (h0 + 1)) (Y : gQ E w (some .boolean) (some (.int r)) σ') {g : Nat} (hg : isG g = true) {rp : Nat → Int32 → Int32 → Int32 → St → Option (Int32 × St)} (hrp : ∀ (g : Nat) (x3 x4 x5 : Int32) (σ σ' : St) (r : Int32), rp g x3 x4 x5 σ = some (r, σ') → gM w (eL E) yX4_readPlace cX4_readPlace 9 (some .boolean) h0 [.ref (w.1 3), .ref (w.1 2), .ref (w.1 g), .int x3, .int x4, .int x5] σ (some (.int r)) σ') (σ : St) (h : f_Reader_readDeal_b33 g rp σ = some (r, σ')) : gW E w 9 σ 33 [some (.ref (w.1 3)), some (.ref (w.1 2))] [] := by
  unfold f_Reader_readDeal_b33 at h
  refine g_aload_n X dX4_readDeal_33 rfl rfl ?_
  refine g_aload_n X dX4_readDeal_34 rfl rfl ?_
  refine g_iconst X kI_2 dX4_readDeal_35 rfl ?_
  obtain ⟨r3, σ2, h1, h⟩ := bd_e h
  refine g_callVI X [.ref (w.1 2), .int 2] (ok_Reader_fail X.inj h1) my_yX4_fail mi_yX4_fail ms_yX4_fail ml_RX4_36 (by decide) rfl rfl (by omega) rfl dX4_readDeal_36 (Nat.le_of_ble_eq_true rfl) rfl rfl ?_
  obtain ⟨c4, h⟩ := ck_e h
  obtain ⟨rfl, rfl⟩ := rt_e h
  exact g_zret X Y (isB_e c4) dX4_readDeal_39

def f_Reader_readDeal (rp : Nat → Int32 → Int32 → Int32 → St → Option (Int32 × St)) (g : Nat) (x3 : Int32) (σ : St) : Option (Int32 × St) :=
  ck (isG g) <| if (rF σ 3) = 4 then (if (rF σ 5) < 2 then (f_Reader_readDeal_b33 g rp σ) else (if (rF σ 5) ≤ 4 then (ck (ib x3 60) <| lE (stA σ (g + 4) x3.toNatClampNeg (rF σ 5)) fun σ5 => bv (f_Tape_step σ5) fun σ8 => f_Reader_readDeal_l59 g rp x3 (rF σ 5) 12 0 σ8) else (f_Reader_readDeal_b33 g rp σ))) else (bd (f_Reader_fail 1 σ) fun r11 σ10 => ck (isB r11) <| some (r11, σ10))
set_option maxRecDepth 4000 in
theorem ok_Reader_readDeal {h0 : Nat} (hb : 20 ≤ h0) {w : wT} (hi : wInj w) {l : Launch} {rp : Nat → Int32 → Int32 → Int32 → St → Option (Int32 × St)} (hrp : ∀ (g : Nat) (x3 x4 x5 : Int32) (σ σ' : St) (r : Int32), rp g x3 x4 x5 σ = some (r, σ') → gM w l yX4_readPlace cX4_readPlace 9 (some .boolean) h0 [.ref (w.1 3), .ref (w.1 2), .ref (w.1 g), .int x3, .int x4, .int x5] σ (some (.int r)) σ') {g : Nat} {x3 : Int32} {σ σ' : St} {r : Int32} (h : f_Reader_readDeal rp g x3 σ = some (r, σ')) : gM w l yX4_readDeal cX4_readDeal 9 (some .boolean) (h0 + 1) [.ref (w.1 3), .ref (w.1 2), .ref (w.1 g), .int x3] σ (some (.int r)) σ' := by
  unfold f_Reader_readDeal at h
  obtain ⟨hg, h⟩ := ck_e h
  refine gM_of hi (by decide) [some (.ref (w.1 3)), some (.ref (w.1 2)), some (.ref (w.1 g)), some (.int x3)] rfl (Nat.le_of_ble_eq_true rfl) (fun E hl X Y => ?_)
  subst hl
  refine g_aload_n X dX4_readDeal_0 rfl rfl ?_
  refine gf_RX4_33 X dX4_readDeal_1 rfl ?_
  refine g_iconst X kI_4 dX4_readDeal_4 rfl ?_
  refine g_icmp_eq X dX4_readDeal_5 (tgt := 15) rfl rfl (fun c1 => ?_) (fun c1 => ?_)
  · replace h := if_t c1 h
    refine g_aload_n X dX4_readDeal_15 rfl rfl ?_
    refine gf_RX4_73 X dX4_readDeal_16 rfl ?_
    refine g_istore X [some (.ref (w.1 3)), some (.ref (w.1 2)), some (.ref (w.1 g)), some (.int x3), some (.int (rF σ 5))] dX4_readDeal_19 (Nat.le_of_ble_eq_true rfl) rfl rfl rfl ?_
    refine g_iload X dX4_readDeal_21 rfl rfl ?_
    refine g_iconst X kI_2 dX4_readDeal_23 rfl ?_
    refine g_icmp_lt X dX4_readDeal_24 (tgt := 33) rfl rfl (fun c2 => ?_) (fun c2 => ?_)
    · replace h := if_t c2 h
      exact g_le (lle_s (lle_s (lle_0))) (ok_Reader_readDeal_b33 hb X Y hg hrp σ h)
    · replace h := if_f c2 h
      refine g_iload X dX4_readDeal_27 rfl rfl ?_
      refine g_iconst X kI_4 dX4_readDeal_29 rfl ?_
      refine g_icmp_le X dX4_readDeal_30 (tgt := 40) rfl rfl (fun c3 => ?_) (fun c3 => ?_)
      · replace h := if_t c3 h
        refine g_aload_n X dX4_readDeal_40 rfl rfl ?_
        refine gf_RX4_76 hg X dX4_readDeal_41 rfl ?_
        refine g_iload_n X dX4_readDeal_44 rfl rfl ?_
        refine g_iload X dX4_readDeal_45 rfl rfl ?_
        obtain ⟨c4, h⟩ := ck_e h
        refine g_iast X (ga_4 hg).1 (ga_4 hg).2.1 (ga_4 hg).2.2 (ib_e c4) dX4_readDeal_47 rfl (fun σ5 e6 => ?_)
        replace h := lE_c e6 h
        refine g_aload_n X dX4_readDeal_48 rfl rfl ?_
        obtain ⟨σ8, h7, h⟩ := bv_e h
        refine g_callVV X [] (ok_Tape_step X.inj h7) my_yX7_step mi_yX7_step ms_yX7_step ml_RX4_40 (by decide) rfl rfl (by omega) rfl dX4_readDeal_49 (Nat.le_of_ble_eq_true rfl) rfl rfl ?_
        refine g_bipush X kB_12 dX4_readDeal_52 rfl ?_
        refine g_istore X [some (.ref (w.1 3)), some (.ref (w.1 2)), some (.ref (w.1 g)), some (.int x3), some (.int (rF σ 5)), some (.int 12)] dX4_readDeal_54 (Nat.le_of_ble_eq_true rfl) rfl rfl rfl ?_
        refine g_iconst X kI_0 dX4_readDeal_56 rfl ?_
        refine g_istore X [some (.ref (w.1 3)), some (.ref (w.1 2)), some (.ref (w.1 g)), some (.int x3), some (.int (rF σ 5)), some (.int 12), some (.int 0)] dX4_readDeal_57 (Nat.le_of_ble_eq_true rfl) rfl rfl rfl ?_
        exact ok_Reader_readDeal_l59 hb X Y hg hrp σ8 h
      · replace h := if_f c3 h
        exact g_le (lle_s (lle_s (lle_0))) (ok_Reader_readDeal_b33 hb X Y hg hrp σ h)
  · replace h := if_f c1 h
    refine g_aload_n X dX4_readDeal_8 rfl rfl ?_
    refine g_aload_n X dX4_readDeal_9 rfl rfl ?_
    refine g_iconst X kI_1 dX4_readDeal_10 rfl ?_
    obtain ⟨r11, σ10, h9, h⟩ := bd_e h
    refine g_callVI X [.ref (w.1 2), .int 1] (ok_Reader_fail X.inj h9) my_yX4_fail mi_yX4_fail ms_yX4_fail ml_RX4_36 (by decide) rfl rfl (by omega) rfl dX4_readDeal_11 (Nat.le_of_ble_eq_true rfl) rfl rfl ?_
    obtain ⟨c12, h⟩ := ck_e h
    obtain ⟨rfl, rfl⟩ := rt_e h
    exact g_zret X Y (isB_e c12) dX4_readDeal_14

theorem dX1_maySetBeOf_0 : decode cX1_maySetBeOf 0 = .ok (.aload_n 0, 1) := by decide +kernel
theorem dX1_maySetBeOf_1 : decode cX1_maySetBeOf 1 = .ok (.getfield 53, 3) := by decide +kernel
theorem dX1_maySetBeOf_4 : decode cX1_maySetBeOf 4 = .ok (.iload_n 1, 1) := by decide +kernel
theorem dX1_maySetBeOf_5 : decode cX1_maySetBeOf 5 = .ok (.iaload, 1) := by decide +kernel
theorem dX1_maySetBeOf_6 : decode cX1_maySetBeOf 6 = .ok (.ldc 69, 2) := by decide +kernel
theorem dX1_maySetBeOf_8 : decode cX1_maySetBeOf 8 = .ok (.if_icmp .eq 13, 3) := by decide +kernel
theorem dX1_maySetBeOf_11 : decode cX1_maySetBeOf 11 = .ok (.aload_n 0, 1) := by decide +kernel
theorem dX1_maySetBeOf_12 : decode cX1_maySetBeOf 12 = .ok (.getfield 53, 3) := by decide +kernel
theorem dX1_maySetBeOf_15 : decode cX1_maySetBeOf 15 = .ok (.iload_n 1, 1) := by decide +kernel
theorem dX1_maySetBeOf_16 : decode cX1_maySetBeOf 16 = .ok (.iaload, 1) := by decide +kernel
theorem dX1_maySetBeOf_17 : decode cX1_maySetBeOf 17 = .ok (.iload_n 2, 1) := by decide +kernel
theorem dX1_maySetBeOf_18 : decode cX1_maySetBeOf 18 = .ok (.if_icmp .ne 7, 3) := by decide +kernel
theorem dX1_maySetBeOf_21 : decode cX1_maySetBeOf 21 = .ok (.iconst 1, 1) := by decide +kernel
theorem dX1_maySetBeOf_22 : decode cX1_maySetBeOf 22 = .ok (.goto 4, 3) := by decide +kernel
theorem dX1_maySetBeOf_25 : decode cX1_maySetBeOf 25 = .ok (.iconst 0, 1) := by decide +kernel
theorem dX1_maySetBeOf_26 : decode cX1_maySetBeOf 26 = .ok (.ireturn, 1) := by decide +kernel
def f_Game_maySetBeOf_b21 (g : Nat) (σ : St) : Option (Int32 × St) :=
  some (1, σ)
set_option maxRecDepth 4000 in
theorem ok_Game_maySetBeOf_b21 {E : gE} {w : wT} {σ' : St} {r : Int32} (X : gC E w cX1_maySetBeOf 3 RX1 1) (Y : gQ E w (some .boolean) (some (.int r)) σ') {g : Nat} (hg : isG g = true) (σ : St) (h : f_Game_maySetBeOf_b21 g σ = some (r, σ')) : gW E w 3 σ 21 [] [] := by
  unfold f_Game_maySetBeOf_b21 at h
  refine g_iconst X kI_1 dX1_maySetBeOf_21 rfl ?_
  refine g_goto X dX1_maySetBeOf_22 (tgt := 26) rfl ?_
  obtain ⟨rfl, rfl⟩ := rt_e h
  exact g_zret X Y rfl dX1_maySetBeOf_26

def f_Game_maySetBeOf (g : Nat) (x1 : Int32) (x2 : Int32) (σ : St) : Option (Int32 × St) :=
  ck (isG g) <| ck (ib x1 10) <| if (rI σ (g + 13) x1) = ((-1000000)) then (f_Game_maySetBeOf_b21 g σ) else (ck (ib x1 10) <| if (rI σ (g + 13) x1) = x2 then (f_Game_maySetBeOf_b21 g σ) else (some (0, σ)))
set_option maxRecDepth 4000 in
theorem ok_Game_maySetBeOf {w : wT} (hi : wInj w) {l : Launch} {g : Nat} {x1 : Int32} {x2 : Int32} {σ σ' : St} {r : Int32} (h : f_Game_maySetBeOf g x1 x2 σ = some (r, σ')) : gM w l yX1_maySetBeOf cX1_maySetBeOf 3 (some .boolean) 1 [.ref (w.1 g), .int x1, .int x2] σ (some (.int r)) σ' := by
  unfold f_Game_maySetBeOf at h
  obtain ⟨hg, h⟩ := ck_e h
  refine gM_of hi (by decide) [some (.ref (w.1 g)), some (.int x1), some (.int x2)] rfl (Nat.le_of_ble_eq_true rfl) (fun E hl X Y => ?_)
  refine g_aload_n X dX1_maySetBeOf_0 rfl rfl ?_
  refine gf_RX1_53 hg X dX1_maySetBeOf_1 rfl ?_
  refine g_iload_n X dX1_maySetBeOf_4 rfl rfl ?_
  obtain ⟨c1, h⟩ := ck_e h
  refine g_iald X (ga_13 hg).1 (ga_13 hg).2.1 (ga_13 hg).2.2 (ib_e c1) dX1_maySetBeOf_5 rfl ?_
  refine g_ldc X dX1_maySetBeOf_6 kc_RX1_69 rfl ?_
  refine g_icmp_eq X dX1_maySetBeOf_8 (tgt := 21) rfl rfl (fun c2 => ?_) (fun c2 => ?_)
  · replace h := if_t c2 h
    exact g_le (lle_0) (ok_Game_maySetBeOf_b21 X Y hg σ h)
  · replace h := if_f c2 h
    refine g_aload_n X dX1_maySetBeOf_11 rfl rfl ?_
    refine gf_RX1_53 hg X dX1_maySetBeOf_12 rfl ?_
    refine g_iload_n X dX1_maySetBeOf_15 rfl rfl ?_
    obtain ⟨c3, h⟩ := ck_e h
    refine g_iald X (ga_13 hg).1 (ga_13 hg).2.1 (ga_13 hg).2.2 (ib_e c3) dX1_maySetBeOf_16 rfl ?_
    refine g_iload_n X dX1_maySetBeOf_17 rfl rfl ?_
    refine g_icmp_ne X dX1_maySetBeOf_18 (tgt := 25) rfl rfl (fun c4 => ?_) (fun c4 => ?_)
    · replace h := if_f c4 h
      refine g_iconst X kI_0 dX1_maySetBeOf_25 rfl ?_
      obtain ⟨rfl, rfl⟩ := rt_e h
      exact g_zret X Y rfl dX1_maySetBeOf_26
    · replace h := if_t c4 h
      exact g_le (lle_0) (ok_Game_maySetBeOf_b21 X Y hg σ h)

theorem dX1_maySetHave_0 : decode cX1_maySetHave 0 = .ok (.aload_n 0, 1) := by decide +kernel
theorem dX1_maySetHave_1 : decode cX1_maySetHave 1 = .ok (.getfield 56, 3) := by decide +kernel
theorem dX1_maySetHave_4 : decode cX1_maySetHave 4 = .ok (.iload_n 1, 1) := by decide +kernel
theorem dX1_maySetHave_5 : decode cX1_maySetHave 5 = .ok (.iaload, 1) := by decide +kernel
theorem dX1_maySetHave_6 : decode cX1_maySetHave 6 = .ok (.ifCond .eq 13, 3) := by decide +kernel
theorem dX1_maySetHave_9 : decode cX1_maySetHave 9 = .ok (.aload_n 0, 1) := by decide +kernel
theorem dX1_maySetHave_10 : decode cX1_maySetHave 10 = .ok (.getfield 56, 3) := by decide +kernel
theorem dX1_maySetHave_13 : decode cX1_maySetHave 13 = .ok (.iload_n 1, 1) := by decide +kernel
theorem dX1_maySetHave_14 : decode cX1_maySetHave 14 = .ok (.iaload, 1) := by decide +kernel
theorem dX1_maySetHave_15 : decode cX1_maySetHave 15 = .ok (.iload_n 2, 1) := by decide +kernel
theorem dX1_maySetHave_16 : decode cX1_maySetHave 16 = .ok (.if_icmp .ne 7, 3) := by decide +kernel
theorem dX1_maySetHave_19 : decode cX1_maySetHave 19 = .ok (.iconst 1, 1) := by decide +kernel
theorem dX1_maySetHave_20 : decode cX1_maySetHave 20 = .ok (.goto 4, 3) := by decide +kernel
theorem dX1_maySetHave_23 : decode cX1_maySetHave 23 = .ok (.iconst 0, 1) := by decide +kernel
theorem dX1_maySetHave_24 : decode cX1_maySetHave 24 = .ok (.ireturn, 1) := by decide +kernel
def f_Game_maySetHave_b19 (g : Nat) (σ : St) : Option (Int32 × St) :=
  some (1, σ)
set_option maxRecDepth 4000 in
theorem ok_Game_maySetHave_b19 {E : gE} {w : wT} {σ' : St} {r : Int32} (X : gC E w cX1_maySetHave 3 RX1 1) (Y : gQ E w (some .boolean) (some (.int r)) σ') {g : Nat} (hg : isG g = true) (σ : St) (h : f_Game_maySetHave_b19 g σ = some (r, σ')) : gW E w 3 σ 19 [] [] := by
  unfold f_Game_maySetHave_b19 at h
  refine g_iconst X kI_1 dX1_maySetHave_19 rfl ?_
  refine g_goto X dX1_maySetHave_20 (tgt := 24) rfl ?_
  obtain ⟨rfl, rfl⟩ := rt_e h
  exact g_zret X Y rfl dX1_maySetHave_24

def f_Game_maySetHave (g : Nat) (x1 : Int32) (x2 : Int32) (σ : St) : Option (Int32 × St) :=
  ck (isG g) <| ck (ib x1 10) <| if (rI σ (g + 14) x1) = 0 then (f_Game_maySetHave_b19 g σ) else (ck (ib x1 10) <| if (rI σ (g + 14) x1) = x2 then (f_Game_maySetHave_b19 g σ) else (some (0, σ)))
set_option maxRecDepth 4000 in
theorem ok_Game_maySetHave {w : wT} (hi : wInj w) {l : Launch} {g : Nat} {x1 : Int32} {x2 : Int32} {σ σ' : St} {r : Int32} (h : f_Game_maySetHave g x1 x2 σ = some (r, σ')) : gM w l yX1_maySetHave cX1_maySetHave 3 (some .boolean) 1 [.ref (w.1 g), .int x1, .int x2] σ (some (.int r)) σ' := by
  unfold f_Game_maySetHave at h
  obtain ⟨hg, h⟩ := ck_e h
  refine gM_of hi (by decide) [some (.ref (w.1 g)), some (.int x1), some (.int x2)] rfl (Nat.le_of_ble_eq_true rfl) (fun E hl X Y => ?_)
  refine g_aload_n X dX1_maySetHave_0 rfl rfl ?_
  refine gf_RX1_56 hg X dX1_maySetHave_1 rfl ?_
  refine g_iload_n X dX1_maySetHave_4 rfl rfl ?_
  obtain ⟨c1, h⟩ := ck_e h
  refine g_iald X (ga_14 hg).1 (ga_14 hg).2.1 (ga_14 hg).2.2 (ib_e c1) dX1_maySetHave_5 rfl ?_
  refine g_if_eq X dX1_maySetHave_6 (tgt := 19) rfl rfl (fun c2 => ?_) (fun c2 => ?_)
  · replace h := if_t c2 h
    exact g_le (lle_0) (ok_Game_maySetHave_b19 X Y hg σ h)
  · replace h := if_f c2 h
    refine g_aload_n X dX1_maySetHave_9 rfl rfl ?_
    refine gf_RX1_56 hg X dX1_maySetHave_10 rfl ?_
    refine g_iload_n X dX1_maySetHave_13 rfl rfl ?_
    obtain ⟨c3, h⟩ := ck_e h
    refine g_iald X (ga_14 hg).1 (ga_14 hg).2.1 (ga_14 hg).2.2 (ib_e c3) dX1_maySetHave_14 rfl ?_
    refine g_iload_n X dX1_maySetHave_15 rfl rfl ?_
    refine g_icmp_ne X dX1_maySetHave_16 (tgt := 23) rfl rfl (fun c4 => ?_) (fun c4 => ?_)
    · replace h := if_f c4 h
      refine g_iconst X kI_0 dX1_maySetHave_23 rfl ?_
      obtain ⟨rfl, rfl⟩ := rt_e h
      exact g_zret X Y rfl dX1_maySetHave_24
    · replace h := if_t c4 h
      exact g_le (lle_0) (ok_Game_maySetHave_b19 X Y hg σ h)
