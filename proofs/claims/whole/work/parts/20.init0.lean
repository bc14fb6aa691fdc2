def ws_Shelf (cA : Nat → ClassId) (h0 : Nat) (u : Nat → Nat) : va_W := [(h0, .inr (5, [.ref (u 0), .ref (u 1), .ref (u 2)])), (u 0, .inl (cA 1, 8, .inl (fil (fun _ => 0) 8 (-1000000)))), (u 1, .inl (cA 1, 8, .inl (fun _ => 0))), (u 2, .inl (cA 1, 320, .inl (fun _ => 0)))]
def fs0_Shelf : List Value := [.null, .null, .null]
theorem fs0_Shelf_ok : ∀ j, j < 3 → defaultValue (tyX5 j) = vp_V fs0_Shelf j := by decide +kernel
def rm_Shelf : Room := { frames := 3, cells := 3, slots := 336, locals := 200 }
theorem dX5_init_0 : decode cX5_init 0 = .ok (.aload_n 0, 1) := by decide +kernel
theorem dX5_init_1 : decode cX5_init 1 = .ok (.invokespecial 3, 3) := by decide +kernel
theorem dX5_init_4 : decode cX5_init 4 = .ok (.aload_n 0, 1) := by decide +kernel
theorem dX5_init_5 : decode cX5_init 5 = .ok (.bipush 8, 2) := by decide +kernel
theorem dX5_init_7 : decode cX5_init 7 = .ok (.newarray .int, 2) := by decide +kernel
theorem dX5_init_9 : decode cX5_init 9 = .ok (.putfield 9, 3) := by decide +kernel
theorem dX5_init_12 : decode cX5_init 12 = .ok (.aload_n 0, 1) := by decide +kernel
theorem dX5_init_13 : decode cX5_init 13 = .ok (.bipush 8, 2) := by decide +kernel
theorem dX5_init_15 : decode cX5_init 15 = .ok (.newarray .int, 2) := by decide +kernel
theorem dX5_init_17 : decode cX5_init 17 = .ok (.putfield 15, 3) := by decide +kernel
theorem dX5_init_20 : decode cX5_init 20 = .ok (.aload_n 0, 1) := by decide +kernel
theorem dX5_init_21 : decode cX5_init 21 = .ok (.sipush 320, 3) := by decide +kernel
theorem dX5_init_24 : decode cX5_init 24 = .ok (.newarray .int, 2) := by decide +kernel
theorem dX5_init_26 : decode cX5_init 26 = .ok (.putfield 18, 3) := by decide +kernel
theorem dX5_init_29 : decode cX5_init 29 = .ok (.aload_n 0, 1) := by decide +kernel
theorem dX5_init_30 : decode cX5_init 30 = .ok (.getfield 9, 3) := by decide +kernel
theorem dX5_init_33 : decode cX5_init 33 = .ok (.ldc 21, 2) := by decide +kernel
theorem dX5_init_35 : decode cX5_init 35 = .ok (.invokestatic 22, 3) := by decide +kernel
theorem dX5_init_38 : decode cX5_init 38 = .ok (.return_, 1) := by decide +kernel
set_option maxRecDepth 20000 in
set_option maxHeartbeats 4000000 in
theorem c_Shelf_init (l : Launch) (D : va_G) (cA : Nat → ClassId) (h0 sz : Nat) : iM l D cA yX5_init cX5_init rm_Shelf 5 fs0_Shelf (ws_Shelf cA) h0 sz := by
  refine iM_of (by decide) rfl (fun E A hl X hR1 hme hret => ?_)
  refine i_eq (V' := (h0, .inr (5, [.null, .null, .null])) :: ([])) rfl ?_
  refine i_aload_n X dX5_init_0 rfl rfl ?_
  refine i_obj X (idx := 3) (tq1 31 rfl) (by rw [hR1]; exact ⟨Nat.le_of_ble_eq_true rfl, Nat.le_of_ble_eq_true rfl⟩) dX5_init_1 rfl ?_
  refine i_aload_n X dX5_init_4 rfl rfl ?_
  refine i_bipush X kB_8 dX5_init_5 rfl ?_
  refine j_new_int X (N := 8) ⟨by decide, by decide, by decide⟩ (by rw [hR1]; exact ⟨Nat.le_of_ble_eq_true rfl, Nat.le_of_ble_eq_true rfl⟩) dX5_init_7 rfl (fun q0 => ?_)
  refine i_putF X hme (j := 0) (ty := (.array .int)) tyX5 tyX5_ok nmX5 (ci := 5) rfl (by decide) uw_5 gl_RX5_9 rfl rfl rfl (by decide +kernel) rfl rfl (Nat.le_of_ble_eq_true rfl) [.ref q0, .null, .null] rfl dX5_init_9 rfl ?_
  refine i_aload_n X dX5_init_12 rfl rfl ?_
  refine i_bipush X kB_8 dX5_init_13 rfl ?_
  refine j_new_int X (N := 8) ⟨by decide, by decide, by decide⟩ (by rw [hR1]; exact ⟨Nat.le_of_ble_eq_true rfl, Nat.le_of_ble_eq_true rfl⟩) dX5_init_15 rfl (fun q1 => ?_)
  refine i_putF X hme (j := 1) (ty := (.array .int)) tyX5 tyX5_ok nmX5 (ci := 5) rfl (by decide) uw_5 gl_RX5_15 rfl rfl rfl (by decide +kernel) rfl rfl (Nat.le_of_ble_eq_true rfl) [.ref q0, .ref q1, .null] rfl dX5_init_17 rfl ?_
  refine i_aload_n X dX5_init_20 rfl rfl ?_
  refine i_sipush X kS_320 dX5_init_21 rfl ?_
  refine j_new_int X (N := 320) ⟨by decide, by decide, by decide⟩ (by rw [hR1]; exact ⟨Nat.le_of_ble_eq_true rfl, Nat.le_of_ble_eq_true rfl⟩) dX5_init_24 rfl (fun q2 => ?_)
  refine i_putF X hme (j := 2) (ty := (.array .int)) tyX5 tyX5_ok nmX5 (ci := 5) rfl (by decide) uw_5 gl_RX5_18 rfl rfl rfl (by decide +kernel) rfl rfl (Nat.le_of_ble_eq_true rfl) [.ref q0, .ref q1, .ref q2] rfl dX5_init_26 rfl ?_
  refine i_aload_n X dX5_init_29 rfl rfl ?_
  refine i_get X (j := 0) (v := .ref q0) (ci := 5) rfl (by decide) rfl uw_5 gl_RX5_9 rfl dX5_init_30 rfl ?_
  refine i_ldc X dX5_init_33 kc_RX5_21 rfl ?_
  refine i_eq (V' := [(h0, .inr (5, [.ref q0, .ref q1, .ref q2])), (q0, .inl (cA 1, 8, .inl (fun _ => 0))), (q1, .inl (cA 1, 8, .inl (fun _ => 0))), (q2, .inl (cA 1, 320, .inl (fun _ => 0)))]) (by (try simp only [List.nil_append, List.cons_append, List.append_assoc])) ?_
  refine i_fill X (i := 1) (N := 8) (f := fun _ => 0) (V' := [(h0, .inr (5, [.ref q0, .ref q1, .ref q2])), (q0, .inl (cA 1, 8, .inl (fil (fun _ => 0) 8 (-1000000)))), (q1, .inl (cA 1, 8, .inl (fun _ => 0))), (q2, .inl (cA 1, 320, .inl (fun _ => 0)))]) (by decide) rfl rfl ml_RX5_22 (by rw [hR1]; exact ⟨Nat.le_of_ble_eq_true rfl, Nat.le_of_ble_eq_true rfl, Nat.le_of_ble_eq_true rfl, Nat.le_of_ble_eq_true rfl⟩) dX5_init_35 rfl (Nat.le_of_ble_eq_true rfl) ?_
  refine i_eq (V' := ws_Shelf cA h0 (fun k => [q0, q1, q2].getD k 0)) (by (try simp only [List.nil_append, List.cons_append, List.append_assoc]); rfl) ?_
  exact hret _ _ _ dX5_init_38
def ws_Tape (cA : Nat → ClassId) (h0 : Nat) (u : Nat → Nat) : va_W := [(h0, .inr (7, [.ref (u 0), .int 0, .int 6, .int 0, .int 0, .int 0])), (u 0, .inl (cA 2, 600, .inl (fun _ => 0)))]
def fs0_Tape : List Value := [.null, .int 0, .int 0, .int 0, .int 0, .int 0]
theorem fs0_Tape_ok : ∀ j, j < 6 → defaultValue (tyX7 j) = vp_V fs0_Tape j := by decide +kernel
def rm_Tape : Room := { frames := 3, cells := 1, slots := 600, locals := 200 }
theorem dX7_init_0 : decode cX7_init 0 = .ok (.aload_n 0, 1) := by decide +kernel
theorem dX7_init_1 : decode cX7_init 1 = .ok (.invokespecial 3, 3) := by decide +kernel
theorem dX7_init_4 : decode cX7_init 4 = .ok (.aload_n 0, 1) := by decide +kernel
theorem dX7_init_5 : decode cX7_init 5 = .ok (.sipush 600, 3) := by decide +kernel
theorem dX7_init_8 : decode cX7_init 8 = .ok (.newarray .byte, 2) := by decide +kernel
theorem dX7_init_10 : decode cX7_init 10 = .ok (.putfield 9, 3) := by decide +kernel
theorem dX7_init_13 : decode cX7_init 13 = .ok (.aload_n 0, 1) := by decide +kernel
theorem dX7_init_14 : decode cX7_init 14 = .ok (.iconst 0, 1) := by decide +kernel
theorem dX7_init_15 : decode cX7_init 15 = .ok (.putfield 15, 3) := by decide +kernel
theorem dX7_init_18 : decode cX7_init 18 = .ok (.aload_n 0, 1) := by decide +kernel
theorem dX7_init_19 : decode cX7_init 19 = .ok (.bipush 6, 2) := by decide +kernel
theorem dX7_init_21 : decode cX7_init 21 = .ok (.putfield 19, 3) := by decide +kernel
theorem dX7_init_24 : decode cX7_init 24 = .ok (.aload_n 0, 1) := by decide +kernel
theorem dX7_init_25 : decode cX7_init 25 = .ok (.iconst 0, 1) := by decide +kernel
theorem dX7_init_26 : decode cX7_init 26 = .ok (.putfield 22, 3) := by decide +kernel
theorem dX7_init_29 : decode cX7_init 29 = .ok (.aload_n 0, 1) := by decide +kernel
theorem dX7_init_30 : decode cX7_init 30 = .ok (.iconst 0, 1) := by decide +kernel
theorem dX7_init_31 : decode cX7_init 31 = .ok (.putfield 25, 3) := by decide +kernel
theorem dX7_init_34 : decode cX7_init 34 = .ok (.aload_n 0, 1) := by decide +kernel
theorem dX7_init_35 : decode cX7_init 35 = .ok (.iconst 0, 1) := by decide +kernel
theorem dX7_init_36 : decode cX7_init 36 = .ok (.putfield 28, 3) := by decide +kernel
theorem dX7_init_39 : decode cX7_init 39 = .ok (.return_, 1) := by decide +kernel
set_option maxRecDepth 20000 in
set_option maxHeartbeats 4000000 in
theorem c_Tape_init (l : Launch) (D : va_G) (cA : Nat → ClassId) (h0 sz : Nat) : iM l D cA yX7_init cX7_init rm_Tape 7 fs0_Tape (ws_Tape cA) h0 sz := by
  refine iM_of (by decide) rfl (fun E A hl X hR1 hme hret => ?_)
  refine i_eq (V' := (h0, .inr (7, [.null, .int 0, .int 0, .int 0, .int 0, .int 0])) :: ([])) rfl ?_
  refine i_aload_n X dX7_init_0 rfl rfl ?_
  refine i_obj X (idx := 3) (tq1 53 rfl) (by rw [hR1]; exact ⟨Nat.le_of_ble_eq_true rfl, Nat.le_of_ble_eq_true rfl⟩) dX7_init_1 rfl ?_
  refine i_aload_n X dX7_init_4 rfl rfl ?_
  refine i_sipush X kS_600 dX7_init_5 rfl ?_
  refine j_new_byte X (N := 600) ⟨by decide, by decide, by decide⟩ (by rw [hR1]; exact ⟨Nat.le_of_ble_eq_true rfl, Nat.le_of_ble_eq_true rfl⟩) dX7_init_8 rfl (fun q0 => ?_)
  refine i_putF X hme (j := 0) (ty := (.array .byte)) tyX7 tyX7_ok nmX7 (ci := 7) rfl (by decide) uw_7 gl_RX7_9 rfl rfl rfl (by decide +kernel) rfl rfl (Nat.le_of_ble_eq_true rfl) [.ref q0, .int 0, .int 0, .int 0, .int 0, .int 0] rfl dX7_init_10 rfl ?_
  refine i_aload_n X dX7_init_13 rfl rfl ?_
  refine i_iconst X kI_0 dX7_init_14 rfl ?_
  refine i_put X (j := 1) (ty := .int) tyX7 tyX7_ok nmX7 (ci := 7) rfl (by decide) uw_7 gl_RX7_15 rfl rfl (by decide +kernel) rfl rfl (Nat.le_of_ble_eq_true rfl) [.ref q0, .int 0, .int 0, .int 0, .int 0, .int 0] rfl dX7_init_15 rfl ?_
  refine i_aload_n X dX7_init_18 rfl rfl ?_
  refine i_bipush X kB_6 dX7_init_19 rfl ?_
  refine i_put X (j := 2) (ty := .int) tyX7 tyX7_ok nmX7 (ci := 7) rfl (by decide) uw_7 gl_RX7_19 rfl rfl (by decide +kernel) rfl rfl (Nat.le_of_ble_eq_true rfl) [.ref q0, .int 0, .int 6, .int 0, .int 0, .int 0] rfl dX7_init_21 rfl ?_
  refine i_aload_n X dX7_init_24 rfl rfl ?_
  refine i_iconst X kI_0 dX7_init_25 rfl ?_
  refine i_put X (j := 3) (ty := .int) tyX7 tyX7_ok nmX7 (ci := 7) rfl (by decide) uw_7 gl_RX7_22 rfl rfl (by decide +kernel) rfl rfl (Nat.le_of_ble_eq_true rfl) [.ref q0, .int 0, .int 6, .int 0, .int 0, .int 0] rfl dX7_init_26 rfl ?_
  refine i_aload_n X dX7_init_29 rfl rfl ?_
  refine i_iconst X kI_0 dX7_init_30 rfl ?_
  refine i_put X (j := 4) (ty := .int) tyX7 tyX7_ok nmX7 (ci := 7) rfl (by decide) uw_7 gl_RX7_25 rfl rfl (by decide +kernel) rfl rfl (Nat.le_of_ble_eq_true rfl) [.ref q0, .int 0, .int 6, .int 0, .int 0, .int 0] rfl dX7_init_31 rfl ?_
  refine i_aload_n X dX7_init_34 rfl rfl ?_
  refine i_iconst X kI_0 dX7_init_35 rfl ?_
  refine i_put X (j := 5) (ty := .int) tyX7 tyX7_ok nmX7 (ci := 7) rfl (by decide) uw_7 gl_RX7_28 rfl rfl (by decide +kernel) rfl rfl (Nat.le_of_ble_eq_true rfl) [.ref q0, .int 0, .int 6, .int 0, .int 0, .int 0] rfl dX7_init_36 rfl ?_
  refine i_eq (V' := ws_Tape cA h0 (fun k => [q0].getD k 0)) (by (try simp only [List.nil_append, List.cons_append, List.append_assoc]); rfl) ?_
  exact hret _ _ _ dX7_init_39
def ws_Reader (cA : Nat → ClassId) (h0 : Nat) (u : Nat → Nat) : va_W := [(h0, .inr (4, [.int 0, .int 0]))]
def fs0_Reader : List Value := [.int 0, .int 0]
theorem fs0_Reader_ok : ∀ j, j < 2 → defaultValue (tyX4 j) = vp_V fs0_Reader j := by decide +kernel
def rm_Reader : Room := { frames := 3, cells := 0, slots := 0, locals := 200 }
theorem dX4_init_0 : decode cX4_init 0 = .ok (.aload_n 0, 1) := by decide +kernel
theorem dX4_init_1 : decode cX4_init 1 = .ok (.invokespecial 3, 3) := by decide +kernel
theorem dX4_init_4 : decode cX4_init 4 = .ok (.aload_n 0, 1) := by decide +kernel
theorem dX4_init_5 : decode cX4_init 5 = .ok (.iconst 0, 1) := by decide +kernel
theorem dX4_init_6 : decode cX4_init 6 = .ok (.putfield 9, 3) := by decide +kernel
theorem dX4_init_9 : decode cX4_init 9 = .ok (.aload_n 0, 1) := by decide +kernel
theorem dX4_init_10 : decode cX4_init 10 = .ok (.iconst 0, 1) := by decide +kernel
theorem dX4_init_11 : decode cX4_init 11 = .ok (.putfield 15, 3) := by decide +kernel
theorem dX4_init_14 : decode cX4_init 14 = .ok (.return_, 1) := by decide +kernel
set_option maxRecDepth 20000 in
set_option maxHeartbeats 4000000 in
theorem c_Reader_init (l : Launch) (D : va_G) (cA : Nat → ClassId) (h0 sz : Nat) : iM l D cA yX4_init cX4_init rm_Reader 4 fs0_Reader (ws_Reader cA) h0 sz := by
  refine iM_of (by decide) rfl (fun E A hl X hR1 hme hret => ?_)
  refine i_eq (V' := (h0, .inr (4, [.int 0, .int 0])) :: ([])) rfl ?_
  refine i_aload_n X dX4_init_0 rfl rfl ?_
  refine i_obj X (idx := 3) (tq1 83 rfl) (by rw [hR1]; exact ⟨Nat.le_of_ble_eq_true rfl, Nat.le_of_ble_eq_true rfl⟩) dX4_init_1 rfl ?_
  refine i_aload_n X dX4_init_4 rfl rfl ?_
  refine i_iconst X kI_0 dX4_init_5 rfl ?_
  refine i_put X (j := 0) (ty := .int) tyX4 tyX4_ok nmX4 (ci := 4) rfl (by decide) uw_4 gl_RX4_9 rfl rfl (by decide +kernel) rfl rfl (Nat.le_of_ble_eq_true rfl) [.int 0, .int 0] rfl dX4_init_6 rfl ?_
  refine i_aload_n X dX4_init_9 rfl rfl ?_
  refine i_iconst X kI_0 dX4_init_10 rfl ?_
  refine i_put X (j := 1) (ty := .int) tyX4 tyX4_ok nmX4 (ci := 4) rfl (by decide) uw_4 gl_RX4_15 rfl rfl (by decide +kernel) rfl rfl (Nat.le_of_ble_eq_true rfl) [.int 0, .int 0] rfl dX4_init_11 rfl ?_
  refine i_eq (V' := ws_Reader cA h0 (fun k => [].getD k 0)) (by (try simp only [List.nil_append, List.cons_append, List.append_assoc]); rfl) ?_
  exact hret _ _ _ dX4_init_14
def ws_Plan (cA : Nat → ClassId) (h0 : Nat) (u : Nat → Nat) : va_W := [(h0, .inr (3, [.ref (u 0)])), (u 0, .inl (cA 1, 30, .inl (fun _ => 0)))]
def fs0_Plan : List Value := [.null]
theorem fs0_Plan_ok : ∀ j, j < 1 → defaultValue (tyX3 j) = vp_V fs0_Plan j := by decide +kernel
def rm_Plan : Room := { frames := 3, cells := 1, slots := 30, locals := 200 }
theorem dX3_init_0 : decode cX3_init 0 = .ok (.aload_n 0, 1) := by decide +kernel
theorem dX3_init_1 : decode cX3_init 1 = .ok (.invokespecial 3, 3) := by decide +kernel
theorem dX3_init_4 : decode cX3_init 4 = .ok (.aload_n 0, 1) := by decide +kernel
theorem dX3_init_5 : decode cX3_init 5 = .ok (.bipush 30, 2) := by decide +kernel
theorem dX3_init_7 : decode cX3_init 7 = .ok (.newarray .int, 2) := by decide +kernel
theorem dX3_init_9 : decode cX3_init 9 = .ok (.putfield 9, 3) := by decide +kernel
theorem dX3_init_12 : decode cX3_init 12 = .ok (.return_, 1) := by decide +kernel
set_option maxRecDepth 20000 in
set_option maxHeartbeats 4000000 in
theorem c_Plan_init (l : Launch) (D : va_G) (cA : Nat → ClassId) (h0 sz : Nat) : iM l D cA yX3_init cX3_init rm_Plan 3 fs0_Plan (ws_Plan cA) h0 sz := by
  refine iM_of (by decide) rfl (fun E A hl X hR1 hme hret => ?_)
  refine i_eq (V' := (h0, .inr (3, [.null])) :: ([])) rfl ?_
  refine i_aload_n X dX3_init_0 rfl rfl ?_
  refine i_obj X (idx := 3) (tq1 98 rfl) (by rw [hR1]; exact ⟨Nat.le_of_ble_eq_true rfl, Nat.le_of_ble_eq_true rfl⟩) dX3_init_1 rfl ?_
  refine i_aload_n X dX3_init_4 rfl rfl ?_
  refine i_bipush X kB_30 dX3_init_5 rfl ?_
  refine j_new_int X (N := 30) ⟨by decide, by decide, by decide⟩ (by rw [hR1]; exact ⟨Nat.le_of_ble_eq_true rfl, Nat.le_of_ble_eq_true rfl⟩) dX3_init_7 rfl (fun q0 => ?_)
  refine i_putF X hme (j := 0) (ty := (.array .int)) tyX3 tyX3_ok nmX3 (ci := 3) rfl (by decide) uw_3 gl_RX3_9 rfl rfl rfl (by decide +kernel) rfl rfl (Nat.le_of_ble_eq_true rfl) [.ref q0] rfl dX3_init_9 rfl ?_
  refine i_eq (V' := ws_Plan cA h0 (fun k => [q0].getD k 0)) (by (try simp only [List.nil_append, List.cons_append, List.append_assoc]); rfl) ?_
  exact hret _ _ _ dX3_init_12
def ws_Solver (cA : Nat → ClassId) (h0 : Nat) (u : Nat → Nat) : va_W := [(h0, .inr (6, [.ref (u 0), .ref (u 1), .ref (u 2), .ref (u 3), .ref (u 4), .int (-1000000), .int (-1000000)])), (u 0, .inl (cA 4, 60, .inr (.inl (fun _ => 0)))), (u 1, .inl (cA 1, 60, .inl (fun _ => 0))), (u 2, .inl (cA 1, 60, .inl (fun _ => 0))), (u 3, .inl (cA 4, 180, .inr (.inl (fun _ => 0)))), (u 4, .inl (cA 1, 60, .inl (fun _ => 0)))]
def fs0_Solver : List Value := [.null, .null, .null, .null, .null, .int 0, .int 0]
theorem fs0_Solver_ok : ∀ j, j < 7 → defaultValue (tyX6 j) = vp_V fs0_Solver j := by decide +kernel
def rm_Solver : Room := { frames := 3, cells := 5, slots := 420, locals := 200 }
theorem dX6_init_0 : decode cX6_init 0 = .ok (.aload_n 0, 1) := by decide +kernel
theorem dX6_init_1 : decode cX6_init 1 = .ok (.invokespecial 3, 3) := by decide +kernel
theorem dX6_init_4 : decode cX6_init 4 = .ok (.aload_n 0, 1) := by decide +kernel
theorem dX6_init_5 : decode cX6_init 5 = .ok (.bipush 60, 2) := by decide +kernel
theorem dX6_init_7 : decode cX6_init 7 = .ok (.newarray .long, 2) := by decide +kernel
theorem dX6_init_9 : decode cX6_init 9 = .ok (.putfield 9, 3) := by decide +kernel
theorem dX6_init_12 : decode cX6_init 12 = .ok (.aload_n 0, 1) := by decide +kernel
theorem dX6_init_13 : decode cX6_init 13 = .ok (.bipush 60, 2) := by decide +kernel
theorem dX6_init_15 : decode cX6_init 15 = .ok (.newarray .int, 2) := by decide +kernel
theorem dX6_init_17 : decode cX6_init 17 = .ok (.putfield 15, 3) := by decide +kernel
theorem dX6_init_20 : decode cX6_init 20 = .ok (.aload_n 0, 1) := by decide +kernel
theorem dX6_init_21 : decode cX6_init 21 = .ok (.bipush 60, 2) := by decide +kernel
theorem dX6_init_23 : decode cX6_init 23 = .ok (.newarray .int, 2) := by decide +kernel
theorem dX6_init_25 : decode cX6_init 25 = .ok (.putfield 19, 3) := by decide +kernel
theorem dX6_init_28 : decode cX6_init 28 = .ok (.aload_n 0, 1) := by decide +kernel
theorem dX6_init_29 : decode cX6_init 29 = .ok (.sipush 180, 3) := by decide +kernel
theorem dX6_init_32 : decode cX6_init 32 = .ok (.newarray .long, 2) := by decide +kernel
theorem dX6_init_34 : decode cX6_init 34 = .ok (.putfield 22, 3) := by decide +kernel
theorem dX6_init_37 : decode cX6_init 37 = .ok (.aload_n 0, 1) := by decide +kernel
theorem dX6_init_38 : decode cX6_init 38 = .ok (.bipush 60, 2) := by decide +kernel
theorem dX6_init_40 : decode cX6_init 40 = .ok (.newarray .int, 2) := by decide +kernel
theorem dX6_init_42 : decode cX6_init 42 = .ok (.putfield 25, 3) := by decide +kernel
theorem dX6_init_45 : decode cX6_init 45 = .ok (.aload_n 0, 1) := by decide +kernel
theorem dX6_init_46 : decode cX6_init 46 = .ok (.ldc 28, 2) := by decide +kernel
theorem dX6_init_48 : decode cX6_init 48 = .ok (.putfield 29, 3) := by decide +kernel
theorem dX6_init_51 : decode cX6_init 51 = .ok (.aload_n 0, 1) := by decide +kernel
theorem dX6_init_52 : decode cX6_init 52 = .ok (.ldc 28, 2) := by decide +kernel
theorem dX6_init_54 : decode cX6_init 54 = .ok (.putfield 33, 3) := by decide +kernel
theorem dX6_init_57 : decode cX6_init 57 = .ok (.return_, 1) := by decide +kernel
set_option maxRecDepth 20000 in
set_option maxHeartbeats 4000000 in
theorem c_Solver_init (l : Launch) (D : va_G) (cA : Nat → ClassId) (h0 sz : Nat) : iM l D cA yX6_init cX6_init rm_Solver 6 fs0_Solver (ws_Solver cA) h0 sz := by
  refine iM_of (by decide) rfl (fun E A hl X hR1 hme hret => ?_)
  refine i_eq (V' := (h0, .inr (6, [.null, .null, .null, .null, .null, .int 0, .int 0])) :: ([])) rfl ?_
  refine i_aload_n X dX6_init_0 rfl rfl ?_
  refine i_obj X (idx := 3) (tq1 108 rfl) (by rw [hR1]; exact ⟨Nat.le_of_ble_eq_true rfl, Nat.le_of_ble_eq_true rfl⟩) dX6_init_1 rfl ?_
  refine i_aload_n X dX6_init_4 rfl rfl ?_
  refine i_bipush X kB_60 dX6_init_5 rfl ?_
  refine j_new_long X (N := 60) ⟨by decide, by decide, by decide⟩ (by rw [hR1]; exact ⟨Nat.le_of_ble_eq_true rfl, Nat.le_of_ble_eq_true rfl⟩) dX6_init_7 rfl (fun q0 => ?_)
  refine i_putF X hme (j := 0) (ty := (.array .long)) tyX6 tyX6_ok nmX6 (ci := 6) rfl (by decide) uw_6 gl_RX6_9 rfl rfl rfl (by decide +kernel) rfl rfl (Nat.le_of_ble_eq_true rfl) [.ref q0, .null, .null, .null, .null, .int 0, .int 0] rfl dX6_init_9 rfl ?_
  refine i_aload_n X dX6_init_12 rfl rfl ?_
  refine i_bipush X kB_60 dX6_init_13 rfl ?_
  refine j_new_int X (N := 60) ⟨by decide, by decide, by decide⟩ (by rw [hR1]; exact ⟨Nat.le_of_ble_eq_true rfl, Nat.le_of_ble_eq_true rfl⟩) dX6_init_15 rfl (fun q1 => ?_)
  refine i_putF X hme (j := 1) (ty := (.array .int)) tyX6 tyX6_ok nmX6 (ci := 6) rfl (by decide) uw_6 gl_RX6_15 rfl rfl rfl (by decide +kernel) rfl rfl (Nat.le_of_ble_eq_true rfl) [.ref q0, .ref q1, .null, .null, .null, .int 0, .int 0] rfl dX6_init_17 rfl ?_
  refine i_aload_n X dX6_init_20 rfl rfl ?_
  refine i_bipush X kB_60 dX6_init_21 rfl ?_
  refine j_new_int X (N := 60) ⟨by decide, by decide, by decide⟩ (by rw [hR1]; exact ⟨Nat.le_of_ble_eq_true rfl, Nat.le_of_ble_eq_true rfl⟩) dX6_init_23 rfl (fun q2 => ?_)
  refine i_putF X hme (j := 2) (ty := (.array .int)) tyX6 tyX6_ok nmX6 (ci := 6) rfl (by decide) uw_6 gl_RX6_19 rfl rfl rfl (by decide +kernel) rfl rfl (Nat.le_of_ble_eq_true rfl) [.ref q0, .ref q1, .ref q2, .null, .null, .int 0, .int 0] rfl dX6_init_25 rfl ?_
  refine i_aload_n X dX6_init_28 rfl rfl ?_
  refine i_sipush X kS_180 dX6_init_29 rfl ?_
  refine j_new_long X (N := 180) ⟨by decide, by decide, by decide⟩ (by rw [hR1]; exact ⟨Nat.le_of_ble_eq_true rfl, Nat.le_of_ble_eq_true rfl⟩) dX6_init_32 rfl (fun q3 => ?_)
  refine i_putF X hme (j := 3) (ty := (.array .long)) tyX6 tyX6_ok nmX6 (ci := 6) rfl (by decide) uw_6 gl_RX6_22 rfl rfl rfl (by decide +kernel) rfl rfl (Nat.le_of_ble_eq_true rfl) [.ref q0, .ref q1, .ref q2, .ref q3, .null, .int 0, .int 0] rfl dX6_init_34 rfl ?_
  refine i_aload_n X dX6_init_37 rfl rfl ?_
  refine i_bipush X kB_60 dX6_init_38 rfl ?_
  refine j_new_int X (N := 60) ⟨by decide, by decide, by decide⟩ (by rw [hR1]; exact ⟨Nat.le_of_ble_eq_true rfl, Nat.le_of_ble_eq_true rfl⟩) dX6_init_40 rfl (fun q4 => ?_)
  refine i_putF X hme (j := 4) (ty := (.array .int)) tyX6 tyX6_ok nmX6 (ci := 6) rfl (by decide) uw_6 gl_RX6_25 rfl rfl rfl (by decide +kernel) rfl rfl (Nat.le_of_ble_eq_true rfl) [.ref q0, .ref q1, .ref q2, .ref q3, .ref q4, .int 0, .int 0] rfl dX6_init_42 rfl ?_
  refine i_aload_n X dX6_init_45 rfl rfl ?_
  refine i_ldc X dX6_init_46 kc_RX6_28 rfl ?_
  refine i_put X (j := 5) (ty := .int) tyX6 tyX6_ok nmX6 (ci := 6) rfl (by decide) uw_6 gl_RX6_29 rfl rfl (by decide +kernel) rfl rfl (Nat.le_of_ble_eq_true rfl) [.ref q0, .ref q1, .ref q2, .ref q3, .ref q4, .int (-1000000), .int 0] rfl dX6_init_48 rfl ?_
  refine i_aload_n X dX6_init_51 rfl rfl ?_
  refine i_ldc X dX6_init_52 kc_RX6_28 rfl ?_
  refine i_put X (j := 6) (ty := .int) tyX6 tyX6_ok nmX6 (ci := 6) rfl (by decide) uw_6 gl_RX6_33 rfl rfl (by decide +kernel) rfl rfl (Nat.le_of_ble_eq_true rfl) [.ref q0, .ref q1, .ref q2, .ref q3, .ref q4, .int (-1000000), .int (-1000000)] rfl dX6_init_54 rfl ?_
  refine i_eq (V' := ws_Solver cA h0 (fun k => [q0, q1, q2, q3, q4].getD k 0)) (by (try simp only [List.nil_append, List.cons_append, List.append_assoc]); rfl) ?_
  exact hret _ _ _ dX6_init_57
def ws_History (cA : Nat → ClassId) (h0 : Nat) (u : Nat → Nat) : va_W := [(h0, .inr (2, [.int 0, .ref (u 0), .ref (u 1), .ref (u 2), .ref (u 3), .ref (u 5)])), (u 0, .inl (cA 1, 600, .inl (fun _ => 0))), (u 1, .inl (cA 4, 60, .inr (.inl (fun _ => 0)))), (u 2, .inl (cA 4, 60, .inr (.inl (fun _ => 0)))), (u 3, .inr (3, [.ref (u 4)])), (u 4, .inl (cA 1, 30, .inl (fun _ => 0))), (u 5, .inl (cA 4, 60, .inr (.inl (fun _ => 0))))]
def fs0_History : List Value := [.int 0, .null, .null, .null, .null, .null]
theorem fs0_History_ok : ∀ j, j < 6 → defaultValue (tyX2 j) = vp_V fs0_History j := by decide +kernel
def rm_History : Room := { frames := 5, cells := 6, slots := 811, locals := 300 }
theorem dX2_init_0 : decode cX2_init 0 = .ok (.aload_n 0, 1) := by decide +kernel
theorem dX2_init_1 : decode cX2_init 1 = .ok (.invokespecial 3, 3) := by decide +kernel
theorem dX2_init_4 : decode cX2_init 4 = .ok (.aload_n 0, 1) := by decide +kernel
theorem dX2_init_5 : decode cX2_init 5 = .ok (.iconst 0, 1) := by decide +kernel
theorem dX2_init_6 : decode cX2_init 6 = .ok (.putfield 9, 3) := by decide +kernel
theorem dX2_init_9 : decode cX2_init 9 = .ok (.aload_n 0, 1) := by decide +kernel
theorem dX2_init_10 : decode cX2_init 10 = .ok (.sipush 600, 3) := by decide +kernel
theorem dX2_init_13 : decode cX2_init 13 = .ok (.newarray .int, 2) := by decide +kernel
theorem dX2_init_15 : decode cX2_init 15 = .ok (.putfield 15, 3) := by decide +kernel
theorem dX2_init_18 : decode cX2_init 18 = .ok (.aload_n 0, 1) := by decide +kernel
theorem dX2_init_19 : decode cX2_init 19 = .ok (.bipush 60, 2) := by decide +kernel
theorem dX2_init_21 : decode cX2_init 21 = .ok (.newarray .long, 2) := by decide +kernel
theorem dX2_init_23 : decode cX2_init 23 = .ok (.putfield 19, 3) := by decide +kernel
theorem dX2_init_26 : decode cX2_init 26 = .ok (.aload_n 0, 1) := by decide +kernel
theorem dX2_init_27 : decode cX2_init 27 = .ok (.bipush 60, 2) := by decide +kernel
theorem dX2_init_29 : decode cX2_init 29 = .ok (.newarray .long, 2) := by decide +kernel
theorem dX2_init_31 : decode cX2_init 31 = .ok (.putfield 23, 3) := by decide +kernel
theorem dX2_init_34 : decode cX2_init 34 = .ok (.aload_n 0, 1) := by decide +kernel
theorem dX2_init_35 : decode cX2_init 35 = .ok (.new 26, 3) := by decide +kernel
theorem dX2_init_38 : decode cX2_init 38 = .ok (.dup, 1) := by decide +kernel
theorem dX2_init_39 : decode cX2_init 39 = .ok (.invokespecial 28, 3) := by decide +kernel
theorem dX2_init_42 : decode cX2_init 42 = .ok (.putfield 29, 3) := by decide +kernel
theorem dX2_init_45 : decode cX2_init 45 = .ok (.aload_n 0, 1) := by decide +kernel
theorem dX2_init_46 : decode cX2_init 46 = .ok (.bipush 60, 2) := by decide +kernel
theorem dX2_init_48 : decode cX2_init 48 = .ok (.newarray .long, 2) := by decide +kernel
theorem dX2_init_50 : decode cX2_init 50 = .ok (.putfield 33, 3) := by decide +kernel
theorem dX2_init_53 : decode cX2_init 53 = .ok (.return_, 1) := by decide +kernel
set_option maxRecDepth 20000 in
set_option maxHeartbeats 4000000 in
theorem c_History_init (l : Launch) (D : va_G) (cA : Nat → ClassId) (h0 sz : Nat) : iM l D cA yX2_init cX2_init rm_History 2 fs0_History (ws_History cA) h0 sz := by
  refine iM_of (by decide) rfl (fun E A hl X hR1 hme hret => ?_)
  refine i_eq (V' := (h0, .inr (2, [.int 0, .null, .null, .null, .null, .null])) :: ([])) rfl ?_
  refine i_aload_n X dX2_init_0 rfl rfl ?_
  refine i_obj X (idx := 3) (tq1 138 rfl) (by rw [hR1]; exact ⟨Nat.le_of_ble_eq_true rfl, Nat.le_of_ble_eq_true rfl⟩) dX2_init_1 rfl ?_
  refine i_aload_n X dX2_init_4 rfl rfl ?_
  refine i_iconst X kI_0 dX2_init_5 rfl ?_
  refine i_put X (j := 0) (ty := .int) tyX2 tyX2_ok nmX2 (ci := 2) rfl (by decide) uw_2 gl_RX2_9 rfl rfl (by decide +kernel) rfl rfl (Nat.le_of_ble_eq_true rfl) [.int 0, .null, .null, .null, .null, .null] rfl dX2_init_6 rfl ?_
  refine i_aload_n X dX2_init_9 rfl rfl ?_
  refine i_sipush X kS_600 dX2_init_10 rfl ?_
  refine j_new_int X (N := 600) ⟨by decide, by decide, by decide⟩ (by rw [hR1]; exact ⟨Nat.le_of_ble_eq_true rfl, Nat.le_of_ble_eq_true rfl⟩) dX2_init_13 rfl (fun q0 => ?_)
  refine i_putF X hme (j := 1) (ty := (.array .int)) tyX2 tyX2_ok nmX2 (ci := 2) rfl (by decide) uw_2 gl_RX2_15 rfl rfl rfl (by decide +kernel) rfl rfl (Nat.le_of_ble_eq_true rfl) [.int 0, .ref q0, .null, .null, .null, .null] rfl dX2_init_15 rfl ?_
  refine i_aload_n X dX2_init_18 rfl rfl ?_
  refine i_bipush X kB_60 dX2_init_19 rfl ?_
  refine j_new_long X (N := 60) ⟨by decide, by decide, by decide⟩ (by rw [hR1]; exact ⟨Nat.le_of_ble_eq_true rfl, Nat.le_of_ble_eq_true rfl⟩) dX2_init_21 rfl (fun q1 => ?_)
  refine i_putF X hme (j := 2) (ty := (.array .long)) tyX2 tyX2_ok nmX2 (ci := 2) rfl (by decide) uw_2 gl_RX2_19 rfl rfl rfl (by decide +kernel) rfl rfl (Nat.le_of_ble_eq_true rfl) [.int 0, .ref q0, .ref q1, .null, .null, .null] rfl dX2_init_23 rfl ?_
  refine i_aload_n X dX2_init_26 rfl rfl ?_
  refine i_bipush X kB_60 dX2_init_27 rfl ?_
  refine j_new_long X (N := 60) ⟨by decide, by decide, by decide⟩ (by rw [hR1]; exact ⟨Nat.le_of_ble_eq_true rfl, Nat.le_of_ble_eq_true rfl⟩) dX2_init_29 rfl (fun q2 => ?_)
  refine i_putF X hme (j := 3) (ty := (.array .long)) tyX2 tyX2_ok nmX2 (ci := 2) rfl (by decide) uw_2 gl_RX2_23 rfl rfl rfl (by decide +kernel) rfl rfl (Nat.le_of_ble_eq_true rfl) [.int 0, .ref q0, .ref q1, .ref q2, .null, .null] rfl dX2_init_31 rfl ?_
  refine i_aload_n X dX2_init_34 rfl rfl ?_
  refine j_new X (ci := 3) (N := 1) (U := TX3) (fs0 := fs0_Plan) (wsC := ws_Plan cA) (y := yX3_init) tyX3 tyX3_ok uw_3 rfl fs0_Plan_ok (fun h0 sz => c_Plan_init (eL E) D cA h0 sz) (tq1 139 rfl) (tq1 94 rfl) (tq1 6 rfl) (tq1 97 rfl) (tq1 96 rfl) rfl ⟨by decide, by decide, by decide +kernel⟩ (Or.inr ⟨_, X.2.2.2.2.2.2.2.2.2.2.2.2.1⟩) rfl rfl (by rw [hR1]; exact ⟨Nat.le_of_ble_eq_true rfl, Nat.le_of_ble_eq_true rfl, Nat.le_of_ble_eq_true rfl, Nat.le_of_ble_eq_true rfl⟩) dX2_init_35 rfl dX2_init_38 rfl dX2_init_39 rfl (fun _ => Nat.le_of_ble_eq_true rfl) (fun q3 u3 => ?_)
  refine i_putF X hme (j := 4) (ty := (.object "HalfGames$Plan")) tyX2 tyX2_ok nmX2 (ci := 2) rfl (by decide) uw_2 gl_RX2_29 rfl rfl rfl (by decide +kernel) rfl rfl (Nat.le_of_ble_eq_true rfl) [.int 0, .ref q0, .ref q1, .ref q2, .ref q3, .null] rfl dX2_init_42 rfl ?_
  refine i_aload_n X dX2_init_45 rfl rfl ?_
  refine i_bipush X kB_60 dX2_init_46 rfl ?_
  refine j_new_long X (N := 60) ⟨by decide, by decide, by decide⟩ (by rw [hR1]; exact ⟨Nat.le_of_ble_eq_true rfl, Nat.le_of_ble_eq_true rfl⟩) dX2_init_48 rfl (fun q4 => ?_)
  refine i_putF X hme (j := 5) (ty := (.array .long)) tyX2 tyX2_ok nmX2 (ci := 2) rfl (by decide) uw_2 gl_RX2_33 rfl rfl rfl (by decide +kernel) rfl rfl (Nat.le_of_ble_eq_true rfl) [.int 0, .ref q0, .ref q1, .ref q2, .ref q3, .ref q4] rfl dX2_init_50 rfl ?_
  refine i_eq (V' := ws_History cA h0 (fun k => [q0, q1, q2, q3, u3 0, q4].getD k 0)) (by (try simp only [ws_Plan, List.nil_append, List.cons_append, List.append_assoc]); rfl) ?_
  exact hret _ _ _ dX2_init_53
def ws_Asker (cA : Nat → ClassId) (h0 : Nat) (u : Nat → Nat) : va_W := [(h0, .inr (0, [.ref (u 0), .int 0])), (u 0, .inl (cA 1, 16, .inl (fun _ => 0)))]
def fs0_Asker : List Value := [.null, .int 0]
theorem fs0_Asker_ok : ∀ j, j < 2 → defaultValue (tyX0 j) = vp_V fs0_Asker j := by decide +kernel
def rm_Asker : Room := { frames := 3, cells := 1, slots := 16, locals := 200 }
theorem dX0_init_0 : decode cX0_init 0 = .ok (.aload_n 0, 1) := by decide +kernel
theorem dX0_init_1 : decode cX0_init 1 = .ok (.invokespecial 3, 3) := by decide +kernel
theorem dX0_init_4 : decode cX0_init 4 = .ok (.aload_n 0, 1) := by decide +kernel
theorem dX0_init_5 : decode cX0_init 5 = .ok (.bipush 16, 2) := by decide +kernel
theorem dX0_init_7 : decode cX0_init 7 = .ok (.newarray .int, 2) := by decide +kernel
theorem dX0_init_9 : decode cX0_init 9 = .ok (.putfield 9, 3) := by decide +kernel
theorem dX0_init_12 : decode cX0_init 12 = .ok (.aload_n 0, 1) := by decide +kernel
theorem dX0_init_13 : decode cX0_init 13 = .ok (.iconst 0, 1) := by decide +kernel
theorem dX0_init_14 : decode cX0_init 14 = .ok (.putfield 15, 3) := by decide +kernel
theorem dX0_init_17 : decode cX0_init 17 = .ok (.return_, 1) := by decide +kernel
set_option maxRecDepth 20000 in
set_option maxHeartbeats 4000000 in
theorem c_Asker_init (l : Launch) (D : va_G) (cA : Nat → ClassId) (h0 sz : Nat) : iM l D cA yX0_init cX0_init rm_Asker 0 fs0_Asker (ws_Asker cA) h0 sz := by
  refine iM_of (by decide) rfl (fun E A hl X hR1 hme hret => ?_)
  refine i_eq (V' := (h0, .inr (0, [.null, .int 0])) :: ([])) rfl ?_
  refine i_aload_n X dX0_init_0 rfl rfl ?_
  refine i_obj X (idx := 3) (tq1 166 rfl) (by rw [hR1]; exact ⟨Nat.le_of_ble_eq_true rfl, Nat.le_of_ble_eq_true rfl⟩) dX0_init_1 rfl ?_
  refine i_aload_n X dX0_init_4 rfl rfl ?_
  refine i_bipush X kB_16 dX0_init_5 rfl ?_
  refine j_new_int X (N := 16) ⟨by decide, by decide, by decide⟩ (by rw [hR1]; exact ⟨Nat.le_of_ble_eq_true rfl, Nat.le_of_ble_eq_true rfl⟩) dX0_init_7 rfl (fun q0 => ?_)
  refine i_putF X hme (j := 0) (ty := (.array .int)) tyX0 tyX0_ok nmX0 (ci := 0) rfl (by decide) uw_0 gl_RX0_9 rfl rfl rfl (by decide +kernel) rfl rfl (Nat.le_of_ble_eq_true rfl) [.ref q0, .int 0] rfl dX0_init_9 rfl ?_
  refine i_aload_n X dX0_init_12 rfl rfl ?_
  refine i_iconst X kI_0 dX0_init_13 rfl ?_
  refine i_put X (j := 1) (ty := .int) tyX0 tyX0_ok nmX0 (ci := 0) rfl (by decide) uw_0 gl_RX0_15 rfl rfl (by decide +kernel) rfl rfl (Nat.le_of_ble_eq_true rfl) [.ref q0, .int 0] rfl dX0_init_14 rfl ?_
  refine i_eq (V' := ws_Asker cA h0 (fun k => [q0].getD k 0)) (by (try simp only [List.nil_append, List.cons_append, List.append_assoc]); rfl) ?_
  exact hret _ _ _ dX0_init_17
