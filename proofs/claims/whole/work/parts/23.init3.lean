def ws_HG (cA : Nat → ClassId) (h0 : Nat) (u : Nat → Nat) : va_W := [(h0, .inr (8, [.ref (u 0), .ref (u 4), .ref (u 6), .ref (u 7), .ref (u 9), .ref (u 15), .ref (u 22), .ref (u 24), .ref (u 25), .ref (u 43), .int 0, .int 0])), (u 0, .inr (5, [.ref (u 1), .ref (u 2), .ref (u 3)])), (u 1, .inl (cA 1, 8, .inl (fil (fun _ => 0) 8 (-1000000)))), (u 2, .inl (cA 1, 8, .inl (fun _ => 0))), (u 3, .inl (cA 1, 320, .inl (fun _ => 0))), (u 4, .inr (7, [.ref (u 5), .int 0, .int 6, .int 0, .int 0, .int 0])), (u 5, .inl (cA 2, 600, .inl (fun _ => 0))), (u 6, .inr (4, [.int 0, .int 0])), (u 7, .inr (3, [.ref (u 8)])), (u 8, .inl (cA 1, 30, .inl (fun _ => 0))), (u 9, .inr (6, [.ref (u 10), .ref (u 11), .ref (u 12), .ref (u 13), .ref (u 14), .int (-1000000), .int (-1000000)])), (u 10, .inl (cA 4, 60, .inr (.inl (fun _ => 0)))), (u 11, .inl (cA 1, 60, .inl (fun _ => 0))), (u 12, .inl (cA 1, 60, .inl (fun _ => 0))), (u 13, .inl (cA 4, 180, .inr (.inl (fun _ => 0)))), (u 14, .inl (cA 1, 60, .inl (fun _ => 0))), (u 15, .inr (2, [.int 0, .ref (u 16), .ref (u 17), .ref (u 18), .ref (u 19), .ref (u 21)])), (u 16, .inl (cA 1, 600, .inl (fun _ => 0))), (u 17, .inl (cA 4, 60, .inr (.inl (fun _ => 0)))), (u 18, .inl (cA 4, 60, .inr (.inl (fun _ => 0)))), (u 19, .inr (3, [.ref (u 20)])), (u 20, .inl (cA 1, 30, .inl (fun _ => 0))), (u 21, .inl (cA 4, 60, .inr (.inl (fun _ => 0)))), (u 22, .inr (0, [.ref (u 23), .int 0])), (u 23, .inl (cA 1, 16, .inl (fun _ => 0))), (u 24, .inl (cA 4, 60, .inr (.inl (fun _ => 0)))), (u 25, .inr (1, [.int 0, .ref (u 26), .ref (u 27), .ref (u 28), .ref (u 29), .ref (u 30), .ref (u 31), .ref (u 32), .ref (u 33), .ref (u 34), .ref (u 35), .ref (u 36), .ref (u 37), .ref (u 38), .ref (u 39), .ref (u 40), .ref (u 41), .ref (u 42)])), (u 26, .inl (cA 1, 60, .inl (fun _ => 0))), (u 27, .inl (cA 1, 60, .inl (fun _ => 0))), (u 28, .inl (cA 1, 60, .inl (fun _ => 0))), (u 29, .inl (cA 1, 60, .inl (fun _ => 0))), (u 30, .inl (cA 1, 60, .inl (fun _ => 0))), (u 31, .inl (cA 1, 60, .inl (fun _ => 0))), (u 32, .inl (cA 1, 60, .inl (fun _ => 0))), (u 33, .inl (cA 1, 60, .inl (fun _ => 0))), (u 34, .inl (cA 1, 240, .inl (fun _ => 0))), (u 35, .inl (cA 1, 60, .inl (fun _ => 0))), (u 36, .inl (cA 1, 120, .inl (fun _ => 0))), (u 37, .inl (cA 4, 120, .inr (.inl (fun _ => 0)))), (u 38, .inl (cA 1, 10, .inl (fil (fun _ => 0) 10 (-1000000)))), (u 39, .inl (cA 1, 10, .inl (fun _ => 0))), (u 40, .inl (cA 1, 10, .inl (fun _ => 0))), (u 41, .inl (cA 1, 10, .inl (fun _ => 0))), (u 42, .inl (cA 3, 2, .inl (fun _ => 0))), (u 43, .inr (1, [.int 0, .ref (u 44), .ref (u 45), .ref (u 46), .ref (u 47), .ref (u 48), .ref (u 49), .ref (u 50), .ref (u 51), .ref (u 52), .ref (u 53), .ref (u 54), .ref (u 55), .ref (u 56), .ref (u 57), .ref (u 58), .ref (u 59), .ref (u 60)])), (u 44, .inl (cA 1, 60, .inl (fun _ => 0))), (u 45, .inl (cA 1, 60, .inl (fun _ => 0))), (u 46, .inl (cA 1, 60, .inl (fun _ => 0))), (u 47, .inl (cA 1, 60, .inl (fun _ => 0))), (u 48, .inl (cA 1, 60, .inl (fun _ => 0))), (u 49, .inl (cA 1, 60, .inl (fun _ => 0))), (u 50, .inl (cA 1, 60, .inl (fun _ => 0))), (u 51, .inl (cA 1, 60, .inl (fun _ => 0))), (u 52, .inl (cA 1, 240, .inl (fun _ => 0))), (u 53, .inl (cA 1, 60, .inl (fun _ => 0))), (u 54, .inl (cA 1, 120, .inl (fun _ => 0))), (u 55, .inl (cA 4, 120, .inr (.inl (fun _ => 0)))), (u 56, .inl (cA 1, 10, .inl (fil (fun _ => 0) 10 (-1000000)))), (u 57, .inl (cA 1, 10, .inl (fun _ => 0))), (u 58, .inl (cA 1, 10, .inl (fun _ => 0))), (u 59, .inl (cA 1, 10, .inl (fun _ => 0))), (u 60, .inl (cA 3, 2, .inl (fun _ => 0)))]
def fs0_HG : List Value := [.null, .null, .null, .null, .null, .null, .null, .null, .null, .null, .int 0, .int 0]
theorem fs0_HG_ok : ∀ j, j < 12 → defaultValue (tyX8 j) = vp_V fs0_HG j := by decide +kernel
def rm_HG : Room := { frames := 7, cells := 61, slots := 4460, locals := 400 }
theorem dX8_init_0 : decode cX8_init 0 = .ok (.aload_n 0, 1) := by decide +kernel
theorem dX8_init_1 : decode cX8_init 1 = .ok (.invokespecial 3, 3) := by decide +kernel
theorem dX8_init_4 : decode cX8_init 4 = .ok (.aload_n 0, 1) := by decide +kernel
theorem dX8_init_5 : decode cX8_init 5 = .ok (.new 9, 3) := by decide +kernel
theorem dX8_init_8 : decode cX8_init 8 = .ok (.dup, 1) := by decide +kernel
theorem dX8_init_9 : decode cX8_init 9 = .ok (.invokespecial 11, 3) := by decide +kernel
theorem dX8_init_12 : decode cX8_init 12 = .ok (.putfield 12, 3) := by decide +kernel
theorem dX8_init_15 : decode cX8_init 15 = .ok (.aload_n 0, 1) := by decide +kernel
theorem dX8_init_16 : decode cX8_init 16 = .ok (.new 16, 3) := by decide +kernel
theorem dX8_init_19 : decode cX8_init 19 = .ok (.dup, 1) := by decide +kernel
theorem dX8_init_20 : decode cX8_init 20 = .ok (.invokespecial 18, 3) := by decide +kernel
theorem dX8_init_23 : decode cX8_init 23 = .ok (.putfield 19, 3) := by decide +kernel
theorem dX8_init_26 : decode cX8_init 26 = .ok (.aload_n 0, 1) := by decide +kernel
theorem dX8_init_27 : decode cX8_init 27 = .ok (.new 23, 3) := by decide +kernel
theorem dX8_init_30 : decode cX8_init 30 = .ok (.dup, 1) := by decide +kernel
theorem dX8_init_31 : decode cX8_init 31 = .ok (.invokespecial 25, 3) := by decide +kernel
theorem dX8_init_34 : decode cX8_init 34 = .ok (.putfield 26, 3) := by decide +kernel
theorem dX8_init_37 : decode cX8_init 37 = .ok (.aload_n 0, 1) := by decide +kernel
theorem dX8_init_38 : decode cX8_init 38 = .ok (.new 30, 3) := by decide +kernel
theorem dX8_init_41 : decode cX8_init 41 = .ok (.dup, 1) := by decide +kernel
theorem dX8_init_42 : decode cX8_init 42 = .ok (.invokespecial 32, 3) := by decide +kernel
theorem dX8_init_45 : decode cX8_init 45 = .ok (.putfield 33, 3) := by decide +kernel
theorem dX8_init_48 : decode cX8_init 48 = .ok (.aload_n 0, 1) := by decide +kernel
theorem dX8_init_49 : decode cX8_init 49 = .ok (.new 37, 3) := by decide +kernel
theorem dX8_init_52 : decode cX8_init 52 = .ok (.dup, 1) := by decide +kernel
theorem dX8_init_53 : decode cX8_init 53 = .ok (.invokespecial 39, 3) := by decide +kernel
theorem dX8_init_56 : decode cX8_init 56 = .ok (.putfield 40, 3) := by decide +kernel
theorem dX8_init_59 : decode cX8_init 59 = .ok (.aload_n 0, 1) := by decide +kernel
theorem dX8_init_60 : decode cX8_init 60 = .ok (.new 44, 3) := by decide +kernel
theorem dX8_init_63 : decode cX8_init 63 = .ok (.dup, 1) := by decide +kernel
theorem dX8_init_64 : decode cX8_init 64 = .ok (.invokespecial 46, 3) := by decide +kernel
theorem dX8_init_67 : decode cX8_init 67 = .ok (.putfield 47, 3) := by decide +kernel
theorem dX8_init_70 : decode cX8_init 70 = .ok (.aload_n 0, 1) := by decide +kernel
theorem dX8_init_71 : decode cX8_init 71 = .ok (.new 51, 3) := by decide +kernel
theorem dX8_init_74 : decode cX8_init 74 = .ok (.dup, 1) := by decide +kernel
theorem dX8_init_75 : decode cX8_init 75 = .ok (.invokespecial 53, 3) := by decide +kernel
theorem dX8_init_78 : decode cX8_init 78 = .ok (.putfield 54, 3) := by decide +kernel
theorem dX8_init_81 : decode cX8_init 81 = .ok (.aload_n 0, 1) := by decide +kernel
theorem dX8_init_82 : decode cX8_init 82 = .ok (.bipush 60, 2) := by decide +kernel
theorem dX8_init_84 : decode cX8_init 84 = .ok (.newarray .long, 2) := by decide +kernel
theorem dX8_init_86 : decode cX8_init 86 = .ok (.putfield 58, 3) := by decide +kernel
theorem dX8_init_89 : decode cX8_init 89 = .ok (.aload_n 0, 1) := by decide +kernel
theorem dX8_init_90 : decode cX8_init 90 = .ok (.new 62, 3) := by decide +kernel
theorem dX8_init_93 : decode cX8_init 93 = .ok (.dup, 1) := by decide +kernel
theorem dX8_init_94 : decode cX8_init 94 = .ok (.invokespecial 64, 3) := by decide +kernel
theorem dX8_init_97 : decode cX8_init 97 = .ok (.putfield 65, 3) := by decide +kernel
theorem dX8_init_100 : decode cX8_init 100 = .ok (.aload_n 0, 1) := by decide +kernel
theorem dX8_init_101 : decode cX8_init 101 = .ok (.new 62, 3) := by decide +kernel
theorem dX8_init_104 : decode cX8_init 104 = .ok (.dup, 1) := by decide +kernel
theorem dX8_init_105 : decode cX8_init 105 = .ok (.invokespecial 64, 3) := by decide +kernel
theorem dX8_init_108 : decode cX8_init 108 = .ok (.putfield 69, 3) := by decide +kernel
theorem dX8_init_111 : decode cX8_init 111 = .ok (.aload_n 0, 1) := by decide +kernel
theorem dX8_init_112 : decode cX8_init 112 = .ok (.iconst 0, 1) := by decide +kernel
theorem dX8_init_113 : decode cX8_init 113 = .ok (.putfield 72, 3) := by decide +kernel
theorem dX8_init_116 : decode cX8_init 116 = .ok (.aload_n 0, 1) := by decide +kernel
theorem dX8_init_117 : decode cX8_init 117 = .ok (.iconst 0, 1) := by decide +kernel
theorem dX8_init_118 : decode cX8_init 118 = .ok (.putfield 76, 3) := by decide +kernel
theorem dX8_init_121 : decode cX8_init 121 = .ok (.return_, 1) := by decide +kernel
set_option maxRecDepth 20000 in
set_option maxHeartbeats 4000000 in
theorem c_HG_init (l : Launch) (D : va_G) (cA : Nat → ClassId) (h0 sz : Nat) : iM l D cA yX8_init cX8_init rm_HG 8 fs0_HG (ws_HG cA) h0 sz := by
  refine iM_of (by decide) rfl (fun E A hl X hR1 hme hret => ?_)
  refine i_eq (V' := (h0, .inr (8, [.null, .null, .null, .null, .null, .null, .null, .null, .null, .null, .int 0, .int 0])) :: ([])) rfl ?_
  refine i_aload_n X dX8_init_0 rfl rfl ?_
  refine i_obj X (idx := 3) (tq1 23 rfl) (by rw [hR1]; exact ⟨Nat.le_of_ble_eq_true rfl, Nat.le_of_ble_eq_true rfl⟩) dX8_init_1 rfl ?_
  refine i_aload_n X dX8_init_4 rfl rfl ?_
  refine j_new X (ci := 5) (N := 3) (U := TX5) (fs0 := fs0_Shelf) (wsC := ws_Shelf cA) (y := yX5_init) tyX5 tyX5_ok uw_5 rfl fs0_Shelf_ok (fun h0 sz => c_Shelf_init (eL E) D cA h0 sz) (tq1 26 rfl) (tq1 27 rfl) (tq1 2 rfl) (tq1 30 rfl) (tq1 29 rfl) rfl ⟨by decide, by decide, by decide +kernel⟩ (Or.inl (tq1 28 rfl)) rfl rfl (by rw [hR1]; exact ⟨Nat.le_of_ble_eq_true rfl, Nat.le_of_ble_eq_true rfl, Nat.le_of_ble_eq_true rfl, Nat.le_of_ble_eq_true rfl⟩) dX8_init_5 rfl dX8_init_8 rfl dX8_init_9 rfl (fun _ => Nat.le_of_ble_eq_true rfl) (fun q0 u0 => ?_)
  refine i_putF X hme (j := 0) (ty := (.object "HalfGames$Shelf")) tyX8 tyX8_ok nmX8 (ci := 8) rfl (by decide) uw_8 gl_RX8_12 rfl rfl rfl (by decide +kernel) rfl rfl (Nat.le_of_ble_eq_true rfl) [.ref q0, .null, .null, .null, .null, .null, .null, .null, .null, .null, .int 0, .int 0] rfl dX8_init_12 rfl ?_
  refine i_aload_n X dX8_init_15 rfl rfl ?_
  refine j_new X (ci := 7) (N := 6) (U := TX7) (fs0 := fs0_Tape) (wsC := ws_Tape cA) (y := yX7_init) tyX7 tyX7_ok uw_7 rfl fs0_Tape_ok (fun h0 sz => c_Tape_init (eL E) D cA h0 sz) (tq1 48 rfl) (tq1 49 rfl) (tq1 4 rfl) (tq1 52 rfl) (tq1 51 rfl) rfl ⟨by decide, by decide, by decide +kernel⟩ (Or.inr ⟨_, X.2.2.2.2.2.2.2.1⟩) rfl rfl (by rw [hR1]; exact ⟨Nat.le_of_ble_eq_true rfl, Nat.le_of_ble_eq_true rfl, Nat.le_of_ble_eq_true rfl, Nat.le_of_ble_eq_true rfl⟩) dX8_init_16 rfl dX8_init_19 rfl dX8_init_20 rfl (fun _ => Nat.le_of_ble_eq_true rfl) (fun q1 u1 => ?_)
  refine i_putF X hme (j := 1) (ty := (.object "HalfGames$Tape")) tyX8 tyX8_ok nmX8 (ci := 8) rfl (by decide) uw_8 gl_RX8_19 rfl rfl rfl (by decide +kernel) rfl rfl (Nat.le_of_ble_eq_true rfl) [.ref q0, .ref q1, .null, .null, .null, .null, .null, .null, .null, .null, .int 0, .int 0] rfl dX8_init_23 rfl ?_
  refine i_aload_n X dX8_init_26 rfl rfl ?_
  refine j_new X (ci := 4) (N := 2) (U := TX4) (fs0 := fs0_Reader) (wsC := ws_Reader cA) (y := yX4_init) tyX4 tyX4_ok uw_4 rfl fs0_Reader_ok (fun h0 sz => c_Reader_init (eL E) D cA h0 sz) (tq1 78 rfl) (tq1 79 rfl) (tq1 5 rfl) (tq1 82 rfl) (tq1 81 rfl) rfl ⟨by decide, by decide, by decide +kernel⟩ (Or.inr ⟨_, X.2.2.2.2.2.2.2.2.1⟩) rfl rfl (by rw [hR1]; exact ⟨Nat.le_of_ble_eq_true rfl, Nat.le_of_ble_eq_true rfl, Nat.le_of_ble_eq_true rfl, Nat.le_of_ble_eq_true rfl⟩) dX8_init_27 rfl dX8_init_30 rfl dX8_init_31 rfl (fun _ => Nat.le_of_ble_eq_true rfl) (fun q2 u2 => ?_)
  refine i_putF X hme (j := 2) (ty := (.object "HalfGames$Reader")) tyX8 tyX8_ok nmX8 (ci := 8) rfl (by decide) uw_8 gl_RX8_26 rfl rfl rfl (by decide +kernel) rfl rfl (Nat.le_of_ble_eq_true rfl) [.ref q0, .ref q1, .ref q2, .null, .null, .null, .null, .null, .null, .null, .int 0, .int 0] rfl dX8_init_34 rfl ?_
  refine i_aload_n X dX8_init_37 rfl rfl ?_
  refine j_new X (ci := 3) (N := 1) (U := TX3) (fs0 := fs0_Plan) (wsC := ws_Plan cA) (y := yX3_init) tyX3 tyX3_ok uw_3 rfl fs0_Plan_ok (fun h0 sz => c_Plan_init (eL E) D cA h0 sz) (tq1 93 rfl) (tq1 94 rfl) (tq1 6 rfl) (tq1 97 rfl) (tq1 96 rfl) rfl ⟨by decide, by decide, by decide +kernel⟩ (Or.inr ⟨_, X.2.2.2.2.2.2.2.2.2.1⟩) rfl rfl (by rw [hR1]; exact ⟨Nat.le_of_ble_eq_true rfl, Nat.le_of_ble_eq_true rfl, Nat.le_of_ble_eq_true rfl, Nat.le_of_ble_eq_true rfl⟩) dX8_init_38 rfl dX8_init_41 rfl dX8_init_42 rfl (fun _ => Nat.le_of_ble_eq_true rfl) (fun q3 u3 => ?_)
  refine i_putF X hme (j := 3) (ty := (.object "HalfGames$Plan")) tyX8 tyX8_ok nmX8 (ci := 8) rfl (by decide) uw_8 gl_RX8_33 rfl rfl rfl (by decide +kernel) rfl rfl (Nat.le_of_ble_eq_true rfl) [.ref q0, .ref q1, .ref q2, .ref q3, .null, .null, .null, .null, .null, .null, .int 0, .int 0] rfl dX8_init_45 rfl ?_
  refine i_aload_n X dX8_init_48 rfl rfl ?_
  refine j_new X (ci := 6) (N := 7) (U := TX6) (fs0 := fs0_Solver) (wsC := ws_Solver cA) (y := yX6_init) tyX6 tyX6_ok uw_6 rfl fs0_Solver_ok (fun h0 sz => c_Solver_init (eL E) D cA h0 sz) (tq1 103 rfl) (tq1 104 rfl) (tq1 7 rfl) (tq1 107 rfl) (tq1 106 rfl) rfl ⟨by decide, by decide, by decide +kernel⟩ (Or.inr ⟨_, X.2.2.2.2.2.2.2.2.2.2.1⟩) rfl rfl (by rw [hR1]; exact ⟨Nat.le_of_ble_eq_true rfl, Nat.le_of_ble_eq_true rfl, Nat.le_of_ble_eq_true rfl, Nat.le_of_ble_eq_true rfl⟩) dX8_init_49 rfl dX8_init_52 rfl dX8_init_53 rfl (fun _ => Nat.le_of_ble_eq_true rfl) (fun q4 u4 => ?_)
  refine i_putF X hme (j := 4) (ty := (.object "HalfGames$Solver")) tyX8 tyX8_ok nmX8 (ci := 8) rfl (by decide) uw_8 gl_RX8_40 rfl rfl rfl (by decide +kernel) rfl rfl (Nat.le_of_ble_eq_true rfl) [.ref q0, .ref q1, .ref q2, .ref q3, .ref q4, .null, .null, .null, .null, .null, .int 0, .int 0] rfl dX8_init_56 rfl ?_
  refine i_aload_n X dX8_init_59 rfl rfl ?_
  refine j_new X (ci := 2) (N := 6) (U := TX2) (fs0 := fs0_History) (wsC := ws_History cA) (y := yX2_init) tyX2 tyX2_ok uw_2 rfl fs0_History_ok (fun h0 sz => c_History_init (eL E) D cA h0 sz) (tq1 133 rfl) (tq1 134 rfl) (tq1 8 rfl) (tq1 137 rfl) (tq1 136 rfl) rfl ⟨by decide, by decide, by decide +kernel⟩ (Or.inr ⟨_, X.2.2.2.2.2.2.2.2.2.2.2.1⟩) rfl rfl (by rw [hR1]; exact ⟨Nat.le_of_ble_eq_true rfl, Nat.le_of_ble_eq_true rfl, Nat.le_of_ble_eq_true rfl, Nat.le_of_ble_eq_true rfl⟩) dX8_init_60 rfl dX8_init_63 rfl dX8_init_64 rfl (fun _ => Nat.le_of_ble_eq_true rfl) (fun q5 u5 => ?_)
  refine i_putF X hme (j := 5) (ty := (.object "HalfGames$History")) tyX8 tyX8_ok nmX8 (ci := 8) rfl (by decide) uw_8 gl_RX8_47 rfl rfl rfl (by decide +kernel) rfl rfl (Nat.le_of_ble_eq_true rfl) [.ref q0, .ref q1, .ref q2, .ref q3, .ref q4, .ref q5, .null, .null, .null, .null, .int 0, .int 0] rfl dX8_init_67 rfl ?_
  refine i_aload_n X dX8_init_70 rfl rfl ?_
  refine j_new X (ci := 0) (N := 2) (U := TX0) (fs0 := fs0_Asker) (wsC := ws_Asker cA) (y := yX0_init) tyX0 tyX0_ok uw_0 rfl fs0_Asker_ok (fun h0 sz => c_Asker_init (eL E) D cA h0 sz) (tq1 161 rfl) (tq1 162 rfl) (tq1 9 rfl) (tq1 165 rfl) (tq1 164 rfl) rfl ⟨by decide, by decide, by decide +kernel⟩ (Or.inr ⟨_, X.2.2.2.2.2.2.2.2.2.2.2.2.2⟩) rfl rfl (by rw [hR1]; exact ⟨Nat.le_of_ble_eq_true rfl, Nat.le_of_ble_eq_true rfl, Nat.le_of_ble_eq_true rfl, Nat.le_of_ble_eq_true rfl⟩) dX8_init_71 rfl dX8_init_74 rfl dX8_init_75 rfl (fun _ => Nat.le_of_ble_eq_true rfl) (fun q6 u6 => ?_)
  refine i_putF X hme (j := 6) (ty := (.object "HalfGames$Asker")) tyX8 tyX8_ok nmX8 (ci := 8) rfl (by decide) uw_8 gl_RX8_54 rfl rfl rfl (by decide +kernel) rfl rfl (Nat.le_of_ble_eq_true rfl) [.ref q0, .ref q1, .ref q2, .ref q3, .ref q4, .ref q5, .ref q6, .null, .null, .null, .int 0, .int 0] rfl dX8_init_78 rfl ?_
  refine i_aload_n X dX8_init_81 rfl rfl ?_
  refine i_bipush X kB_60 dX8_init_82 rfl ?_
  refine j_new_long X (N := 60) ⟨by decide, by decide, by decide⟩ (by rw [hR1]; exact ⟨Nat.le_of_ble_eq_true rfl, Nat.le_of_ble_eq_true rfl⟩) dX8_init_84 rfl (fun q7 => ?_)
  refine i_putF X hme (j := 7) (ty := (.array .long)) tyX8 tyX8_ok nmX8 (ci := 8) rfl (by decide) uw_8 gl_RX8_58 rfl rfl rfl (by decide +kernel) rfl rfl (Nat.le_of_ble_eq_true rfl) [.ref q0, .ref q1, .ref q2, .ref q3, .ref q4, .ref q5, .ref q6, .ref q7, .null, .null, .int 0, .int 0] rfl dX8_init_86 rfl ?_
  refine i_aload_n X dX8_init_89 rfl rfl ?_
  refine j_new X (ci := 1) (N := 18) (U := TX1) (fs0 := fs0_Game) (wsC := ws_Game cA) (y := yX1_init) tyX1 tyX1_ok uw_1 rfl fs0_Game_ok (fun h0 sz => c_Game_init (eL E) D cA h0 sz) (tq1 176 rfl) (tq1 177 rfl) (tq1 10 rfl) (tq1 180 rfl) (tq1 179 rfl) rfl ⟨by decide, by decide, by decide +kernel⟩ (Or.inl (tq1 178 rfl)) rfl rfl (by rw [hR1]; exact ⟨Nat.le_of_ble_eq_true rfl, Nat.le_of_ble_eq_true rfl, Nat.le_of_ble_eq_true rfl, Nat.le_of_ble_eq_true rfl⟩) dX8_init_90 rfl dX8_init_93 rfl dX8_init_94 rfl (fun _ => Nat.le_of_ble_eq_true rfl) (fun q8 u8 => ?_)
  refine i_put X (j := 8) (ty := (.object "HalfGames$Game")) tyX8 tyX8_ok nmX8 (ci := 8) rfl (by decide) uw_8 gl_RX8_65 rfl rfl (by decide +kernel) rfl rfl (Nat.le_of_ble_eq_true rfl) [.ref q0, .ref q1, .ref q2, .ref q3, .ref q4, .ref q5, .ref q6, .ref q7, .ref q8, .null, .int 0, .int 0] rfl dX8_init_97 rfl ?_
  refine i_aload_n X dX8_init_100 rfl rfl ?_
  refine j_new X (ci := 1) (N := 18) (U := TX1) (fs0 := fs0_Game) (wsC := ws_Game cA) (y := yX1_init) tyX1 tyX1_ok uw_1 rfl fs0_Game_ok (fun h0 sz => c_Game_init (eL E) D cA h0 sz) (tq1 176 rfl) (tq1 177 rfl) (tq1 10 rfl) (tq1 180 rfl) (tq1 179 rfl) rfl ⟨by decide, by decide, by decide +kernel⟩ (Or.inl (tq1 178 rfl)) rfl rfl (by rw [hR1]; exact ⟨Nat.le_of_ble_eq_true rfl, Nat.le_of_ble_eq_true rfl, Nat.le_of_ble_eq_true rfl, Nat.le_of_ble_eq_true rfl⟩) dX8_init_101 rfl dX8_init_104 rfl dX8_init_105 rfl (fun _ => Nat.le_of_ble_eq_true rfl) (fun q9 u9 => ?_)
  refine i_put X (j := 9) (ty := (.object "HalfGames$Game")) tyX8 tyX8_ok nmX8 (ci := 8) rfl (by decide) uw_8 gl_RX8_69 rfl rfl (by decide +kernel) rfl rfl (Nat.le_of_ble_eq_true rfl) [.ref q0, .ref q1, .ref q2, .ref q3, .ref q4, .ref q5, .ref q6, .ref q7, .ref q8, .ref q9, .int 0, .int 0] rfl dX8_init_108 rfl ?_
  refine i_aload_n X dX8_init_111 rfl rfl ?_
  refine i_iconst X kI_0 dX8_init_112 rfl ?_
  refine i_put X (j := 10) (ty := .int) tyX8 tyX8_ok nmX8 (ci := 8) rfl (by decide) uw_8 gl_RX8_72 rfl rfl (by decide +kernel) rfl rfl (Nat.le_of_ble_eq_true rfl) [.ref q0, .ref q1, .ref q2, .ref q3, .ref q4, .ref q5, .ref q6, .ref q7, .ref q8, .ref q9, .int 0, .int 0] rfl dX8_init_113 rfl ?_
  refine i_aload_n X dX8_init_116 rfl rfl ?_
  refine i_iconst X kI_0 dX8_init_117 rfl ?_
  refine i_put X (j := 11) (ty := .int) tyX8 tyX8_ok nmX8 (ci := 8) rfl (by decide) uw_8 gl_RX8_76 rfl rfl (by decide +kernel) rfl rfl (Nat.le_of_ble_eq_true rfl) [.ref q0, .ref q1, .ref q2, .ref q3, .ref q4, .ref q5, .ref q6, .ref q7, .ref q8, .ref q9, .int 0, .int 0] rfl dX8_init_118 rfl ?_
  refine i_eq (V' := ws_HG cA h0 (fun k => [q0, u0 0, u0 1, u0 2, q1, u1 0, q2, q3, u3 0, q4, u4 0, u4 1, u4 2, u4 3, u4 4, q5, u5 0, u5 1, u5 2, u5 3, u5 4, u5 5, q6, u6 0, q7, q8, u8 0, u8 1, u8 2, u8 3, u8 4, u8 5, u8 6, u8 7, u8 8, u8 9, u8 10, u8 11, u8 12, u8 13, u8 14, u8 15, u8 16, q9, u9 0, u9 1, u9 2, u9 3, u9 4, u9 5, u9 6, u9 7, u9 8, u9 9, u9 10, u9 11, u9 12, u9 13, u9 14, u9 15, u9 16].getD k 0)) (by (try simp only [ws_Asker, ws_Game, ws_History, ws_Plan, ws_Reader, ws_Shelf, ws_Solver, ws_Tape, List.nil_append, List.cons_append, List.append_assoc]); rfl) ?_
  exact hret _ _ _ dX8_init_121
