def ws_Game (cA : Nat → ClassId) (h0 : Nat) (u : Nat → Nat) : va_W := [(h0, .inr (1, [.int 0, .ref (u 0), .ref (u 1), .ref (u 2), .ref (u 3), .ref (u 4), .ref (u 5), .ref (u 6), .ref (u 7), .ref (u 8), .ref (u 9), .ref (u 10), .ref (u 11), .ref (u 12), .ref (u 13), .ref (u 14), .ref (u 15), .ref (u 16)])), (u 0, .inl (cA 1, 60, .inl (fun _ => 0))), (u 1, .inl (cA 1, 60, .inl (fun _ => 0))), (u 2, .inl (cA 1, 60, .inl (fun _ => 0))), (u 3, .inl (cA 1, 60, .inl (fun _ => 0))), (u 4, .inl (cA 1, 60, .inl (fun _ => 0))), (u 5, .inl (cA 1, 60, .inl (fun _ => 0))), (u 6, .inl (cA 1, 60, .inl (fun _ => 0))), (u 7, .inl (cA 1, 60, .inl (fun _ => 0))), (u 8, .inl (cA 1, 240, .inl (fun _ => 0))), (u 9, .inl (cA 1, 60, .inl (fun _ => 0))), (u 10, .inl (cA 1, 120, .inl (fun _ => 0))), (u 11, .inl (cA 4, 120, .inr (.inl (fun _ => 0)))), (u 12, .inl (cA 1, 10, .inl (fil (fun _ => 0) 10 (-1000000)))), (u 13, .inl (cA 1, 10, .inl (fun _ => 0))), (u 14, .inl (cA 1, 10, .inl (fun _ => 0))), (u 15, .inl (cA 1, 10, .inl (fun _ => 0))), (u 16, .inl (cA 3, 2, .inl (fun _ => 0)))]
def fs0_Game : List Value := [.int 0, .null, .null, .null, .null, .null, .null, .null, .null, .null, .null, .null, .null, .null, .null, .null, .null, .null]
theorem fs0_Game_ok : ∀ j, j < 18 → defaultValue (tyX1 j) = vp_V fs0_Game j := by decide +kernel
def rm_Game : Room := { frames := 3, cells := 17, slots := 1062, locals := 200 }
theorem dX1_init_0 : decode cX1_init 0 = .ok (.aload_n 0, 1) := by decide +kernel
theorem dX1_init_1 : decode cX1_init 1 = .ok (.invokespecial 3, 3) := by decide +kernel
theorem dX1_init_4 : decode cX1_init 4 = .ok (.aload_n 0, 1) := by decide +kernel
theorem dX1_init_5 : decode cX1_init 5 = .ok (.iconst 0, 1) := by decide +kernel
theorem dX1_init_6 : decode cX1_init 6 = .ok (.putfield 9, 3) := by decide +kernel
theorem dX1_init_9 : decode cX1_init 9 = .ok (.aload_n 0, 1) := by decide +kernel
theorem dX1_init_10 : decode cX1_init 10 = .ok (.bipush 60, 2) := by decide +kernel
theorem dX1_init_12 : decode cX1_init 12 = .ok (.newarray .int, 2) := by decide +kernel
theorem dX1_init_14 : decode cX1_init 14 = .ok (.putfield 15, 3) := by decide +kernel
theorem dX1_init_17 : decode cX1_init 17 = .ok (.aload_n 0, 1) := by decide +kernel
theorem dX1_init_18 : decode cX1_init 18 = .ok (.bipush 60, 2) := by decide +kernel
theorem dX1_init_20 : decode cX1_init 20 = .ok (.newarray .int, 2) := by decide +kernel
theorem dX1_init_22 : decode cX1_init 22 = .ok (.putfield 19, 3) := by decide +kernel
theorem dX1_init_25 : decode cX1_init 25 = .ok (.aload_n 0, 1) := by decide +kernel
theorem dX1_init_26 : decode cX1_init 26 = .ok (.bipush 60, 2) := by decide +kernel
theorem dX1_init_28 : decode cX1_init 28 = .ok (.newarray .int, 2) := by decide +kernel
theorem dX1_init_30 : decode cX1_init 30 = .ok (.putfield 22, 3) := by decide +kernel
theorem dX1_init_33 : decode cX1_init 33 = .ok (.aload_n 0, 1) := by decide +kernel
theorem dX1_init_34 : decode cX1_init 34 = .ok (.bipush 60, 2) := by decide +kernel
theorem dX1_init_36 : decode cX1_init 36 = .ok (.newarray .int, 2) := by decide +kernel
theorem dX1_init_38 : decode cX1_init 38 = .ok (.putfield 25, 3) := by decide +kernel
theorem dX1_init_41 : decode cX1_init 41 = .ok (.aload_n 0, 1) := by decide +kernel
theorem dX1_init_42 : decode cX1_init 42 = .ok (.bipush 60, 2) := by decide +kernel
theorem dX1_init_44 : decode cX1_init 44 = .ok (.newarray .int, 2) := by decide +kernel
theorem dX1_init_46 : decode cX1_init 46 = .ok (.putfield 28, 3) := by decide +kernel
theorem dX1_init_49 : decode cX1_init 49 = .ok (.aload_n 0, 1) := by decide +kernel
theorem dX1_init_50 : decode cX1_init 50 = .ok (.bipush 60, 2) := by decide +kernel
theorem dX1_init_52 : decode cX1_init 52 = .ok (.newarray .int, 2) := by decide +kernel
theorem dX1_init_54 : decode cX1_init 54 = .ok (.putfield 31, 3) := by decide +kernel
theorem dX1_init_57 : decode cX1_init 57 = .ok (.aload_n 0, 1) := by decide +kernel
theorem dX1_init_58 : decode cX1_init 58 = .ok (.bipush 60, 2) := by decide +kernel
theorem dX1_init_60 : decode cX1_init 60 = .ok (.newarray .int, 2) := by decide +kernel
theorem dX1_init_62 : decode cX1_init 62 = .ok (.putfield 34, 3) := by decide +kernel
theorem dX1_init_65 : decode cX1_init 65 = .ok (.aload_n 0, 1) := by decide +kernel
theorem dX1_init_66 : decode cX1_init 66 = .ok (.bipush 60, 2) := by decide +kernel
theorem dX1_init_68 : decode cX1_init 68 = .ok (.newarray .int, 2) := by decide +kernel
theorem dX1_init_70 : decode cX1_init 70 = .ok (.putfield 37, 3) := by decide +kernel
theorem dX1_init_73 : decode cX1_init 73 = .ok (.aload_n 0, 1) := by decide +kernel
theorem dX1_init_74 : decode cX1_init 74 = .ok (.sipush 240, 3) := by decide +kernel
theorem dX1_init_77 : decode cX1_init 77 = .ok (.newarray .int, 2) := by decide +kernel
theorem dX1_init_79 : decode cX1_init 79 = .ok (.putfield 40, 3) := by decide +kernel
theorem dX1_init_82 : decode cX1_init 82 = .ok (.aload_n 0, 1) := by decide +kernel
theorem dX1_init_83 : decode cX1_init 83 = .ok (.bipush 60, 2) := by decide +kernel
theorem dX1_init_85 : decode cX1_init 85 = .ok (.newarray .int, 2) := by decide +kernel
theorem dX1_init_87 : decode cX1_init 87 = .ok (.putfield 43, 3) := by decide +kernel
theorem dX1_init_90 : decode cX1_init 90 = .ok (.aload_n 0, 1) := by decide +kernel
theorem dX1_init_91 : decode cX1_init 91 = .ok (.bipush 120, 2) := by decide +kernel
theorem dX1_init_93 : decode cX1_init 93 = .ok (.newarray .int, 2) := by decide +kernel
theorem dX1_init_95 : decode cX1_init 95 = .ok (.putfield 46, 3) := by decide +kernel
theorem dX1_init_98 : decode cX1_init 98 = .ok (.aload_n 0, 1) := by decide +kernel
theorem dX1_init_99 : decode cX1_init 99 = .ok (.bipush 120, 2) := by decide +kernel
theorem dX1_init_101 : decode cX1_init 101 = .ok (.newarray .long, 2) := by decide +kernel
theorem dX1_init_103 : decode cX1_init 103 = .ok (.putfield 49, 3) := by decide +kernel
theorem dX1_init_106 : decode cX1_init 106 = .ok (.aload_n 0, 1) := by decide +kernel
theorem dX1_init_107 : decode cX1_init 107 = .ok (.bipush 10, 2) := by decide +kernel
theorem dX1_init_109 : decode cX1_init 109 = .ok (.newarray .int, 2) := by decide +kernel
theorem dX1_init_111 : decode cX1_init 111 = .ok (.putfield 53, 3) := by decide +kernel
theorem dX1_init_114 : decode cX1_init 114 = .ok (.aload_n 0, 1) := by decide +kernel
theorem dX1_init_115 : decode cX1_init 115 = .ok (.bipush 10, 2) := by decide +kernel
theorem dX1_init_117 : decode cX1_init 117 = .ok (.newarray .int, 2) := by decide +kernel
theorem dX1_init_119 : decode cX1_init 119 = .ok (.putfield 56, 3) := by decide +kernel
theorem dX1_init_122 : decode cX1_init 122 = .ok (.aload_n 0, 1) := by decide +kernel
theorem dX1_init_123 : decode cX1_init 123 = .ok (.bipush 10, 2) := by decide +kernel
theorem dX1_init_125 : decode cX1_init 125 = .ok (.newarray .int, 2) := by decide +kernel
theorem dX1_init_127 : decode cX1_init 127 = .ok (.putfield 59, 3) := by decide +kernel
theorem dX1_init_130 : decode cX1_init 130 = .ok (.aload_n 0, 1) := by decide +kernel
theorem dX1_init_131 : decode cX1_init 131 = .ok (.bipush 10, 2) := by decide +kernel
theorem dX1_init_133 : decode cX1_init 133 = .ok (.newarray .int, 2) := by decide +kernel
theorem dX1_init_135 : decode cX1_init 135 = .ok (.putfield 62, 3) := by decide +kernel
theorem dX1_init_138 : decode cX1_init 138 = .ok (.aload_n 0, 1) := by decide +kernel
theorem dX1_init_139 : decode cX1_init 139 = .ok (.iconst 2, 1) := by decide +kernel
theorem dX1_init_140 : decode cX1_init 140 = .ok (.newarray .boolean, 2) := by decide +kernel
theorem dX1_init_142 : decode cX1_init 142 = .ok (.putfield 65, 3) := by decide +kernel
theorem dX1_init_145 : decode cX1_init 145 = .ok (.aload_n 0, 1) := by decide +kernel
theorem dX1_init_146 : decode cX1_init 146 = .ok (.getfield 53, 3) := by decide +kernel
theorem dX1_init_149 : decode cX1_init 149 = .ok (.ldc 69, 2) := by decide +kernel
theorem dX1_init_151 : decode cX1_init 151 = .ok (.invokestatic 70, 3) := by decide +kernel
theorem dX1_init_154 : decode cX1_init 154 = .ok (.return_, 1) := by decide +kernel
set_option maxRecDepth 20000 in
set_option maxHeartbeats 4000000 in
theorem c_Game_init (l : Launch) (D : va_G) (cA : Nat → ClassId) (h0 sz : Nat) : iM l D cA yX1_init cX1_init rm_Game 1 fs0_Game (ws_Game cA) h0 sz := by
  refine iM_of (by decide) rfl (fun E A hl X hR1 hme hret => ?_)
  refine i_eq (V' := (h0, .inr (1, [.int 0, .null, .null, .null, .null, .null, .null, .null, .null, .null, .null, .null, .null, .null, .null, .null, .null, .null])) :: ([])) rfl ?_
  refine i_aload_n X dX1_init_0 rfl rfl ?_
  refine i_obj X (idx := 3) (tq1 181 rfl) (by rw [hR1]; exact ⟨Nat.le_of_ble_eq_true rfl, Nat.le_of_ble_eq_true rfl⟩) dX1_init_1 rfl ?_
  refine i_aload_n X dX1_init_4 rfl rfl ?_
  refine i_iconst X kI_0 dX1_init_5 rfl ?_
  refine i_put X (j := 0) (ty := .int) tyX1 tyX1_ok nmX1 (ci := 1) rfl (by decide) uw_1 gl_RX1_9 rfl rfl (by decide +kernel) rfl rfl (Nat.le_of_ble_eq_true rfl) [.int 0, .null, .null, .null, .null, .null, .null, .null, .null, .null, .null, .null, .null, .null, .null, .null, .null, .null] rfl dX1_init_6 rfl ?_
  refine i_aload_n X dX1_init_9 rfl rfl ?_
  refine i_bipush X kB_60 dX1_init_10 rfl ?_
  refine j_new_int X (N := 60) ⟨by decide, by decide, by decide⟩ (by rw [hR1]; exact ⟨Nat.le_of_ble_eq_true rfl, Nat.le_of_ble_eq_true rfl⟩) dX1_init_12 rfl (fun q0 => ?_)
  refine i_putF X hme (j := 1) (ty := (.array .int)) tyX1 tyX1_ok nmX1 (ci := 1) rfl (by decide) uw_1 gl_RX1_15 rfl rfl rfl (by decide +kernel) rfl rfl (Nat.le_of_ble_eq_true rfl) [.int 0, .ref q0, .null, .null, .null, .null, .null, .null, .null, .null, .null, .null, .null, .null, .null, .null, .null, .null] rfl dX1_init_14 rfl ?_
  refine i_aload_n X dX1_init_17 rfl rfl ?_
  refine i_bipush X kB_60 dX1_init_18 rfl ?_
  refine j_new_int X (N := 60) ⟨by decide, by decide, by decide⟩ (by rw [hR1]; exact ⟨Nat.le_of_ble_eq_true rfl, Nat.le_of_ble_eq_true rfl⟩) dX1_init_20 rfl (fun q1 => ?_)
  refine i_putF X hme (j := 2) (ty := (.array .int)) tyX1 tyX1_ok nmX1 (ci := 1) rfl (by decide) uw_1 gl_RX1_19 rfl rfl rfl (by decide +kernel) rfl rfl (Nat.le_of_ble_eq_true rfl) [.int 0, .ref q0, .ref q1, .null, .null, .null, .null, .null, .null, .null, .null, .null, .null, .null, .null, .null, .null, .null] rfl dX1_init_22 rfl ?_
  refine i_aload_n X dX1_init_25 rfl rfl ?_
  refine i_bipush X kB_60 dX1_init_26 rfl ?_
  refine j_new_int X (N := 60) ⟨by decide, by decide, by decide⟩ (by rw [hR1]; exact ⟨Nat.le_of_ble_eq_true rfl, Nat.le_of_ble_eq_true rfl⟩) dX1_init_28 rfl (fun q2 => ?_)
  refine i_putF X hme (j := 3) (ty := (.array .int)) tyX1 tyX1_ok nmX1 (ci := 1) rfl (by decide) uw_1 gl_RX1_22 rfl rfl rfl (by decide +kernel) rfl rfl (Nat.le_of_ble_eq_true rfl) [.int 0, .ref q0, .ref q1, .ref q2, .null, .null, .null, .null, .null, .null, .null, .null, .null, .null, .null, .null, .null, .null] rfl dX1_init_30 rfl ?_
  refine i_aload_n X dX1_init_33 rfl rfl ?_
  refine i_bipush X kB_60 dX1_init_34 rfl ?_
  refine j_new_int X (N := 60) ⟨by decide, by decide, by decide⟩ (by rw [hR1]; exact ⟨Nat.le_of_ble_eq_true rfl, Nat.le_of_ble_eq_true rfl⟩) dX1_init_36 rfl (fun q3 => ?_)
  refine i_putF X hme (j := 4) (ty := (.array .int)) tyX1 tyX1_ok nmX1 (ci := 1) rfl (by decide) uw_1 gl_RX1_25 rfl rfl rfl (by decide +kernel) rfl rfl (Nat.le_of_ble_eq_true rfl) [.int 0, .ref q0, .ref q1, .ref q2, .ref q3, .null, .null, .null, .null, .null, .null, .null, .null, .null, .null, .null, .null, .null] rfl dX1_init_38 rfl ?_
  refine i_aload_n X dX1_init_41 rfl rfl ?_
  refine i_bipush X kB_60 dX1_init_42 rfl ?_
  refine j_new_int X (N := 60) ⟨by decide, by decide, by decide⟩ (by rw [hR1]; exact ⟨Nat.le_of_ble_eq_true rfl, Nat.le_of_ble_eq_true rfl⟩) dX1_init_44 rfl (fun q4 => ?_)
  refine i_putF X hme (j := 5) (ty := (.array .int)) tyX1 tyX1_ok nmX1 (ci := 1) rfl (by decide) uw_1 gl_RX1_28 rfl rfl rfl (by decide +kernel) rfl rfl (Nat.le_of_ble_eq_true rfl) [.int 0, .ref q0, .ref q1, .ref q2, .ref q3, .ref q4, .null, .null, .null, .null, .null, .null, .null, .null, .null, .null, .null, .null] rfl dX1_init_46 rfl ?_
  refine i_aload_n X dX1_init_49 rfl rfl ?_
  refine i_bipush X kB_60 dX1_init_50 rfl ?_
  refine j_new_int X (N := 60) ⟨by decide, by decide, by decide⟩ (by rw [hR1]; exact ⟨Nat.le_of_ble_eq_true rfl, Nat.le_of_ble_eq_true rfl⟩) dX1_init_52 rfl (fun q5 => ?_)
  refine i_putF X hme (j := 6) (ty := (.array .int)) tyX1 tyX1_ok nmX1 (ci := 1) rfl (by decide) uw_1 gl_RX1_31 rfl rfl rfl (by decide +kernel) rfl rfl (Nat.le_of_ble_eq_true rfl) [.int 0, .ref q0, .ref q1, .ref q2, .ref q3, .ref q4, .ref q5, .null, .null, .null, .null, .null, .null, .null, .null, .null, .null, .null] rfl dX1_init_54 rfl ?_
  refine i_aload_n X dX1_init_57 rfl rfl ?_
  refine i_bipush X kB_60 dX1_init_58 rfl ?_
  refine j_new_int X (N := 60) ⟨by decide, by decide, by decide⟩ (by rw [hR1]; exact ⟨Nat.le_of_ble_eq_true rfl, Nat.le_of_ble_eq_true rfl⟩) dX1_init_60 rfl (fun q6 => ?_)
  refine i_putF X hme (j := 7) (ty := (.array .int)) tyX1 tyX1_ok nmX1 (ci := 1) rfl (by decide) uw_1 gl_RX1_34 rfl rfl rfl (by decide +kernel) rfl rfl (Nat.le_of_ble_eq_true rfl) [.int 0, .ref q0, .ref q1, .ref q2, .ref q3, .ref q4, .ref q5, .ref q6, .null, .null, .null, .null, .null, .null, .null, .null, .null, .null] rfl dX1_init_62 rfl ?_
  refine i_aload_n X dX1_init_65 rfl rfl ?_
  refine i_bipush X kB_60 dX1_init_66 rfl ?_
  refine j_new_int X (N := 60) ⟨by decide, by decide, by decide⟩ (by rw [hR1]; exact ⟨Nat.le_of_ble_eq_true rfl, Nat.le_of_ble_eq_true rfl⟩) dX1_init_68 rfl (fun q7 => ?_)
  refine i_putF X hme (j := 8) (ty := (.array .int)) tyX1 tyX1_ok nmX1 (ci := 1) rfl (by decide) uw_1 gl_RX1_37 rfl rfl rfl (by decide +kernel) rfl rfl (Nat.le_of_ble_eq_true rfl) [.int 0, .ref q0, .ref q1, .ref q2, .ref q3, .ref q4, .ref q5, .ref q6, .ref q7, .null, .null, .null, .null, .null, .null, .null, .null, .null] rfl dX1_init_70 rfl ?_
  refine i_aload_n X dX1_init_73 rfl rfl ?_
  refine i_sipush X kS_240 dX1_init_74 rfl ?_
  refine j_new_int X (N := 240) ⟨by decide, by decide, by decide⟩ (by rw [hR1]; exact ⟨Nat.le_of_ble_eq_true rfl, Nat.le_of_ble_eq_true rfl⟩) dX1_init_77 rfl (fun q8 => ?_)
  refine i_putF X hme (j := 9) (ty := (.array .int)) tyX1 tyX1_ok nmX1 (ci := 1) rfl (by decide) uw_1 gl_RX1_40 rfl rfl rfl (by decide +kernel) rfl rfl (Nat.le_of_ble_eq_true rfl) [.int 0, .ref q0, .ref q1, .ref q2, .ref q3, .ref q4, .ref q5, .ref q6, .ref q7, .ref q8, .null, .null, .null, .null, .null, .null, .null, .null] rfl dX1_init_79 rfl ?_
  refine i_aload_n X dX1_init_82 rfl rfl ?_
  refine i_bipush X kB_60 dX1_init_83 rfl ?_
  refine j_new_int X (N := 60) ⟨by decide, by decide, by decide⟩ (by rw [hR1]; exact ⟨Nat.le_of_ble_eq_true rfl, Nat.le_of_ble_eq_true rfl⟩) dX1_init_85 rfl (fun q9 => ?_)
  refine i_putF X hme (j := 10) (ty := (.array .int)) tyX1 tyX1_ok nmX1 (ci := 1) rfl (by decide) uw_1 gl_RX1_43 rfl rfl rfl (by decide +kernel) rfl rfl (Nat.le_of_ble_eq_true rfl) [.int 0, .ref q0, .ref q1, .ref q2, .ref q3, .ref q4, .ref q5, .ref q6, .ref q7, .ref q8, .ref q9, .null, .null, .null, .null, .null, .null, .null] rfl dX1_init_87 rfl ?_
  refine i_aload_n X dX1_init_90 rfl rfl ?_
  refine i_bipush X kB_120 dX1_init_91 rfl ?_
  refine j_new_int X (N := 120) ⟨by decide, by decide, by decide⟩ (by rw [hR1]; exact ⟨Nat.le_of_ble_eq_true rfl, Nat.le_of_ble_eq_true rfl⟩) dX1_init_93 rfl (fun q10 => ?_)
  refine i_putF X hme (j := 11) (ty := (.array .int)) tyX1 tyX1_ok nmX1 (ci := 1) rfl (by decide) uw_1 gl_RX1_46 rfl rfl rfl (by decide +kernel) rfl rfl (Nat.le_of_ble_eq_true rfl) [.int 0, .ref q0, .ref q1, .ref q2, .ref q3, .ref q4, .ref q5, .ref q6, .ref q7, .ref q8, .ref q9, .ref q10, .null, .null, .null, .null, .null, .null] rfl dX1_init_95 rfl ?_
  refine i_aload_n X dX1_init_98 rfl rfl ?_
  refine i_bipush X kB_120 dX1_init_99 rfl ?_
  refine j_new_long X (N := 120) ⟨by decide, by decide, by decide⟩ (by rw [hR1]; exact ⟨Nat.le_of_ble_eq_true rfl, Nat.le_of_ble_eq_true rfl⟩) dX1_init_101 rfl (fun q11 => ?_)
  refine i_putF X hme (j := 12) (ty := (.array .long)) tyX1 tyX1_ok nmX1 (ci := 1) rfl (by decide) uw_1 gl_RX1_49 rfl rfl rfl (by decide +kernel) rfl rfl (Nat.le_of_ble_eq_true rfl) [.int 0, .ref q0, .ref q1, .ref q2, .ref q3, .ref q4, .ref q5, .ref q6, .ref q7, .ref q8, .ref q9, .ref q10, .ref q11, .null, .null, .null, .null, .null] rfl dX1_init_103 rfl ?_
  refine i_aload_n X dX1_init_106 rfl rfl ?_
  refine i_bipush X kB_10 dX1_init_107 rfl ?_
  refine j_new_int X (N := 10) ⟨by decide, by decide, by decide⟩ (by rw [hR1]; exact ⟨Nat.le_of_ble_eq_true rfl, Nat.le_of_ble_eq_true rfl⟩) dX1_init_109 rfl (fun q12 => ?_)
  refine i_putF X hme (j := 13) (ty := (.array .int)) tyX1 tyX1_ok nmX1 (ci := 1) rfl (by decide) uw_1 gl_RX1_53 rfl rfl rfl (by decide +kernel) rfl rfl (Nat.le_of_ble_eq_true rfl) [.int 0, .ref q0, .ref q1, .ref q2, .ref q3, .ref q4, .ref q5, .ref q6, .ref q7, .ref q8, .ref q9, .ref q10, .ref q11, .ref q12, .null, .null, .null, .null] rfl dX1_init_111 rfl ?_
  refine i_aload_n X dX1_init_114 rfl rfl ?_
  refine i_bipush X kB_10 dX1_init_115 rfl ?_
  refine j_new_int X (N := 10) ⟨by decide, by decide, by decide⟩ (by rw [hR1]; exact ⟨Nat.le_of_ble_eq_true rfl, Nat.le_of_ble_eq_true rfl⟩) dX1_init_117 rfl (fun q13 => ?_)
  refine i_putF X hme (j := 14) (ty := (.array .int)) tyX1 tyX1_ok nmX1 (ci := 1) rfl (by decide) uw_1 gl_RX1_56 rfl rfl rfl (by decide +kernel) rfl rfl (Nat.le_of_ble_eq_true rfl) [.int 0, .ref q0, .ref q1, .ref q2, .ref q3, .ref q4, .ref q5, .ref q6, .ref q7, .ref q8, .ref q9, .ref q10, .ref q11, .ref q12, .ref q13, .null, .null, .null] rfl dX1_init_119 rfl ?_
  refine i_aload_n X dX1_init_122 rfl rfl ?_
  refine i_bipush X kB_10 dX1_init_123 rfl ?_
  refine j_new_int X (N := 10) ⟨by decide, by decide, by decide⟩ (by rw [hR1]; exact ⟨Nat.le_of_ble_eq_true rfl, Nat.le_of_ble_eq_true rfl⟩) dX1_init_125 rfl (fun q14 => ?_)
  refine i_putF X hme (j := 15) (ty := (.array .int)) tyX1 tyX1_ok nmX1 (ci := 1) rfl (by decide) uw_1 gl_RX1_59 rfl rfl rfl (by decide +kernel) rfl rfl (Nat.le_of_ble_eq_true rfl) [.int 0, .ref q0, .ref q1, .ref q2, .ref q3, .ref q4, .ref q5, .ref q6, .ref q7, .ref q8, .ref q9, .ref q10, .ref q11, .ref q12, .ref q13, .ref q14, .null, .null] rfl dX1_init_127 rfl ?_
  refine i_aload_n X dX1_init_130 rfl rfl ?_
  refine i_bipush X kB_10 dX1_init_131 rfl ?_
  refine j_new_int X (N := 10) ⟨by decide, by decide, by decide⟩ (by rw [hR1]; exact ⟨Nat.le_of_ble_eq_true rfl, Nat.le_of_ble_eq_true rfl⟩) dX1_init_133 rfl (fun q15 => ?_)
  refine i_putF X hme (j := 16) (ty := (.array .int)) tyX1 tyX1_ok nmX1 (ci := 1) rfl (by decide) uw_1 gl_RX1_62 rfl rfl rfl (by decide +kernel) rfl rfl (Nat.le_of_ble_eq_true rfl) [.int 0, .ref q0, .ref q1, .ref q2, .ref q3, .ref q4, .ref q5, .ref q6, .ref q7, .ref q8, .ref q9, .ref q10, .ref q11, .ref q12, .ref q13, .ref q14, .ref q15, .null] rfl dX1_init_135 rfl ?_
  refine i_aload_n X dX1_init_138 rfl rfl ?_
  refine i_iconst X kI_2 dX1_init_139 rfl ?_
  refine j_new_boolean X (N := 2) ⟨by decide, by decide, by decide⟩ (by rw [hR1]; exact ⟨Nat.le_of_ble_eq_true rfl, Nat.le_of_ble_eq_true rfl⟩) dX1_init_140 rfl (fun q16 => ?_)
  refine i_putF X hme (j := 17) (ty := (.array .boolean)) tyX1 tyX1_ok nmX1 (ci := 1) rfl (by decide) uw_1 gl_RX1_65 rfl rfl rfl (by decide +kernel) rfl rfl (Nat.le_of_ble_eq_true rfl) [.int 0, .ref q0, .ref q1, .ref q2, .ref q3, .ref q4, .ref q5, .ref q6, .ref q7, .ref q8, .ref q9, .ref q10, .ref q11, .ref q12, .ref q13, .ref q14, .ref q15, .ref q16] rfl dX1_init_142 rfl ?_
  refine i_aload_n X dX1_init_145 rfl rfl ?_
  refine i_get X (j := 13) (v := .ref q12) (ci := 1) rfl (by decide) rfl uw_1 gl_RX1_53 rfl dX1_init_146 rfl ?_
  refine i_ldc X dX1_init_149 kc_RX1_69 rfl ?_
  refine i_eq (V' := [(h0, .inr (1, [.int 0, .ref q0, .ref q1, .ref q2, .ref q3, .ref q4, .ref q5, .ref q6, .ref q7, .ref q8, .ref q9, .ref q10, .ref q11, .ref q12, .ref q13, .ref q14, .ref q15, .ref q16])), (q0, .inl (cA 1, 60, .inl (fun _ => 0))), (q1, .inl (cA 1, 60, .inl (fun _ => 0))), (q2, .inl (cA 1, 60, .inl (fun _ => 0))), (q3, .inl (cA 1, 60, .inl (fun _ => 0))), (q4, .inl (cA 1, 60, .inl (fun _ => 0))), (q5, .inl (cA 1, 60, .inl (fun _ => 0))), (q6, .inl (cA 1, 60, .inl (fun _ => 0))), (q7, .inl (cA 1, 60, .inl (fun _ => 0))), (q8, .inl (cA 1, 240, .inl (fun _ => 0))), (q9, .inl (cA 1, 60, .inl (fun _ => 0))), (q10, .inl (cA 1, 120, .inl (fun _ => 0))), (q11, .inl (cA 4, 120, .inr (.inl (fun _ => 0)))), (q12, .inl (cA 1, 10, .inl (fun _ => 0))), (q13, .inl (cA 1, 10, .inl (fun _ => 0))), (q14, .inl (cA 1, 10, .inl (fun _ => 0))), (q15, .inl (cA 1, 10, .inl (fun _ => 0))), (q16, .inl (cA 3, 2, .inl (fun _ => 0)))]) (by (try simp only [List.nil_append, List.cons_append, List.append_assoc])) ?_
  refine i_fill X (i := 13) (N := 10) (f := fun _ => 0) (V' := [(h0, .inr (1, [.int 0, .ref q0, .ref q1, .ref q2, .ref q3, .ref q4, .ref q5, .ref q6, .ref q7, .ref q8, .ref q9, .ref q10, .ref q11, .ref q12, .ref q13, .ref q14, .ref q15, .ref q16])), (q0, .inl (cA 1, 60, .inl (fun _ => 0))), (q1, .inl (cA 1, 60, .inl (fun _ => 0))), (q2, .inl (cA 1, 60, .inl (fun _ => 0))), (q3, .inl (cA 1, 60, .inl (fun _ => 0))), (q4, .inl (cA 1, 60, .inl (fun _ => 0))), (q5, .inl (cA 1, 60, .inl (fun _ => 0))), (q6, .inl (cA 1, 60, .inl (fun _ => 0))), (q7, .inl (cA 1, 60, .inl (fun _ => 0))), (q8, .inl (cA 1, 240, .inl (fun _ => 0))), (q9, .inl (cA 1, 60, .inl (fun _ => 0))), (q10, .inl (cA 1, 120, .inl (fun _ => 0))), (q11, .inl (cA 4, 120, .inr (.inl (fun _ => 0)))), (q12, .inl (cA 1, 10, .inl (fil (fun _ => 0) 10 (-1000000)))), (q13, .inl (cA 1, 10, .inl (fun _ => 0))), (q14, .inl (cA 1, 10, .inl (fun _ => 0))), (q15, .inl (cA 1, 10, .inl (fun _ => 0))), (q16, .inl (cA 3, 2, .inl (fun _ => 0)))]) (by decide) rfl rfl ml_RX1_70 (by rw [hR1]; exact ⟨Nat.le_of_ble_eq_true rfl, Nat.le_of_ble_eq_true rfl, Nat.le_of_ble_eq_true rfl, Nat.le_of_ble_eq_true rfl⟩) dX1_init_151 rfl (Nat.le_of_ble_eq_true rfl) ?_
  refine i_eq (V' := ws_Game cA h0 (fun k => [q0, q1, q2, q3, q4, q5, q6, q7, q8, q9, q10, q11, q12, q13, q14, q15, q16].getD k 0)) (by (try simp only [List.nil_append, List.cons_append, List.append_assoc]); rfl) ?_
  exact hret _ _ _ dX1_init_154
