def kaT (g : Nat) : List Nat := (g + 17) :: kaC g
theorem kaT_i {g k : Nat} (h : k ∈ kaC g) : k ∈ kaT g := List.mem_cons_of_mem _ h
theorem c_empty {g : Nat} {σ : St} (hg : g = 10 ∨ g = 28) : ∃ σ', f_Game_empty g σ = some σ' ∧ fr (kaT g) [] [g + 10] σ σ' ∧ σ'.2.2.1 (g + 10) = nI 0 ∧ cR g 0 T0 σ' := by
  have key : isG g = true ∧ isI (g + 13) = true ∧ isI (g + 14) = true ∧ isI (g + 15) = true ∧ isI (g + 16) = true ∧ ln (g + 13) = 10 ∧ ln (g + 14) = 10 ∧ ln (g + 15) = 10 ∧ ln (g + 16) = 10 := by
    rcases hg with rfl | rfl <;> decide
  obtain ⟨k0, k1, k2, k3, k4, l1, l2, l3, l4⟩ := key
  obtain ⟨σ1, a1, a2, a3⟩ := q_fillI (-1000000) (stF σ (g + 10) 0) k1 (by omega)
  obtain ⟨σ2, b1, b2, b3⟩ := q_fillI 0 σ1 k2 (by omega)
  obtain ⟨σ3, c1, c2, c3⟩ := q_fillI 0 σ2 k3 (by omega)
  obtain ⟨σ4, d1, d2, d3⟩ := q_fillI 0 σ3 k4 (by omega)
  have e0 : ib 0 2 = true := by decide
  have e1 : ib 1 2 = true := by decide
  have f1 : (g + 13) ∈ kaT g := by simp [kaT, kaC]
  have f2 : (g + 14) ∈ kaT g := by simp [kaT, kaC]
  have f3 : (g + 15) ∈ kaT g := by simp [kaT, kaC]
  have f4 : (g + 16) ∈ kaT g := by simp [kaT, kaC]
  have f5 : (g + 17) ∈ kaT g := by simp [kaT]
  have sng : ∀ {k : Nat}, k ∈ kaT g → ∀ j ∈ [k], j ∈ kaT g := fun hk j hj => by
    rw [List.mem_singleton.mp hj]; exact hk
  have fr4 : fr (kaT g) [] [g + 10] σ σ4 := ((((fr.rf.F (by simp) _).tr (a2.mo (sng f1) (by simp) (by simp))).tr (b2.mo (sng f2) (by simp) (by simp))).tr (c2.mo (sng f3) (by simp) (by simp))).tr (d2.mo (sng f4) (by simp) (by simp))
  have n0 : (0 : Int32).toNatClampNeg = 0 := rfl
  have n1 : (1 : Int32).toNatClampNeg = 1 := rfl
  have v0 : vp_nar .boolean 0 = 0 := rfl
  refine ⟨stA (stA σ4 (g + 17) 0 0) (g + 17) 1 0, ?_, (fr4.A f5 _ _).A f5 _ _, ?_, ?_⟩
  · unfold f_Game_empty
    rw [k0, ck_t, lE_d, a1, bv_s, b1, bv_s, c1, bv_s, d1, bv_s, ck_p e0, lE_d, ck_p e1, lE_d, n0, n1, v0]
  · show σ4.2.2.1 (g + 10) = _
    rw [d2.2.2.1 _ (by simp), c2.2.2.1 _ (by simp), b2.2.2.1 _ (by simp), a2.2.2.1 _ (by simp), sF3, if_pos rfl]
    rfl
  · have r13 : ∀ s, s < 10 → σ4.1 (g + 13) s = -1000000 := fun s hs => by
      rw [d2.1 _ (by simp), c2.1 _ (by simp), b2.1 _ (by simp), a3 s, if_pos (by omega)]
    have r14 : ∀ s, s < 10 → σ4.1 (g + 14) s = 0 := fun s hs => by
      rw [d2.1 _ (by simp), c2.1 _ (by simp), b3 s, if_pos (by omega)]
    have r15 : ∀ s, s < 10 → σ4.1 (g + 15) s = 0 := fun s hs => by
      rw [d2.1 _ (by simp), c3 s, if_pos (by omega)]
    have r16 : ∀ s, s < 10 → σ4.1 (g + 16) s = 0 := fun s hs => by
      rw [d3 s, if_pos (by omega)]
    refine ⟨fun j p _ _ hp => by omega, fun p hp => by omega, fun i hi => absurd rfl hi, fun j s j1 j2 hs => ?_, ?_, ?_⟩
    · have : j = 13 ∨ j = 14 ∨ j = 15 ∨ j = 16 := by omega
      rcases this with rfl | rfl | rfl | rfl
      · rw [sA1, if_neg (by omega), sA1, if_neg (by omega), r13 s hs]; rfl
      · rw [sA1, if_neg (by omega), sA1, if_neg (by omega), r14 s hs]; rfl
      · rw [sA1, if_neg (by omega), sA1, if_neg (by omega), r15 s hs]; rfl
      · rw [sA1, if_neg (by omega), sA1, if_neg (by omega), r16 s hs]; rfl
    · rw [sA1, if_pos rfl, updD, if_neg (by omega), sA1, if_pos rfl, updD, if_pos rfl]
    · rw [sA1, if_pos rfl, updD, if_pos rfl]
theorem c_text {B : Nat → Nat} {L g : Nat} {σ : St} (hg : g = 10 ∨ g = 28) (ht : tp B L σ) : match rd B L with
  | .inl e => ∃ σ', f_Reader_readText g σ = some (0, σ') ∧ σ'.2.2.1 7 = nI e.1 ∧ σ'.2.2.1 8 = nI e.2 ∧ fr (kaT g) [] (kfC g) σ σ'
  | .inr s => ∃ σ1, f_Reader_readText g σ = (bv (f_Game_finish g σ1) fun σ14 => some (1, σ14)) ∧ σ1.2.2.1 (g + 10) = nI s.2.1 ∧ cR g s.2.1 s.2.2 σ1 ∧ fr (kaT g) [] (kfC g) σ σ1 := by
  have key : isG g = true ∧ 50 ∉ kaT g ∧ 66 ∉ kaT g ∧ 2 ∉ [g + 10] ∧ 41 ∉ [g + 10] ∧ (∀ k ∈ [g + 10], k ∈ kfC g) ∧ 6 ∈ kfC g ∧ (∀ k ∈ [3, 4, 5, 6], k ∈ kfC g) ∧ g + 10 ∉ [3, 4, 5, 6] ∧ 7 ∈ kfC g ∧ 8 ∈ kfC g := by
    rcases hg with rfl | rfl <;> decide
  obtain ⟨k0, k1, k2, k3, k4, k5, k6, k7, k8, k9, k10⟩ := key
  obtain ⟨σ1, a1, a2, a3, a4⟩ := @c_empty g σ hg
  have t1 : tp B L (stF σ1 6 0) := (ht.fr a2 k1 k2 k3 k4).fr (fr.rf.F (ka := []) (kl := []) (kf := [6]) (by decide) _) (by decide) (by decide) (by decide) (by decide)
  obtain ⟨σ2, b1, b2, b3, b4⟩ := @c_step B L 0 (stF σ1 6 0) t1 (by omega) (by rw [sF3, if_pos rfl]; rfl)
  have fr2 : fr (kaT g) [] (kfC g) σ σ2 := ((a2.mo (fun k h => h) (fun k h => h) k5).F k6 _).tr (b2.mo (by simp) (by simp) k7)
  have c2 : cS B L g (0, 0, T0) σ2 := by
    refine ⟨b3, Nat.zero_le _, b4, ?_, by show 0 ≤ 60; omega, wf1_0.2.2.2.2, ?_⟩
    · rw [b2.2.2.1 _ k8, sF3, if_neg (by omega)]; exact a3
    · obtain ⟨_, _, _, r4, r5, r6⟩ := a4
      have e : ∀ k, σ2.1 k = σ1.1 k := fun k => b2.1 k (by simp)
      refine ⟨fun j p _ _ hp => by simp only at hp; omega, fun p hp => by simp only at hp; omega, fun i hi => absurd rfl hi, fun j s j1 j2 hs => ?_, ?_, ?_⟩
      · rw [e]; exact r4 j s j1 j2 hs
      · rw [e]; exact r5
      · rw [e]; exact r6
  have hp := c_place (B := B) (L := L) hg 12 0 1000 0 0 (0, 0, T0) σ2 c2 (Or.inl ⟨rfl, rfl⟩) (by omega) (by omega) (by omega) (by omega)
  have e0 : f_Reader_readText g σ = bd (f_Reader_readPlaceR 12 g (nz 1000) (nI 0) (nI 0) σ2) fun r7 σ6 => if r7 = 0 then (some (0, σ6)) else (if (rF σ6 3) = 5 then (bv (f_Tape_step σ6) fun σ11 => if (rF σ11 3) = 6 then (bv (f_Game_finish g σ11) fun σ14 => some (1, σ14)) else (bd (f_Reader_fail 1 σ11) fun r17 σ16 => ck (isB r17) <| some (r17, σ16))) else (bd (f_Reader_fail 1 σ6) fun r21 σ20 => ck (isB r21) <| some (r21, σ20))) := by
    unfold f_Reader_readText f_Tape_rewind
    rw [k0, ck_t, a1, bv_s, lE_d, b1, bv_s, bv_s]
    rfl
  rw [e0]
  unfold rd
  cases hr : pl B L 12 0 1000 0 0 (0, 0, T0) with
  | inl e =>
    rw [hr] at hp
    obtain ⟨σ', x1, x2, x3, x4⟩ := hp
    rw [x1, bd_s, if_pos rfl]
    exact ⟨σ', rfl, x2, x3, fr2.tr (x4.mo (fun k h => kaT_i h) (fun k h => h) (fun k h => h))⟩
  | inr s =>
    rw [hr] at hp
    obtain ⟨σ3, x1, x2, x3⟩ := hp
    have fr3 : fr (kaT g) [] (kfC g) σ σ3 := fr2.tr (x3.mo (fun k h => kaT_i h) (fun k h => h) (fun k h => h))
    rw [x1, bd_s, if_neg (by decide)]
    obtain ⟨y1, y2, y3, y4, y5, y6, y7⟩ := x2
    have i5 : (nI (tC B L s.1) = 5) ↔ tC B L s.1 = 5 := by
      have := tC_lt B L s.1
      exact nI_eq (b := 5) (by omega) (by decide)
    have y30 := y3
    obtain ⟨y31, y32, y33, y34⟩ := y3
    show match (if tC B L s.1 ≠ 5 then (.inl (1, tS B L s.1) : RR) else if tC B L (tE B L s.1) ≠ 6 then .inl (1, tS B L (tE B L s.1)) else .inr s) with
      | .inl e => _
      | .inr s => _
    have hE := tE_le B y2
    simp only [rF, y31, i5]
    by_cases c5 : tC B L s.1 = 5
    · rw [if_pos c5, if_neg (show ¬ (tC B L s.1 ≠ 5) by simp [c5])]
      obtain ⟨σ4, z1, z2, z3, z4⟩ := c_step y1 hE.2 y33
      have fr4 : fr (kaT g) [] (kfC g) σ σ4 := fr3.tr (z2.mo (by simp) (by simp) k7)
      have z40 := z4
      have i6 : (nI (tC B L (tE B L s.1)) = 6) ↔ tC B L (tE B L s.1) = 6 := by
        have := tC_lt B L (tE B L s.1)
        exact nI_eq (b := 6) (by omega) (by decide)
      rw [z1, bv_s]
      simp only [z4.1, i6]
      by_cases c6 : tC B L (tE B L s.1) = 6
      · rw [if_pos c6, if_neg (show ¬ (tC B L (tE B L s.1) ≠ 6) by simp [c6])]
        have e : ∀ k, σ4.1 k = σ3.1 k := fun k => z2.1 k (by simp)
        refine ⟨σ4, rfl, ?_, ?_, fr4⟩
        · rw [z2.2.2.1 _ k8]; exact y4
        · obtain ⟨r1, r2, r3, r4, r5, r6⟩ := y7
          refine ⟨fun j p a b c => ?_, fun p a => ?_, fun i a => ?_, fun j s a b c => ?_, ?_, ?_⟩
          · rw [e]; exact r1 j p a b c
          · rw [e]; exact r2 p a
          · rw [e]; exact r3 i a
          · rw [e]; exact r4 j s a b c
          · rw [e]; exact r5
          · rw [e]; exact r6
      · rw [if_neg c6, if_pos c6]
        refine ⟨stF (stF σ4 7 1) 8 (rF σ4 4), rfl, ?_, ?_, (fr4.F k9 _).F k10 _⟩
        · rw [sF3, if_neg (by decide), sF3, if_pos rfl]; rfl
        · rw [sF3, if_pos rfl]; exact z40.2.1
    · rw [if_neg c5, if_pos c5]
      refine ⟨stF (stF σ3 7 1) 8 (rF σ3 4), rfl, ?_, ?_, (fr3.F k9 _).F k10 _⟩
      · rw [sF3, if_neg (by decide), sF3, if_pos rfl]; rfl
      · rw [sF3, if_pos rfl]; exact y32
