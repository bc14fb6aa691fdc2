def nv (B : Nat → Nat) (s n : Nat) : Nat := if n = 0 then 0 else if n = 1 then B s - 48 else 10 * (B s - 48) + (B (s + 1) - 48)
theorem dgB_i {b : Nat} (h : dgB b = true) : 48 ≤ b ∧ b ≤ 57 := by simpa [dgB] using h
theorem q_b81 {σ : St} {s e : Nat} (h4 : σ.2.2.1 4 = nI s) (h6 : σ.2.2.1 6 = nI e) (hse : s ≤ e) (he : e ≤ 600) : f_Tape_stepOverNumber_b81 σ = some (stF σ 3 (nI (if e - s ≤ 2 then 4 else 7))) := by
  unfold f_Tape_stepOverNumber_b81 rF
  rw [h4, h6, pk_sub hse]
  by_cases c : e - s ≤ 2
  · rw [if_neg (show ¬ (2 : Int32) < nI (e - s) from nI_nlt (a := 2) c (by decide)), if_pos c, lE_d]; rfl
  · rw [if_pos (show (2 : Int32) < nI (e - s) from nI_lt (a := 2) (by omega) (by omega)), if_neg c, lE_d]; rfl
theorem num_loop {B : Nat → Nat} {T s : Nat} : ∀ (m q f : Nat) (σ : St), tp B T σ → σ.2.2.1 4 = nI s → s ≤ q → q + m = T → m < f → σ.2.2.1 6 = nI q → σ.2.2.1 5 = nI (nv B s (q - s)) → (∀ j, s ≤ j → j < q → 48 ≤ B j ∧ B j ≤ 57) → ∃ σ', lp (fun _ => none) f_Tape_stepOverNumber_b5 f σ = some σ' ∧ fr [] [] [3, 5, 6] σ σ' ∧ σ'.2.2.1 3 = nI (if spn dgB B m q - s ≤ 2 then 4 else 7) ∧ σ'.2.2.1 5 = nI (nv B s (spn dgB B m q - s)) ∧ σ'.2.2.1 6 = nI (spn dgB B m q)
  | 0, q, f + 1, σ, ht, h4, hs, hq, _, h6, h5, hd => by
    have h600 := ht.1
    refine ⟨stF σ 3 (nI (if spn dgB B 0 q - s ≤ 2 then 4 else 7)), ?_, fr.rf.F (by decide) _, by rw [sF3, if_pos rfl], by rw [sF3, if_neg (by decide)]; exact h5, by rw [sF3, if_neg (by decide)]; exact h6⟩
    rw [lp_s]
    unfold f_Tape_stepOverNumber_b5 rF
    rw [h6, ht.2.1, if_pos (nI_le (by omega) (by omega)), q_b81 h4 h6 hs (by omega)]
    rfl
  | m + 1, q, f + 1, σ, ht, h4, hs, hq, hf, h6, h5, hd => by
    have h600 := ht.1
    obtain ⟨b1, b2, b3⟩ := ht.2.2.2 q (by omega)
    by_cases e1 : dgB (B q) = true
    · have hb := dgB_i e1
      have e5 : ∃ σ1 : St, fr [] [] [5] σ σ1 ∧ σ1.2.2.1 5 = nI (nv B s (q + 1 - s)) ∧ ∀ K : St → Option St, f_Tape_stepOverNumber_b5 K σ = K (stF σ1 6 (nI (q + 1))) := by
        have hnv : q - s < 2 → nv B s (q + 1 - s) = nv B s (q - s) * 10 + B q - 48 := by
          intro hlt
          unfold nv
          have : q - s = 0 ∨ q - s = 1 := by omega
          rcases this with z | z
          · have : q = s := by omega
            subst this
            simp
          · have z2 : q + 1 - s = 2 := by omega
            have : q = s + 1 := by omega
            subst this
            rw [z, z2]
            have := hd s (by omega) (by omega)
            simp
            omega
        have hnv2 : 2 ≤ q - s → nv B s (q + 1 - s) = nv B s (q - s) := by
          intro hge
          unfold nv
          rw [if_neg (by omega), if_neg (by omega), if_neg (by omega), if_neg (by omega)]
        by_cases c : q - s < 2
        · refine ⟨stF σ 5 (nI (nv B s (q + 1 - s))), fr.rf.F (by decide) _, by rw [sF3, if_pos rfl], fun K => ?_⟩
          unfold f_Tape_stepOverNumber_b5 f_Tape_stepOverNumber_b68 rF rI
          rw [h6, ht.2.1, if_neg (nI_ge (by omega) (by omega)), ck_p (ib_nI (by omega) (by decide)), nI_clamp (by omega), b3, q_isFigure b1, bd_s, if_pos e1, if_neg (by decide), h6, h4, pk_sub hs, if_neg (show ¬ (2 : Int32) ≤ nI (q - s) from nI_ge (b := 2) c (by decide)), ck_p (ib_nI (by omega) (by decide)), lE_d, lE_d, nI_clamp (by omega), h5, b3, (cl _ b1).2.2 e1, show (10 : Int32) = nI 10 from rfl, pk_mul, nI_add, show (48 : Int32) = nI 48 from rfl, pk_sub (by omega), ← hnv c]
          rw [sF3, if_neg (by decide), h6, nI_1]
        · refine ⟨σ, fr.rf, by rw [h5, hnv2 (by omega)], fun K => ?_⟩
          unfold f_Tape_stepOverNumber_b5 f_Tape_stepOverNumber_b68 rF rI
          rw [h6, ht.2.1, if_neg (nI_ge (by omega) (by omega)), ck_p (ib_nI (by omega) (by decide)), nI_clamp (by omega), b3, q_isFigure b1, bd_s, if_pos e1, if_neg (by decide), h6, h4, pk_sub hs, if_pos (show (2 : Int32) ≤ nI (q - s) from nI_le (a := 2) (by omega) (by omega)), lE_d, nI_1]
      obtain ⟨σ1, f1, f2, f3⟩ := e5
      obtain ⟨σ', g1, g2, g3, g4, g5⟩ := num_loop (s := s) m (q + 1) f (stF σ1 6 (nI (q + 1))) (ht.fr ((f1.mo (ka' := []) (kl' := []) (kf' := [5, 6]) (by decide) (by decide) (by decide)).F (by decide) _) (by decide) (by decide) (by decide) (by decide)) (by rw [sF3, if_neg (by decide), f1.2.2.1 4 (by decide)]; exact h4) (by omega) (by omega) (by omega) (by rw [sF3, if_pos rfl]) (by rw [sF3, if_neg (by decide)]; exact f2) (fun j h1 h2 => by
        by_cases z : j = q
        · rw [z]; exact hb
        · exact hd j h1 (by omega))
      unfold spn
      rw [if_pos e1]
      refine ⟨σ', ?_, ((f1.mo (ka' := []) (kl' := []) (kf' := [3, 5, 6]) (by decide) (by decide) (by decide)).F (by decide) _).tr g2, g3, g4, g5⟩
      rw [lp_s, f3]
      exact g1
    · refine ⟨stF σ 3 (nI (if q - s ≤ 2 then 4 else 7)), ?_, fr.rf.F (by decide) _, ?_, ?_, ?_⟩
      · rw [lp_s]
        unfold f_Tape_stepOverNumber_b5 rF rI
        rw [h6, ht.2.1, if_neg (nI_ge (by omega) (by omega)), ck_p (ib_nI (by omega) (by decide)), nI_clamp (by omega), b3, q_isFigure b1, bd_s, if_neg e1, if_pos rfl, q_b81 h4 h6 hs (by omega)]
      · unfold spn; rw [if_neg e1, sF3, if_pos rfl]
      · unfold spn; rw [if_neg e1, sF3, if_neg (by decide)]; exact h5
      · unfold spn; rw [if_neg e1, sF3, if_neg (by decide)]; exact h6
theorem ltB_not_dg {b : Nat} (h : ltB b = true) : ¬ dgB b = true := by
  intro h2
  have h1 : 97 ≤ b ∧ b ≤ 122 := by simpa [ltB] using h
  have := dgB_i h2
  omega
/-- the class's next token, from the place q on -/
theorem q_step {B : Nat → Nat} {T q : Nat} {σ : St} (ht : tp B T σ) (hq : q ≤ T) (h6 : σ.2.2.1 6 = nI q) : ∃ σ', f_Tape_step σ = some σ' ∧ fr [] [] [3, 4, 5, 6] σ σ' ∧ σ'.2.2.1 3 = nI (tC B T q) ∧ σ'.2.2.1 4 = nI (tS B T q) ∧ σ'.2.2.1 6 = nI (tE B T q) ∧ (tC B T q = 4 → σ'.2.2.1 5 = nI (tV B T q)) := by
  have h600 := ht.1
  have hS1 : q ≤ tS B T q := spn_ge _ _ _ _
  have hS2 : tS B T q ≤ T := by have := spn_le wsB B (T - q) q; unfold tS; omega
  have e0 : f_Tape_step σ = f_Tape_step_b52 (stF σ 6 (nI (tS B T q))) := by
    unfold f_Tape_step f_Tape_step_l0
    exact step_ws (T - q) q FU σ ht (by omega) (by unfold FU; omega) h6
  rw [e0]
  obtain ⟨s, hs⟩ : ∃ s, s = tS B T q := ⟨_, rfl⟩
  rw [← hs] at hS1 hS2 ⊢
  have ht1 : tp B T (stF (stF σ 6 (nI s)) 4 (nI s)) := ht.fr ((fr.rf.F (ka := []) (kl := []) (kf := [4, 6]) (by decide) _).F (by decide) _) (by decide) (by decide) (by decide) (by decide)
  have hfr : fr [] [] [3, 4, 5, 6] σ (stF (stF σ 6 (nI s)) 4 (nI s)) := (fr.rf.F (by decide) _).F (by decide) _
  unfold f_Tape_step_b52 rF
  rw [show (stF σ 6 (nI s)).2.2.1 6 = nI s from by rw [sF3, if_pos rfl], lE_d]
  have a6 : (stF (stF σ 6 (nI s)) 4 (nI s)).2.2.1 6 = nI s := by rw [sF3, if_neg (by decide), sF3, if_pos rfl]
  have a4 : (stF (stF σ 6 (nI s)) 4 (nI s)).2.2.1 4 = nI s := by rw [sF3, if_pos rfl]
  generalize stF (stF σ 6 (nI s)) 4 (nI s) = σa at ht1 hfr a6 a4 ⊢
  rw [a6, ht1.2.1]
  by_cases c0 : s = T
  · rw [if_neg (show ¬ nI s < nI T from nI_nlt (by omega) (by omega)), lE_d]
    refine ⟨_, rfl, hfr.F (by decide) _, ?_, ?_, ?_, ?_⟩
    · rw [sF3, if_pos rfl]; unfold tC; rw [if_pos (by rw [← hs]; exact c0)]; rfl
    · rw [sF3, if_neg (by decide)]; exact a4
    · rw [sF3, if_neg (by decide), a6]; unfold tE; rw [if_pos (by rw [← hs]; exact c0), c0]
    · intro h; unfold tC at h; rw [if_pos (by rw [← hs]; exact c0)] at h; omega
  · obtain ⟨b1, b2, b3⟩ := ht1.2.2.2 s (by omega)
    have hsT : ¬ tS B T q = T := by rw [← hs]; exact c0
    unfold rI
    rw [if_pos (show nI s < nI T from nI_lt (by omega) (by omega)), ck_p (ib_nI (by omega) (by decide)), nI_clamp (by omega), b3, q_isLetter b1, bd_s]
    by_cases c1 : ltB (B s) = true
    · rw [if_pos c1, if_neg (by decide)]
      have := name_loop (B := B) (T := T) (s := s) (T - s) s FU σa ht1 a4 (Nat.le_refl _) (by omega) (by unfold FU; omega) a6
      have e2 : f_Tape_stepOverName σa = some (stF (stF σa 6 (nI (spn ltB B (T - s) s))) 3 (nI (wdK B s (spn ltB B (T - s) s - s)))) := this
      rw [e2, bv_s]
      have hE : tE B T q = spn ltB B (T - s) s := by unfold tE; rw [if_neg hsT, ← hs, if_pos c1]
      refine ⟨_, rfl, (hfr.F (by decide) _).F (by decide) _, ?_, ?_, ?_, ?_⟩
      · rw [sF3, if_pos rfl]; unfold tC; rw [if_neg hsT, hE, ← hs, if_pos c1]
      · rw [sF3, if_neg (by decide), sF3, if_neg (by decide)]; exact a4
      · rw [sF3, if_neg (by decide), sF3, if_pos rfl, hE]
      · intro h
        unfold tC at h
        rw [if_neg hsT, ← hs, if_pos c1] at h
        unfold wdK at h
        repeat' split at h
        all_goals omega
    · rw [if_neg c1, if_pos rfl, a6, ck_p (ib_nI (by omega) (by decide)), nI_clamp (by omega), b3, q_isFigure b1, bd_s]
      by_cases c2 : dgB (B s) = true
      · rw [if_pos c2, if_neg (by decide)]
        obtain ⟨σ', g1, g2, g3, g4, g5⟩ := num_loop (B := B) (T := T) (s := s) (T - s) s FU (stF σa 5 0) (ht1.fr (fr.rf.F (ka := []) (kl := []) (kf := [5]) (by decide) _) (by decide) (by decide) (by decide) (by decide)) (by rw [sF3, if_neg (by decide)]; exact a4) (Nat.le_refl _) (by omega) (by unfold FU; omega) (by rw [sF3, if_neg (by decide)]; exact a6) (by rw [sF3, if_pos rfl, Nat.sub_self]; rfl) (fun j h1 h2 => by omega)
        have e2 : f_Tape_stepOverNumber σa = some σ' := by unfold f_Tape_stepOverNumber f_Tape_stepOverNumber_l5; rw [lE_d]; exact g1
        rw [e2, bv_s]
        have hE : tE B T q = spn dgB B (T - s) s := by unfold tE; rw [if_neg hsT, ← hs, if_neg c1, if_pos c2]
        have hE1 : s + 1 ≤ spn dgB B (T - s) s := by
          rw [show T - s = (T - s - 1) + 1 by omega]
          unfold spn
          rw [if_pos c2]
          exact spn_ge _ _ _ _
        refine ⟨σ', rfl, (hfr.F (by decide) _).tr (g2.mo (by decide) (by decide) (by decide)), ?_, ?_, ?_, ?_⟩
        · rw [g3]; unfold tC; rw [if_neg hsT, hE, ← hs, if_neg c1, if_pos c2]
        · rw [g2.2.2.1 4 (by decide), sF3, if_neg (by decide)]; exact a4
        · rw [g5, hE]
        · intro _
          rw [g4]
          unfold tV nv
          rw [hE, ← hs]
          by_cases z : spn dgB B (T - s) s - s ≤ 1
          · rw [if_pos z, if_neg (by omega), if_pos (by omega)]
          · rw [if_neg z, if_neg (by omega), if_neg (by omega)]
      · rw [if_neg c2, if_pos rfl, a6, ck_p (ib_nI (by omega) (by decide)), nI_clamp (by omega), b3]
        simp only [(cb _ b1).2.2]
        have hE : tE B T q = s + 1 := by unfold tE; rw [if_neg hsT, ← hs, if_neg c1, if_neg c2]
        have h145 : ∀ x, f_Tape_step_b145 x σa = some (stF (stF σa 3 x) 6 (nI (s + 1))) := fun x => by
          unfold f_Tape_step_b145 rF
          rw [lE_d, lE_d, sF3 _ 3 _ 6, if_neg (by decide), a6, nI_1]
        by_cases c3 : B s = 59
        · rw [if_pos c3, h145]
          refine ⟨_, rfl, (hfr.F (by decide) _).F (by decide) _, ?_, ?_, ?_, ?_⟩
          · rw [sF3, if_neg (by decide), sF3, if_pos rfl]; unfold tC; rw [if_neg hsT, ← hs, if_neg c1, if_neg c2, if_pos c3]; rfl
          · rw [sF3, if_neg (by decide), sF3, if_neg (by decide)]; exact a4
          · rw [sF3, if_pos rfl, hE]
          · intro h; unfold tC at h; rw [if_neg hsT, ← hs, if_neg c1, if_neg c2, if_pos c3] at h; omega
        · rw [if_neg c3, h145]
          refine ⟨_, rfl, (hfr.F (by decide) _).F (by decide) _, ?_, ?_, ?_, ?_⟩
          · rw [sF3, if_neg (by decide), sF3, if_pos rfl]; unfold tC; rw [if_neg hsT, ← hs, if_neg c1, if_neg c2, if_neg c3]; rfl
          · rw [sF3, if_neg (by decide), sF3, if_neg (by decide)]; exact a4
          · rw [sF3, if_pos rfl, hE]
          · intro h; unfold tC at h; rw [if_neg hsT, ← hs, if_neg c1, if_neg c2, if_neg c3] at h; omega
