theorem Inv.trc {σ σ2 : St} {m : Nat} {f : Nat → Nat} (h : Inv σ) (hf : fr [62, 80] [] [12, 45] σ σ2) (h1 : σ2.2.2.1 12 = nI m) (h2 : ∀ i, i < m → σ2.1 62 i = nI (f i)) (h3 : σ2.2.2.1 45 = nI m) (h4 : ∀ i, i < m → σ2.1 80 i = nI (f i)) (hm : m ≤ 16) : Inv σ2 := by
  obtain ⟨⟨a1, a2, a3, a4, n, T, sh, R, D, hg, hp, hr⟩, b, c⟩ := h
  have F : ∀ k, k ∉ [12, 45] → σ2.2.2.1 k = σ.2.2.1 k := hf.2.2.1
  refine ⟨⟨a1.fr hf (by decide), ?_, ⟨by rw [F 9 (by decide)]; exact a3.1, by rw [F 10 (by decide)]; exact a3.2⟩, ⟨m, hm, h1, h3, fun i hi => by rw [h2 i hi, h4 i hi]⟩, n, T, sh, R, D, hg.fr hf (by decide) (by decide), hp.fr hf (by decide) (by decide), hr.fr hf (by decide) (by decide) (by decide) (by decide) (by decide) (by decide)⟩, b.fr hf (by decide) (by decide) (by decide) (by decide), ?_⟩
  · unfold iFnd at a2 ⊢
    rw [F 1 (by decide), F 40 (by decide)]
    exact a2
  · rw [F 0 (by decide), F 42 (by decide)]; exact c
theorem st_ask (x1 x2 : Int32) {σ : St} (hI : Inv σ) : stq (f_HG_ask x1 x2) (f_HM_ask x1 x2) σ := by
  obtain ⟨n, T, sh, R, D, hg, _, _⟩ := hI.1.2.2.2.2
  have n60 := hg.n60
  unfold stq f_HG_ask f_HM_ask
  rw [q_isPlaceC hg, bd_s]
  by_cases c : x1 < 0 ∨ nI n ≤ x1
  · rw [if_pos c, if_pos rfl]
    refine ⟨_, _, σ, rfl, ?_, hI⟩
    rw [q_isPlaceM hg, bd_s, if_pos c, if_pos rfl]
  · rw [if_neg c, if_neg i10]
    obtain ⟨p, hp, rfl⟩ := ixn (by omega) c
    by_cases d : x2 < 0 ∨ (2 : Int32) ≤ x2
    · have : ∀ A : Option (Int64 × St), (if x2 < 0 then some ((-9000000000000000001 : Int64), σ) else if x2 ≤ 1 then A else some (-9000000000000000001, σ)) = some (-9000000000000000001, σ) := by
        intro A
        by_cases y : x2 < 0
        · rw [if_pos y]
        · rw [if_neg y, if_neg (fun z => (le_lt1.mp z) (d.resolve_left y))]
      rw [this]
      refine ⟨_, _, σ, rfl, ?_, hI⟩
      rw [q_isPlaceM hg, bd_s, if_neg c, if_neg i10, in01, bd_s, if_pos d, if_pos rfl]
    · rw [if_neg (fun z => d (Or.inl z)), if_pos (le_lt1.mpr (fun z => d (Or.inr z)))]
      -- the class's beginning
      have f0 : fr [62] [] [12] σ (stF σ 12 0) := fr.rf.F (by simp) _
      obtain ⟨g0, gr0⟩ := gI_fC hg f0
      have tc0 : TC 0 (fun _ => 0) (stF σ 12 0) := ⟨by rw [sF3, if_pos rfl]; rfl, fun i hi => by omega⟩
      -- the reference's frame
      have MM : ∀ s, gI s n T → (bd (f_HM_isPlace (nI p) s) fun r3 σ2 => if r3 = 0 then (some ((-9000000000000000001), σ2)) else (bd (f_HM_in x2.toInt64 0 1 σ2) fun r7 σ6 => if r7 = 0 then (some ((-9000000000000000001), σ6)) else (lE (stF σ6 45 0) fun σ9 => bd (f_HM_kindOf (nI p) σ9) fun r13 σ12 => if x2 = 0 then (if r13 = 1 then (bd (f_HM_size11 (nI p) σ12) fun r42 σ41 => some (r42, σ41)) else (if r13 = 2 then (bd (f_HM_size12 (nI p) σ12) fun r39 σ38 => some (r39, σ38)) else (if r13 = 3 then (bd (f_HM_size13 (nI p) σ12) fun r36 σ35 => some (r36, σ35)) else (if r13 = 4 then (bd (f_HM_size14 (nI p) σ12) fun r33 σ32 => some (r33, σ32)) else (bd (f_HM_size15 (nI p) σ12) fun r30 σ29 => some (r30, σ29)))))) else (if r13 = 2 then (f_HM_ask_b105 (nI p) σ12) else (if r13 = 3 then (f_HM_ask_b105 (nI p) σ12) else (if r13 = 5 then (bd (f_HM_mark22 (nI p) σ12) fun r23 σ22 => some (r23, σ22)) else (bd (f_HM_mark20 (nI p) σ12) fun r20 σ19 => some (r20, σ19)))))))) = (if x2 = 0 then (if nI (kN T p) = 1 then (bd (f_HM_size11 (nI p) (stF s 45 0)) fun r42 σ41 => some (r42, σ41)) else (if nI (kN T p) = 2 then (bd (f_HM_size12 (nI p) (stF s 45 0)) fun r39 σ38 => some (r39, σ38)) else (if nI (kN T p) = 3 then (bd (f_HM_size13 (nI p) (stF s 45 0)) fun r36 σ35 => some (r36, σ35)) else (if nI (kN T p) = 4 then (bd (f_HM_size14 (nI p) (stF s 45 0)) fun r33 σ32 => some (r33, σ32)) else (bd (f_HM_size15 (nI p) (stF s 45 0)) fun r30 σ29 => some (r30, σ29)))))) else (if nI (kN T p) = 2 then (f_HM_ask_b105 (nI p) (stF s 45 0)) else (if nI (kN T p) = 3 then (f_HM_ask_b105 (nI p) (stF s 45 0)) else (if nI (kN T p) = 5 then (bd (f_HM_mark22 (nI p) (stF s 45 0)) fun r23 σ22 => some (r23, σ22)) else (bd (f_HM_mark20 (nI p) (stF s 45 0)) fun r20 σ19 => some (r20, σ19)))))) := by
        intro s hs
        have h45 : gI (stF s 45 0) n T := hs.fr (fr.rf.F (ka := []) (kl := []) (kf := [45]) (by decide) 0) (by decide) (by decide)
        rw [q_isPlaceM hs, bd_s, if_neg c, if_neg i10, in01, bd_s, if_neg d, if_neg i10, lE_d, q_kindM h45 hp, bd_s]
      have fin : ∀ (v : Int64) (m : Nat) (f : Nat → Nat) (A : Option (Int64 × St)) (B : St → Option (Int64 × St)), m ≤ 16 → (∃ t, A = some (v, t) ∧ fr [62] [] [12] (stF σ 12 0) t ∧ TC m f t) → (∀ s, gI s n T → TM 0 (fun _ => 0) s → ∃ t, B s = some (v, t) ∧ fr [80] [] [45] s t ∧ TM m f t) → ∃ t u, A = some (v, t) ∧ B (stF t 45 0) = some (v, u) ∧ gI t n T ∧ Inv u := by
        intro v m f A B hm hA hB
        obtain ⟨t, a1, a2, a3⟩ := hA
        have gt : gI t n T := g0.fr a2 (by decide) (by decide)
        have g45 : gI (stF t 45 0) n T := gt.fr (fr.rf.F (ka := []) (kl := []) (kf := [45]) (by decide) 0) (by decide) (by decide)
        obtain ⟨u, b1, b2, b3⟩ := hB (stF t 45 0) g45 ⟨by rw [sF3, if_pos rfl]; rfl, fun i hi => by omega⟩
        refine ⟨t, u, a1, b1, gt, ?_⟩
        have hf : fr [62, 80] [] [12, 45] σ u := (((f0.mo (by decide) (by decide) (by decide)).tr (a2.mo (by decide) (by decide) (by decide))).F (by decide) _).tr (b2.mo (by decide) (by decide) (by decide))
        refine hI.trc hf (m := m) (f := f) ?_ (fun i hi => ?_) b3.1 b3.2 hm
        · rw [b2.2.2.1 12 (by decide), sF3, if_neg (by decide)]; exact a3.1
        · rw [b2.1 62 (by decide), sF1]; exact a3.2 i hi
      have k5 := kN_5 T p
      have kk : kN T p = 1 ∨ kN T p = 2 ∨ kN T p = 3 ∨ kN T p = 4 ∨ kN T p = 5 := by omega
      have t3 : kN T p = 2 ∨ kN T p = 3 → T 3 p < 10 := by
        intro hk
        have k := (hg.1.K hp).2
        unfold kN at hk
        by_cases y0 : T 1 p = 0
        · rw [if_pos y0] at hk
          exfalso
          split at hk <;> omega
        · rw [if_neg y0] at hk
          by_cases y1 : T 1 p = 1
          · rw [if_pos y1] at hk; omega
          · omega
      have sz := szB g0 hp
      rw [gr0] at sz
      have done : ∀ (v : Int64) (t u : St) (A : Option (Int64 × St)) (B : St → Option (Int64 × St)), A = some (v, t) → B t = some (v, u) → Inv u → ∃ r σ1 σ2, A = some (r, σ1) ∧ B σ1 = some (r, σ2) ∧ Inv σ2 := fun v t u A B h1 h2 h3 => ⟨v, t, u, h1, h2, h3⟩
      by_cases x0 : x2 = 0
      · rw [if_pos x0]
        have cA : ∀ v t, f_Asker_runBodyR 12 (rR σ 0) (nI (10 + kN T p)) (nI p) 0 (stF σ 12 0) = some (v, t) → (bd (f_Asker_askSize (rR σ 0) (nI p) σ) fun r13 σ12 => some (r13, σ12)) = some (v, t) := by
          intro v t e
          unfold f_Asker_askSize
          rw [hg.g, ck_t, lE_d, sz, bd_s, e, bd_s, bd_s]
        rcases kk with e | e | e | e | e
        · obtain ⟨t, u, h1, h2, h3, h4⟩ := fin _ _ _ _ (f_HM_size11 (nI p)) (by omega) (rb11 (d := 10) (dp := 0) g0 hp tc0 (by omega) (by omega)) (fun s hs ht => m11 hs hp ht (by omega))
          refine ⟨_, t, u, cA _ _ (by rw [e, ← gr0]; exact h1), ?_, h4⟩
          rw [MM t h3, if_pos x0, e, if_pos (by decide), h2, bd_s]
        · obtain ⟨t, u, h1, h2, h3, h4⟩ := fin _ _ _ _ (f_HM_size12 (nI p)) (by omega) (rb12 (d := 9) (dp := 0) g0 hp (Or.inl e) tc0 (by omega) (by omega)) (fun s hs ht => m12 hs hp ht (by omega))
          refine ⟨_, t, u, cA _ _ (by rw [e, ← gr0]; exact h1), ?_, h4⟩
          rw [MM t h3, if_pos x0, e, if_neg (by decide), if_pos (by decide), h2, bd_s]
        · obtain ⟨t, u, h1, h2, h3, h4⟩ := fin _ _ _ _ (f_HM_size13 (nI p)) (by omega) (rb13 (d := 8) (dp := 0) g0 hp e (t3 (Or.inr e)) tc0 (by omega) (by omega)) (fun s hs ht => m13 hs hp (t3 (Or.inr e)) ht (by omega))
          refine ⟨_, t, u, cA _ _ (by rw [e, ← gr0]; exact h1), ?_, h4⟩
          rw [MM t h3, if_pos x0, e, if_neg (by decide), if_neg (by decide), if_pos (by decide), h2, bd_s]
        · obtain ⟨t, u, h1, h2, h3, h4⟩ := fin _ _ _ _ (f_HM_size14 (nI p)) (by omega) (rb14 (d := 11) (dp := 0) g0 hp tc0 (by omega) (by omega)) (fun s hs ht => m14 hs hp ht (by omega))
          refine ⟨_, t, u, cA _ _ (by rw [e, ← gr0]; exact h1), ?_, h4⟩
          rw [MM t h3, if_pos x0, e, if_neg (by decide), if_neg (by decide), if_neg (by decide), if_pos (by decide), h2, bd_s]
        · obtain ⟨t, u, h1, h2, h3, h4⟩ := fin _ _ _ _ (f_HM_size15 (nI p)) (by omega) (rb15 (d := 10) (dp := 0) g0 hp tc0 (by omega) (by omega)) (fun s hs ht => m15 hs hp ht (by omega))
          refine ⟨_, t, u, cA _ _ (by rw [e, ← gr0]; exact h1), ?_, h4⟩
          rw [MM t h3, if_pos x0, e, if_neg (by decide), if_neg (by decide), if_neg (by decide), if_neg (by decide), h2, bd_s]
      · rw [if_neg x0]
        have mkK : f_Asker_markBody (rR σ 0) (nI p) (stF σ 12 0) = some (if kN T p = 2 ∨ kN T p = 3 then nI 21 else if kN T p = 5 then nI 22 else nI 20, stF σ 12 0) := by
          unfold f_Asker_markBody
          have kc := q_kindC g0 hp
          rw [gr0] at kc
          rw [hg.g, ck_t, kc, bd_s]
          rcases kk with e | e | e | e | e <;> rw [e] <;> rfl
        have cA : ∀ v t b, b = (if kN T p = 2 ∨ kN T p = 3 then nI 21 else if kN T p = 5 then nI 22 else nI 20) → f_Asker_runBodyR 12 (rR σ 0) b (nI p) 0 (stF σ 12 0) = some (v, t) → (bd (f_Asker_askMark (rR σ 0) (nI p) σ) fun r13 σ12 => some (r13, σ12)) = some (v, t) := by
          intro v t b hb e
          unfold f_Asker_askMark
          rw [hg.g, ck_t, lE_d, mkK, bd_s, ← hb, e, bd_s, bd_s]
        have two : ∀ hk : kN T p = 2 ∨ kN T p = 3, ∃ t u, f_Asker_runBodyR 12 (rR σ 0) (nI 21) (nI p) 0 (stF σ 12 0) = some ((nI p).toInt64 + 100 * (nz (T 3 p)).toInt64, t) ∧ f_HM_mark21 (nI p) (stF t 45 0) = some ((nI p).toInt64 + 100 * (nz (T 3 p)).toInt64, u) ∧ gI t n T ∧ Inv u := by
          intro hk
          obtain ⟨t, u, h1, h2, h3, h4⟩ := fin _ _ _ _ (f_HM_mark21 (nI p)) (by omega) (rb21 (d := 10) (dp := 0) g0 hp tc0 (by omega) (by omega)) (fun s hs ht => m21 hs hp ht (by omega))
          exact ⟨t, u, by rw [← gr0]; exact h1, h2, h3, h4⟩
        have one : ∃ t u, f_Asker_runBodyR 12 (rR σ 0) (nI 20) (nI p) 0 (stF σ 12 0) = some ((nI p).toInt64, t) ∧ f_HM_mark20 (nI p) (stF t 45 0) = some ((nI p).toInt64, u) ∧ gI t n T ∧ Inv u := by
          obtain ⟨t, u, h1, h2, h3, h4⟩ := fin _ _ _ _ (f_HM_mark20 (nI p)) (by omega) (rb20 (d := 11) (dp := 0) g0 hp tc0 (by omega) (by omega)) (fun s hs ht => m20 ht (by omega))
          exact ⟨t, u, by rw [← gr0]; exact h1, h2, h3, h4⟩
        rcases kk with e | e | e | e | e
        · obtain ⟨t, u, h1, h2, h3, h4⟩ := one
          refine ⟨_, t, u, cA _ _ _ (by rw [e]; rfl) h1, ?_, h4⟩
          rw [MM t h3, if_neg x0, e, if_neg (by decide), if_neg (by decide), if_neg (by decide), h2, bd_s]
        · obtain ⟨t, u, h1, h2, h3, h4⟩ := two (Or.inl e)
          refine ⟨_, t, u, cA _ _ _ (by rw [e]; rfl) h1, ?_, h4⟩
          rw [MM t h3, if_neg x0, e, if_pos (by decide), f_HM_ask_b105, h2, bd_s]
        · obtain ⟨t, u, h1, h2, h3, h4⟩ := two (Or.inr e)
          refine ⟨_, t, u, cA _ _ _ (by rw [e]; rfl) h1, ?_, h4⟩
          rw [MM t h3, if_neg x0, e, if_neg (by decide), if_pos (by decide), f_HM_ask_b105, h2, bd_s]
        · obtain ⟨t, u, h1, h2, h3, h4⟩ := one
          refine ⟨_, t, u, cA _ _ _ (by rw [e]; rfl) h1, ?_, h4⟩
          rw [MM t h3, if_neg x0, e, if_neg (by decide), if_neg (by decide), if_neg (by decide), h2, bd_s]
        · obtain ⟨t, u, h1, h2, h3, h4⟩ := fin _ _ _ _ (f_HM_mark22 (nI p)) (by omega) (rb22 (d := 9) (dp := 0) g0 hp e tc0 (by omega) (by omega)) (fun s hs ht => m22 hs hp ht (by omega))
          refine ⟨_, t, u, cA _ _ _ (by rw [e]) (by rw [← gr0]; exact h1), ?_, h4⟩
          rw [MM t h3, if_neg x0, e, if_neg (by decide), if_neg (by decide), if_pos (by decide), h2, bd_s]
/-! the start -/
theorem s0_0 (k i : Nat) (h : k ≠ 23 ∧ k ≠ 41 ∧ k ≠ 47 ∧ k ≠ 63 ∧ k ≠ 76) : s0.1 k i = 0 := by
  show s0A k i = 0
  unfold s0A
  rw [if_neg h.1, if_neg h.2.1, if_neg h.2.2.1, if_neg h.2.2.2.1, if_neg h.2.2.2.2]
theorem Inv_0 : Inv s0 := by
  have r47 : ∀ r, r < 8 → s0.1 63 r = -1 ∧ s0.1 47 r = -1000000 := by decide +kernel
  have r13 : ∀ s, s < 10 → s0.1 23 s = -1000000 ∧ s0.1 76 s = -1 := by decide +kernel
  refine ⟨⟨fun r hr => Or.inl (r47 r hr), rfl, ⟨rfl, rfl⟩, ⟨0, by omega, rfl, rfl, fun i hi => by omega⟩, 0, T0, fun _ _ => 0, 0, fun _ _ => 0, ⟨wf_0, Or.inl ⟨rfl, rfl⟩, ?_, ?_⟩, fun s a hs h13 => absurd rfl h13, ⟨by omega, rfl, rfl, fun h => by omega, fun r s h => by omega, fun w p hw hp => by omega⟩⟩, ⟨0, by omega, rfl, rfl, fun i hi => by omega⟩, rfl⟩
  · show cG 10 0 T0 s0
    refine ⟨fun j p _ _ hp => by omega, fun p hp => by omega, fun i hi => absurd rfl hi, fun j s j1 j2 hs => ?_, fun w p hw hp => by omega, fun w hw => Or.inr ⟨?_, fun ⟨p, hp, _⟩ => by omega⟩, rfl⟩
    · have : j = 13 ∨ j = 14 ∨ j = 15 ∨ j = 16 := by omega
      rcases this with rfl | rfl | rfl | rfl
      · exact (r13 s hs).1
      · exact s0_0 _ _ (by decide)
      · exact s0_0 _ _ (by decide)
      · exact s0_0 _ _ (by decide)
    · exact s0_0 _ _ (by decide)
  · refine ⟨fun j p _ _ hp => by omega, fun p k hp => by omega, fun s hs => (r13 s hs).2, fun s hs => s0_0 _ _ (by decide), fun p _ hp => by omega, rfl⟩
