theorem q_isHeld {g n p : Nat} {T : TT} {σ : St} (hg : isG g = true) (hW : wf n T) (hp : p < n) (h1 : σ.1 (g + 1) p = nz (T 1 p)) : f_Game_isHeld g (nI p) σ = some (if T 1 p = 2 ∨ T 1 p = 3 then 1 else 0, σ) := by
  have n60 : n ≤ 60 := hW.2.1
  have k := (hW.K hp).2
  have b1 : ib (nI p) 60 = true := ib_nI (by omega) (by decide)
  have r : rI σ (g + 1) (nI p) = nI (T 1 p) := by rw [rI, nI_clamp (by omega), h1, nz_lt (by omega)]
  have e2 : (nI (T 1 p) = 2) ↔ T 1 p = 2 := nI_eq (b := 2) (by omega) (by decide)
  have e3 : (nI (T 1 p) = 3) ↔ T 1 p = 3 := nI_eq (b := 3) (by omega) (by decide)
  unfold f_Game_isHeld f_Game_isHeld_b20
  rw [hg, ck_t, ck_p b1, ck_p b1, r]
  by_cases c2 : T 1 p = 2
  · rw [if_pos (e2.mpr c2), if_pos (Or.inl c2)]
  · rw [if_neg (fun z => c2 (e2.mp z))]
    by_cases c3 : T 1 p = 3
    · rw [if_pos (e3.mpr c3), if_pos (Or.inr c3)]
    · rw [if_neg (fun z => c3 (e3.mp z)), if_neg (by omega)]
theorem q_size {g n : Nat} {T : TT} {σ : St} (hW : wf n T) (hn : 0 < n) (h1 : ∀ j p, 1 ≤ j → j ≤ 8 → p < n → σ.1 (g + j) p = nz (T j p)) (h10 : ∀ p, p < n → σ.1 (g + 10) p = 1) : ∃ σ', f_Game_finish_l7 g (nI (n - 1)) σ = (bv (f_Game_tellPast g 0 σ') fun σ3 => bv (f_Game_tellPast g 1 σ3) fun σ5 => f_Game_finish_l49 g 0 σ5) ∧ fr [g + 10] [] [] σ σ' ∧ ∀ p, p < n → σ'.1 (g + 10) p = nI (szm T n 0 p) := by
  have n60 : n ≤ 60 := hW.2.1
  unfold f_Game_finish_l7
  obtain ⟨σ', e, i1, i2⟩ := lp_d0 (z := fun _ _ => none) (body := f_Game_finish_b7 g) (fun k i (s : St) => k (nI i) s) (fun i s => fr [g + 10] [] [] σ s ∧ ∀ p, p < n → s.1 (g + 10) p = nI (szm T n i p)) (n - 1) (fun s => bv (f_Game_tellPast g 0 s) fun σ3 => bv (f_Game_tellPast g 1 σ3) fun σ5 => f_Game_finish_l49 g 0 σ5) (fun k i s hi hI => by
    obtain ⟨f1, f2⟩ := hI
    obtain ⟨a1, a2, a3, _⟩ := hW.A (show i + 1 < n by omega) (by omega)
    have u : ∀ j, j ≠ g + 10 → s.1 j = σ.1 j := fun j hj => f1.1 j (by simpa using hj)
    have h5 : rI s (g + 5) (nI (i + 1)) = nI (T 5 (i + 1)) := by
      rw [rI, nI_clamp (by omega), u _ (by omega), h1 5 _ (by omega) (by omega) (by omega), nz_lt (by omega)]
    have b1 : ib (nI (i + 1)) 60 = true := ib_nI (by omega) (by decide)
    have b2 : ib (nI (T 5 (i + 1))) 60 = true := ib_nI (by omega) (by decide)
    have c2 : (nI (T 5 (i + 1))).toNatClampNeg = T 5 (i + 1) := nI_clamp (by omega)
    have v1 : rI s (g + 10) (nI (T 5 (i + 1))) = nI (szm T n (i + 1) (T 5 (i + 1))) := by rw [rI, c2]; exact f2 _ (by omega)
    have v2 : rI s (g + 10) (nI (i + 1)) = nI (szm T n (i + 1) (i + 1)) := by rw [rI, nI_clamp (by omega)]; exact f2 _ (by omega)
    unfold f_Game_finish_b7
    rw [if_neg (nI_nle (by omega) (by omega)), ck_p b1, h5, ck_p b2, ck_p b1, ck_p b2, v1, v2, nI_add, c2, lE_d, pk_m1]
    refine ⟨_, rfl, f1.A (by simp) _ _, fun p hp => ?_⟩
    rw [sA1, if_pos rfl, updD, szm_s a1 (by omega)]
    by_cases c : p = T 5 (i + 1)
    · rw [if_pos c, if_pos c, c]
    · rw [if_neg c, if_neg c]; exact f2 p hp) (fun k s hI => by
    unfold f_Game_finish_b7
    rw [if_pos (by decide)]) (s := σ) (by omega) ⟨fr.rf, fun p hp => by rw [h10 p hp, szm_top (by omega)]; rfl⟩
  exact ⟨σ', e, i1, i2⟩
theorem q_forg {g n : Nat} {T : TT} {σ : St} (hg : isG g = true) (hW : wf n T) (hc : σ.2.2.1 (g + 10) = nI n) (h1 : ∀ j p, 1 ≤ j → j ≤ 8 → p < n → σ.1 (g + j) p = nz (T j p)) (h16 : ∀ s, s < 10 → σ.1 (g + 16) s = nz (T 16 s)) (h12 : ∀ w p, w < 2 → p < n → σ.2.1 (g + 12) (60 * w + p) = lN (en (ps T w p))) (h17 : σ.1 (g + 17) 0 = 0 ∧ σ.1 (g + 17) 1 = 0) : ∃ σ', f_Game_finish_l49 g 0 σ = some σ' ∧ fr [g + 17] [] [] σ σ' ∧ ∀ w, w < 2 → (σ'.1 (g + 17) w = 1 ∧ fgt T n w) ∨ (σ'.1 (g + 17) w = 0 ∧ ¬ fgt T n w) := by
  have n60 : n ≤ 60 := hW.2.1
  unfold f_Game_finish_l49
  obtain ⟨σ', e, i1, i2⟩ := lp_u0 (z := fun _ _ => none) (body := f_Game_finish_b49 g) (fun k i (s : St) => k (nI i) s) (fun i s => fr [g + 17] [] [] σ s ∧ ∀ w, w < 2 → (s.1 (g + 17) w = 1 ∧ ∃ p, p < n ∧ T 1 p = 2 + w ∧ ps T w p ≠ ps T w (T 16 (T 3 p))) ∨ (s.1 (g + 17) w = 0 ∧ ∀ p, p < i → T 1 p = 2 + w → ps T w p = ps T w (T 16 (T 3 p)))) n (fun s => some s) (fun k i s hi hI => by
    obtain ⟨f1, f2⟩ := hI
    have u : ∀ j, j ≠ g + 17 → s.1 j = σ.1 j := fun j hj => f1.1 j (by simpa using hj)
    have cc : s.2.2.1 (g + 10) = nI n := by rw [f1.2.2.1 _ (by simp)]; exact hc
    have hh := q_isHeld (σ := s) hg hW hi (by rw [u _ (by omega)]; exact h1 1 i (by omega) (by omega) hi)
    have k := (hW.K hi).2
    unfold f_Game_finish_b49 f_Game_finish_b119
    rw [if_neg (by rw [rF, cc]; exact nI_ge hi (by omega)), hh, bd_s, nI_1]
    by_cases c : T 1 i = 2 ∨ T 1 i = 3
    · rw [if_pos c, if_neg (by decide)]
      have b1 : ib (nI i) 60 = true := ib_nI (by omega) (by decide)
      have v3 : T 3 i < 10 := by omega
      have ss := hW.1.2.2.2.1 (T 3 i) v3
      have sp : 0 < T 15 (T 3 i) := (ss.2.2 i hi rfl).2
      have s16 := (ss.2.1 sp).1
      have r3 : rI s (g + 3) (nI i) = nI (T 3 i) := by rw [rI, nI_clamp (by omega), u _ (by omega), h1 3 i (by omega) (by omega) hi, nz_lt (by omega)]
      have r1 : rI s (g + 1) (nI i) = nI (T 1 i) := by rw [rI, nI_clamp (by omega), u _ (by omega), h1 1 i (by omega) (by omega) hi, nz_lt (by omega)]
      have r16 : rI s (g + 16) (nI (T 3 i)) = nI (T 16 (T 3 i)) := by rw [rI, nI_clamp (by omega), u _ (by omega), h16 _ v3, nz_lt (by omega)]
      have b3 : ib (nI (T 3 i)) 10 = true := ib_nI v3 (by decide)
      have sb : nI (T 1 i) - 2 = nI (T 1 i - 2) := pk_sub (b := 2) (by omega)
      obtain ⟨w, hw⟩ : ∃ w, w = T 1 i - 2 := ⟨_, rfl⟩
      have w2 : w < 2 := by omega
      have tw : T 1 i = 2 + w := by omega
      have b4 : ib (nI (60 * w + T 16 (T 3 i))) 120 = true := ib_nI (by omega) (by decide)
      have b5 : ib (nI (60 * w + i)) 120 = true := ib_nI (by omega) (by decide)
      have q1 : rL s (g + 12) (nI (60 * w + i)) = lN (en (ps T w i)) := by rw [rL, nI_clamp (by omega), f1.2.1 _ (by simp)]; exact h12 w i w2 hi
      have q2 : rL s (g + 12) (nI (60 * w + T 16 (T 3 i))) = lN (en (ps T w (T 16 (T 3 i)))) := by rw [rL, nI_clamp (by omega), f1.2.1 _ (by simp)]; exact h12 w _ w2 s16
      rw [ck_p b1, ck_p b1, r3, ck_p b3, r1, r16, sb, ← hw, w60, b60, b60, ck_p b4, ck_p b5, q1, q2]
      have eq := ps_en hW w hi s16
      by_cases c2 : ps T w i = ps T w (T 16 (T 3 i))
      · rw [if_pos (eq.mpr c2)]
        refine ⟨_, rfl, f1, fun w' hw' => ?_⟩
        rcases f2 w' hw' with h | ⟨ha, hb⟩
        · exact Or.inl h
        · refine Or.inr ⟨ha, fun p hp ht => ?_⟩
          by_cases x : p = i
          · subst x
            have : w' = w := by omega
            subst this
            exact c2
          · exact hb p (by omega) ht
      · have b6 : ib (nI w) 2 = true := ib_nI w2 (by decide)
        rw [if_neg (fun z => c2 (eq.mp z)), ck_p b6, lE_d, nI_clamp (by omega), show vp_nar .boolean 1 = 1 from rfl]
        refine ⟨_, rfl, f1.A (by simp) _ _, fun w' hw' => ?_⟩
        rw [sA1, if_pos rfl, updD]
        by_cases x : w' = w
        · subst x
          rw [if_pos rfl]
          exact Or.inl ⟨rfl, i, hi, tw, c2⟩
        · rw [if_neg x]
          rcases f2 w' hw' with h | ⟨ha, hb⟩
          · exact Or.inl h
          · refine Or.inr ⟨ha, fun p hp ht => ?_⟩
            by_cases y : p = i
            · subst y; omega
            · exact hb p (by omega) ht
    · rw [if_neg c, if_pos rfl]
      refine ⟨_, rfl, f1, fun w' hw' => ?_⟩
      rcases f2 w' hw' with h | ⟨ha, hb⟩
      · exact Or.inl h
      · refine Or.inr ⟨ha, fun p hp ht => ?_⟩
        by_cases x : p = i
        · subst x; omega
        · exact hb p (by omega) ht) (fun k s hI => by
    unfold f_Game_finish_b49
    rw [if_pos (by rw [rF, hI.1.2.2.1 _ (by simp), hc]; exact nI_le (Nat.le_refl _) (by omega))]) (i := 0) (s := σ) (by omega) (Nat.zero_le _) ⟨fr.rf, fun w hw => Or.inr ⟨by
      have : w = 0 ∨ w = 1 := by omega
      rcases this with rfl | rfl
      · exact h17.1
      · exact h17.2, fun p hp => by omega⟩⟩
  refine ⟨σ', e, i1, fun w hw => ?_⟩
  rcases i2 w hw with h | ⟨ha, hb⟩
  · exact Or.inl h
  · exact Or.inr ⟨ha, fun ⟨p, p1, p2, p3⟩ => p3 (hb p p1 p2)⟩
theorem c_finish {g n : Nat} {T : TT} {σ : St} (hg : isG g = true) (hW : wf n T) (hn : 0 < n) (hc : σ.2.2.1 (g + 10) = nI n) (hR : cR g n T σ) : ∃ σ', f_Game_finish g σ = some σ' ∧ fr [g + 10, g + 11, g + 17] [g + 12] [] σ σ' ∧ cG g n T σ' := by
  have n60 : n ≤ 60 := hW.2.1
  obtain ⟨r1, r2, r3, r4, r5, r6⟩ := hR
  obtain ⟨σ1, a1, a2, a3⟩ := @q_size g n T σ hW hn r1 r2
  have u1 : ∀ j, j ≠ g + 10 → σ1.1 j = σ.1 j := fun j hj => a2.1 j (by simpa using hj)
  have h1 : ∀ j p, 1 ≤ j → j ≤ 8 → p < n → σ1.1 (g + j) p = nz (T j p) := fun j p x y z => by rw [u1 _ (by omega)]; exact r1 j p x y z
  have c1 : σ1.2.2.1 (g + 10) = nI n := by rw [a2.2.2.1 _ (by simp)]; exact hc
  obtain ⟨σ2, b1, b2, b3, b4⟩ := q_tellPast (w := 0) hg hW hn (by omega) c1 h1
  have u2 : ∀ j, j ≠ g + 11 → σ2.1 j = σ1.1 j := fun j hj => b2.1 j (by simpa using hj)
  have h2 : ∀ j p, 1 ≤ j → j ≤ 8 → p < n → σ2.1 (g + j) p = nz (T j p) := fun j p x y z => by rw [u2 _ (by omega)]; exact h1 j p x y z
  have c2 : σ2.2.2.1 (g + 10) = nI n := by rw [b2.2.2.1 _ (by simp)]; exact c1
  obtain ⟨σ3, d1, d2, d3, d4⟩ := q_tellPast (w := 1) hg hW hn (by omega) c2 h2
  have u3 : ∀ j, j ≠ g + 11 → σ3.1 j = σ2.1 j := fun j hj => d2.1 j (by simpa using hj)
  have h3 : ∀ j p, 1 ≤ j → j ≤ 8 → p < n → σ3.1 (g + j) p = nz (T j p) := fun j p x y z => by rw [u3 _ (by omega)]; exact h2 j p x y z
  have c3 : σ3.2.2.1 (g + 10) = nI n := by rw [d2.2.2.1 _ (by simp)]; exact c2
  have old : ∀ j, j ≠ g + 10 → j ≠ g + 11 → σ3.1 j = σ.1 j := fun j x y => by rw [u3 _ y, u2 _ y, u1 _ x]
  have p11 : ∀ w p, w < 2 → p < n → σ3.1 (g + 11) (60 * w + p) = nI (lv T w p) ∧ σ3.2.1 (g + 12) (60 * w + p) = lN (en (ps T w p)) := by
    intro w p hw hp
    have : w = 0 ∨ w = 1 := by omega
    rcases this with rfl | rfl
    · have := d4 (60 * 0 + p) (Or.inl (by omega))
      rw [this.1, this.2]
      exact b3 p hp
    · exact d3 p hp
  obtain ⟨σ4, f1, f2, f3⟩ := @q_forg g n T σ3 hg hW c3 h3 (fun s hs => by rw [old _ (by omega) (by omega)]; exact r4 16 s (by omega) (by omega) hs) (fun w p hw hp => (p11 w p hw hp).2) ⟨by rw [old _ (by omega) (by omega)]; exact r5, by rw [old _ (by omega) (by omega)]; exact r6⟩
  have u4 : ∀ j, j ≠ g + 17 → σ4.1 j = σ3.1 j := fun j hj => f2.1 j (by simpa using hj)
  refine ⟨σ4, ?_, ?_, ?_⟩
  · unfold f_Game_finish
    rw [hg, ck_t, rF, hc, show nI n - 1 = nI (n - 1) from pk_sub (b := 1) (by omega), a1]
    have b1' : f_Game_tellPast g 0 σ1 = some σ2 := b1
    have d1' : f_Game_tellPast g 1 σ2 = some σ3 := d1
    rw [b1', bv_s, d1', bv_s, f1]
  · exact (((a2.mo (by simp) (by simp) (by simp)).tr (b2.mo (by simp) (by simp) (by simp))).tr (d2.mo (by simp) (by simp) (by simp))).tr (f2.mo (by simp) (by simp) (by simp))
  · refine ⟨fun j p x y z => ?_, fun p z => ?_, fun i z => ?_, fun j s x y z => ?_, fun w p x y => ?_, f3, ?_⟩
    · rw [u4 _ (by omega)]; exact h3 j p x y z
    · rw [u4 _ (by omega), u3 _ (by omega), u2 _ (by omega)]; exact a3 p z
    · rw [u4 _ (by omega), old _ (by omega) (by omega)]; exact r3 i z
    · rw [u4 _ (by omega), old _ (by omega) (by omega)]; exact r4 j s x y z
    · rw [u4 _ (by omega)]; exact (p11 w p x y).1
    · rw [f2.2.2.1 _ (by simp)]; exact c3
