/-! loops -/
theorem lp_up {F S R : Type} {z : F} {body : F → F} (ap : F → Nat → S → Option R) (I : Nat → S → Prop) (n : Nat) (ex : S → Option R) (hs : ∀ k i s, i < n → I i s → ∃ s', ap (body k) i s = ap k (i + 1) s' ∧ I (i + 1) s') (he : ∀ k s, I n s → ap (body k) n s = ex s) : ∀ m i f s, i + m = n → m < f → I i s → ∃ s', ap (lp z body f) i s = ex s' ∧ I n s'
  | 0, i, f + 1, s, hi, _, h => by
    have e : i = n := by omega
    subst e
    exact ⟨s, by rw [lp_s]; exact he _ s h, h⟩
  | m + 1, i, f + 1, s, hi, hf, h => by
    obtain ⟨s1, e1, h1⟩ := hs (lp z body f) i s (by omega) h
    obtain ⟨s2, e2, h2⟩ := lp_up ap I n ex hs he m (i + 1) f s1 (by omega) (by omega) h1
    exact ⟨s2, by rw [lp_s, e1, e2], h2⟩
theorem lp_u0 {F S R : Type} {z : F} {body : F → F} (ap : F → Nat → S → Option R) (I : Nat → S → Prop) (n : Nat) (ex : S → Option R) (hs : ∀ k i s, i < n → I i s → ∃ s', ap (body k) i s = ap k (i + 1) s' ∧ I (i + 1) s') (he : ∀ k s, I n s → ap (body k) n s = ex s) {i : Nat} {s : S} (hn : n < 1000) (hi : i ≤ n) (h : I i s) : ∃ s', ap (lp z body FU) i s = ex s' ∧ I n s' := lp_up ap I n ex hs he (n - i) i FU s (by omega) (by unfold FU; omega) h
theorem lp_dn {F S R : Type} {z : F} {body : F → F} (ap : F → Nat → S → Option R) (I : Nat → S → Prop) (n : Nat) (ex : S → Option R) (hs : ∀ k i s, i < n → I (i + 1) s → ∃ s', ap (body k) (i + 1) s = ap k i s' ∧ I i s') (he : ∀ k s, I 0 s → ap (body k) 0 s = ex s) : ∀ i f s, i ≤ n → i < f → I i s → ∃ s', ap (lp z body f) i s = ex s' ∧ I 0 s'
  | 0, f + 1, s, hi, _, h => ⟨s, by rw [lp_s]; exact he _ s h, h⟩
  | i + 1, f + 1, s, hi, hf, h => by
    obtain ⟨s1, e1, h1⟩ := hs (lp z body f) i s (by omega) h
    obtain ⟨s2, e2, h2⟩ := lp_dn ap I n ex hs he i f s1 (by omega) (by omega) h1
    exact ⟨s2, by rw [lp_s, e1, e2], h2⟩
theorem lp_d0 {F S R : Type} {z : F} {body : F → F} (ap : F → Nat → S → Option R) (I : Nat → S → Prop) (n : Nat) (ex : S → Option R) (hs : ∀ k i s, i < n → I (i + 1) s → ∃ s', ap (body k) (i + 1) s = ap k i s' ∧ I i s') (he : ∀ k s, I 0 s → ap (body k) 0 s = ex s) {s : S} (hn : n < 1000) (h : I n s) : ∃ s', ap (lp z body FU) n s = ex s' ∧ I 0 s' := lp_dn ap I n ex hs he n FU s (Nat.le_refl _) (by unfold FU; omega) h
theorem q_fillI {a : Nat} (x : Int32) (σ : St) (h : isI a = true) (hl : ln a < 1000) : ∃ σ', f_Ar_fillI a x σ = some σ' ∧ fr [a] [] [] σ σ' ∧ ∀ j, σ'.1 a j = if j < ln a then x else σ.1 a j := by
  unfold f_Ar_fillI f_Ar_fillI_l5
  rw [h, ck_t]
  obtain ⟨σ', e, h1, h2⟩ := lp_u0 (z := fun _ _ _ _ => none) (body := f_Ar_fillI_b5 a) (fun k i (s : St) => k x (nI i) (nI (ln a)) s) (fun i s => fr [a] [] [] σ s ∧ ∀ j, s.1 a j = if j < i then x else σ.1 a j) (ln a) (fun s => some s) (fun k i s hi hI => by
    unfold f_Ar_fillI_b5
    rw [if_neg (nI_ge hi (by omega)), ck_p (ib_nI hi (by omega)), lE_d, nI_clamp (by omega), nI_1]
    refine ⟨_, rfl, hI.1.A (by simp) _ _, fun j => ?_⟩
    rw [sA1, if_pos rfl, updD, hI.2 j]
    by_cases c : j = i
    · rw [if_pos c, if_pos (by omega)]
    · rw [if_neg c]
      by_cases c2 : j < i
      · rw [if_pos c2, if_pos (by omega)]
      · rw [if_neg c2, if_neg (by omega)]) (fun k s hI => by
    unfold f_Ar_fillI_b5
    rw [if_pos (nI_le (Nat.le_refl _) (by omega))]) (i := 0) (s := σ) hl (Nat.zero_le _) ⟨fr.rf, fun j => by rw [if_neg (by omega)]⟩
  exact ⟨σ', e, h1, h2⟩
theorem q_fillJ {a : Nat} (x : Int64) (σ : St) (h : isJ a = true) (hl : ln a < 1000) : ∃ σ', f_Ar_fillJ a x σ = some σ' ∧ fr [] [a] [] σ σ' ∧ ∀ j, σ'.2.1 a j = if j < ln a then x else σ.2.1 a j := by
  unfold f_Ar_fillJ f_Ar_fillJ_l6
  rw [h, ck_t]
  obtain ⟨σ', e, h1, h2⟩ := lp_u0 (z := fun _ _ _ _ => none) (body := f_Ar_fillJ_b6 a) (fun k i (s : St) => k x (nI i) (nI (ln a)) s) (fun i s => fr [] [a] [] σ s ∧ ∀ j, s.2.1 a j = if j < i then x else σ.2.1 a j) (ln a) (fun s => some s) (fun k i s hi hI => by
    unfold f_Ar_fillJ_b6
    rw [if_neg (nI_ge hi (by omega)), ck_p (ib_nI hi (by omega)), lE_d, nI_clamp (by omega), nI_1]
    refine ⟨_, rfl, hI.1.L (by simp) _ _, fun j => ?_⟩
    rw [sL2, if_pos rfl, updLD, hI.2 j]
    by_cases c : j = i
    · rw [if_pos c, if_pos (by omega)]
    · rw [if_neg c]
      by_cases c2 : j < i
      · rw [if_pos c2, if_pos (by omega)]
      · rw [if_neg c2, if_neg (by omega)]) (fun k s hI => by
    unfold f_Ar_fillJ_b6
    rw [if_pos (nI_le (Nat.le_refl _) (by omega))]) (i := 0) (s := σ) hl (Nat.zero_le _) ⟨fr.rf, fun j => by rw [if_neg (by omega)]⟩
  exact ⟨σ', e, h1, h2⟩
/-- the whole text -/
def rd (B : Nat → Nat) (L : Nat) : RR := sb (pl B L 12 0 1000 0 0 (0, 0, T0)) (fun s => if tC B L s.1 ≠ 5 then .inl (1, tS B L s.1) else if tC B L (tE B L s.1) ≠ 6 then .inl (1, tS B L (tE B L s.1)) else .inr s)
def s50 (σ : St) : St := stF (stF (stF σ 46 0) 50 0) 51 0
theorem s50_F (σ : St) (n : Nat) : (s50 σ).2.2.1 n = if n = 51 ∨ n = 50 ∨ n = 46 then 0 else σ.2.2.1 n := by
  unfold s50
  rw [sF3, sF3, sF3]
  by_cases c1 : n = 51
  · rw [if_pos c1, if_pos (Or.inl c1)]
  · by_cases c2 : n = 50
    · rw [if_neg c1, if_pos c2, if_pos (Or.inr (Or.inl c2))]
    · by_cases c3 : n = 46
      · rw [if_neg c1, if_neg c2, if_pos c3, if_pos (Or.inr (Or.inr c3))]
      · rw [if_neg c1, if_neg c2, if_neg c3, if_neg (by omega)]
theorem b18_s {i : Nat} (hi : i < 10) (k : Int32 → St → Option (Int32 × St)) (s : St) : f_HM_readsAll_b18 k (nI (10 + i)) s = k (nI (10 + (i + 1))) (stA (stA s 76 (10 + i) (-1)) 77 (10 + i) 0) := by
  unfold f_HM_readsAll_b18
  rw [if_neg (show ¬ (20 : Int32) ≤ nI (10 + i) from nI_ge (b := 20) (by omega) (by decide)), ck_p (ib_nI (by omega) (by decide)), lE_d, nI_clamp (by omega), ck_p (ib_nI (by omega) (by decide)), lE_d, nI_1, Nat.add_assoc]
theorem m_st0 (σ : St) : ∃ s, f_HM_readsAll_l18 (nI (10 + 0)) (s50 σ) = f_HM_readsAll_l46 1 s ∧ fm σ s ∧ (∀ n, s.2.2.1 n = if n = 51 ∨ n = 50 ∨ n = 46 then 0 else σ.2.2.1 n) ∧ (∀ j, j < 10 → s.1 76 (10 + j) = -1) ∧ (∀ j, j < 10 → s.1 77 (10 + j) = 0) := by
  unfold f_HM_readsAll_l18
  exact lp_u0 (z := fun _ _ => none) (body := f_HM_readsAll_b18) (fun k i (s : St) => k (nI (10 + i)) s) (fun i s => fm σ s ∧ (∀ n, s.2.2.1 n = if n = 51 ∨ n = 50 ∨ n = 46 then 0 else σ.2.2.1 n) ∧ (∀ j, j < i → s.1 76 (10 + j) = -1) ∧ (∀ j, j < i → s.1 77 (10 + j) = 0)) 10 (fun s => f_HM_readsAll_l46 1 s) (fun k i s hi hI => by
    refine ⟨_, b18_s hi k s, (hI.1.A (by decide) _ _ (by simp [lom])).A (by decide) _ _ (by simp [lom]), fun n => ?_, fun j hj => ?_, fun j hj => ?_⟩
    · rw [sA2, sA2]; exact hI.2.1 n
    · rw [sA1, if_neg (by decide), sA1, if_pos rfl, updD]
      by_cases c : j = i
      · rw [if_pos (by omega)]
      · rw [if_neg (by omega)]; exact hI.2.2.1 j (by omega)
    · rw [sA1, if_pos rfl, updD, sA1, if_neg (show ¬ 77 = 76 by decide)]
      by_cases c : j = i
      · rw [if_pos (by omega)]
      · rw [if_neg (by omega)]; exact hI.2.2.2 j (by omega)) (fun k s hI => by
    show f_HM_readsAll_b18 k (nI (10 + 10)) s = _
    unfold f_HM_readsAll_b18
    rw [if_pos (show (20 : Int32) ≤ nI (10 + 10) by decide)]) (i := 0) (s := s50 σ) (by omega) (by omega) ⟨((fm.rf.F (by decide) _).F (by decide) _).F (by decide) _, s50_F σ, fun j hj => by omega, fun j hj => by omega⟩
theorem m_46 {σ : St} (h : σ.2.2.1 50 = nI 0) : f_HM_readsAll_l46 1 σ = f_HM_readsAll_b96 (K46 999) 12 σ := by
  unfold f_HM_readsAll_l46
  have e : FU = 999 + 1 := rfl
  rw [e, lp_s]
  have e2 : lp (fun _ _ => none) f_HM_readsAll_b46 999 = K46 999 := by unfold K46; rfl
  rw [e2]
  unfold f_HM_readsAll_b46
  rw [if_neg (by decide), if_pos (by rw [rF, h]; decide)]
theorem m_start {B : Nat → Nat} {L : Nat} {σ : St} (ht : tm B L σ) : ∃ σ', f_HM_readsAll σ = f_HM_readsAll_b96 (K46 999) 12 σ' ∧ mS B L 0 (0, 0, T0) σ' ∧ fm σ σ' := by
  obtain ⟨σ', e, h1, h2, h3, h4⟩ := m_st0 σ
  have o50 : σ'.2.2.1 50 = nI 0 := by rw [h2, if_pos (by omega)]; rfl
  have e0 : f_HM_readsAll σ = f_HM_readsAll_l18 10 (s50 σ) := by
    unfold f_HM_readsAll s50
    rw [lE_d, lE_d, lE_d]
  have e1 : (10 : Int32) = nI (10 + 0) := rfl
  rw [e0, e1, e, m_46 o50]
  refine ⟨σ', rfl, ⟨ht.fr h1.1 (by decide) (by decide) (by decide) (by decide), Nat.zero_le _, by rw [h2, if_pos (by omega)]; rfl, by rw [h2, if_pos (by omega)]; rfl, o50, by show 0 ≤ 60; omega, wf1_0.2.2.2.2, ?_⟩, h1⟩
  refine ⟨fun j p _ _ hp => by simp only at hp; omega, fun i _ hne => absurd rfl hne, fun s hs => ?_, fun s hs => ?_⟩
  · rw [h3 s hs]; rfl
  · rw [h4 s hs]; rfl
theorem m_all {B : Nat → Nat} {L : Nat} {σ : St} (ht : tm B L σ) : match rd B L with
  | .inl e => mErr σ e (f_HM_readsAll σ)
  | .inr s => s.2.1 ≤ 60 ∧ ∃ σ', f_HM_readsAll σ = some (0, σ') ∧ fm σ σ' ∧ σ'.2.2.1 51 = nI s.2.1 ∧ mR 60 10 s.2.1 s.2.2 σ' ∧ mCC s.2.1 s.2.2 σ' := by
  obtain ⟨σ0, e0, hS, hf⟩ := m_start ht
  have key := m_place B L 12 0 1000 0 0 (0, 0, T0) σ0 999 12 hS (fun p a b => by simp only at b; omega) (by omega) (by omega) (fun _ => ⟨rfl, rfl⟩) (fun h => by omega) (fun h => by omega) (by show 70 ≤ 999 + 0; omega)
  rw [e0]
  unfold rd
  cases hr : pl B L 12 0 1000 0 0 (0, 0, T0) with
  | inl e =>
    rw [hr] at key
    exact mErr.tr key hf
  | inr s =>
    rw [hr] at key
    obtain ⟨σ1, G, F', k1, k2, k3, k4, k5, k6, k7⟩ := key
    obtain ⟨t1, t2, t3, t4, t5, t6, t7, t8⟩ := k4
    have k3' : F' + s.2.1 = 999 + 0 + 1 := k3
    obtain ⟨G0, rfl⟩ : ∃ G0, G = G0 + 1 := ⟨G - 1, by omega⟩
    obtain ⟨F0, rfl⟩ : ∃ F0, F' = F0 + 1 := ⟨F' - 1, by omega⟩
    have e1 : f_HM_readsAll_b96 (K46 999) 12 σ0 = bv (f_HM_token σ1) fun σ3 => if (rF σ3 48) = 3 then (bv (f_HM_token σ3) fun σ6 => if (rF σ6 48) = 0 then (some (0, σ6)) else (some (1, σ6))) else (some (1, σ3)) := by
      rw [k1]
      unfold MR
      rw [lp_s]
      show f_HM_readsAll_b125 (K46 (F0 + 1)) (lp (fun _ => none) (f_HM_readsAll_b125 (K46 (F0 + 1))) G0) σ1 = _
      unfold f_HM_readsAll_b125 f_HM_readsAll_b159 f_HM_readsAll_b171
      rw [if_pos (by rw [rF, t5]; decide), if_pos (by rw [rF, t5]; decide)]
      unfold K46
      rw [lp_s]
      show f_HM_readsAll_b46 (lp (fun _ _ => none) f_HM_readsAll_b46 F0) 0 σ1 = _
      unfold f_HM_readsAll_b46
      rw [if_pos rfl]
    rw [e1]
    obtain ⟨σ2, u1, u2, u3, u4, u5, u6, u7⟩ := m_token t1 t2 t3
    have hE := tE_le B t2
    have i3 : (nI (tR B L s.1) = 3) ↔ tC B L s.1 = 5 := by
      have := tR_lt B L s.1
      rw [← (tR_C B L s.1).2.1]
      exact nI_eq (b := 3) (by omega) (by decide)
    rw [u1, bv_s]
    simp only [rF, u6, i3]
    have fm2 : fm σ σ2 := (hf.tr k6).tr (fm.tok u2 (by decide))
    show match (if tC B L s.1 ≠ 5 then (.inl (1, tS B L s.1) : RR) else if tC B L (tE B L s.1) ≠ 6 then .inl (1, tS B L (tE B L s.1)) else .inr s) with
      | .inl e => _
      | .inr s => _
    by_cases c5 : tC B L s.1 = 5
    · rw [if_pos c5, if_neg (show ¬ (tC B L s.1 ≠ 5) by simp [c5])]
      obtain ⟨σ3, v1, v2, v3, v4, v5, v6, v7⟩ := m_token u3 hE.2 u5
      have i0 : (nI (tR B L (tE B L s.1)) = 0) ↔ tC B L (tE B L s.1) = 6 := by
        have := tR_lt B L (tE B L s.1)
        rw [← (tR_C B L (tE B L s.1)).2.2]
        exact nI_eq (b := 0) (by omega) (by decide)
      rw [v1, bv_s]
      simp only [v6, i0]
      have fm3 : fm σ σ3 := fm2.tr (fm.tok v2 (by decide))
      by_cases c6 : tC B L (tE B L s.1) = 6
      · rw [if_pos c6, if_neg (show ¬ (tC B L (tE B L s.1) ≠ 6) by simp [c6])]
        have ee : ∀ k, σ3.1 k = σ1.1 k := fun k => by rw [v2.1 k (by simp), u2.1 k (by simp)]
        refine ⟨t6, σ3, rfl, fm3, ?_, mR_cg t8 (fun j _ _ => ee _) (ee _) (ee _) (ee _), mCC_cg k5 (ee _)⟩
        rw [v2.2.2.1 51 (by decide), u2.2.2.1 51 (by decide)]
        exact t4
      · rw [if_neg c6, if_pos c6]
        exact ⟨σ3, rfl, by simp, by simp, v4, fm3⟩
    · rw [if_neg c5, if_pos c5]
      exact ⟨σ2, rfl, by simp, by simp, u4, fm2⟩
