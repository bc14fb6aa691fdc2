theorem st_drop (x1 : Int32) {σ : St} (h : iRow σ) (hn : iFnd σ) : stp (f_HG_drop x1) (f_HM_drop x1) (fun s => iRow s ∧ iFnd s) [47, 48, 63] [] [1, 40] σ := by
  unfold stp f_HG_drop f_HM_drop
  simp only [q_HG_isRow, q_HM_isRow, bd_s]
  by_cases c1 : x1 < 0 ∨ (8 : Int32) ≤ x1
  · simp only [if_pos c1, if_true]
    exact ⟨_, _, _, rfl, rfl, ⟨h, hn⟩, fr.rf⟩
  · simp only [if_neg c1, show ¬ ((1 : Int32) = 0) by decide, if_false]
    obtain ⟨r, hr, rfl⟩ := ix8 c1
    rw [q_isMissing hr, bd_s]
    rcases h r hr with ⟨h1, h2⟩ | ⟨k, n, h1, h2, h3, h4, h5, h6, h7⟩
    · simp only [h2, if_true, show ¬ ((1 : Int32) = 0) by decide, if_false, q_found, bd_s]
      refine ⟨_, _, _, rfl, ?_, ⟨iRow_F (iRow_F h 1 1) 40 1, by unfold iFnd; simp [sF3]⟩, (fr.rf.F (by decide) _).F (by decide) _⟩
      rw [ck_p (ib_nI hr (by decide))]
      unfold rI
      rw [nI_clamp (by omega), sF1, h1, if_neg (by decide), q_mfound, bd_s]
    · rw [h4, if_neg (m1_ne k h1), if_pos rfl]
      have er : f_Shelf_remove (nI r) σ = some (nI n, stA (stA σ 47 r (-1000000)) 48 r 0) := by
        unfold f_Shelf_remove
        rw [ck_p (ib_nI hr (by decide)), ck_p (ib_nI hr (by decide)), lE_d, ck_p (ib_nI hr (by decide)), lE_d]
        unfold rI
        rw [nI_clamp (by omega), h5]
      rw [er, bd_s, q_fine, bd_s]
      have e3 : ∀ s : St, s.1 63 r = nI k → s.1 64 r = nI n → (ck (ib (nI r) 8) <| if 0 ≤ (rI s 63 (nI r)) then (ck (ib (nI r) 8) <| lE (stA s 63 (nI r).toNatClampNeg ((-1))) fun σ8 => ck (ib (nI r) 8) <| bd (f_HM_taken ((rI σ8 64 (nI r)).toInt64) σ8) fun r13 σ12 => some (r13, σ12)) else (bd (f_HM_found 1 s) fun r16 σ15 => some (r16, σ15))) = some ((nI n).toInt64, stF (stA s 63 r (-1)) 40 0) := by
        intro s a1 a2
        unfold rI
        rw [ck_p (ib_nI hr (by decide)), nI_clamp (by omega), a1, if_pos (lane0 k h1), ck_p (ib_nI hr (by decide)), lE_d, ck_p (ib_nI hr (by decide)), sA1, if_neg (by decide), a2, q_mtaken, bd_s]
      refine ⟨_, _, _, rfl, e3 _ (by simp [sA1, sF1, h3]) (by simp [sA1, sF1, h6]), ⟨?_, by unfold iFnd; rfl⟩, ((((fr.rf.A (by decide) _ _).A (by decide) _ _).F (by decide) _).A (by decide) _ _).F (by decide) _⟩
      intro r2 hr2
      simp only [sA1, sF1, Nat.reduceEqDiff, if_true, if_false, updD]
      by_cases e : r2 = r
      · left
        rw [if_pos e, if_pos e]
        exact ⟨rfl, rfl⟩
      · rw [if_neg e, if_neg e, if_neg e]
        exact h r2 hr2
/-- the reference's copying, step by step -/
theorem mcopy {a i b j n : Nat} (ha : a < 8) (hb : b < 8) (hi : i + n ≤ 40) (hj : j + n ≤ 40) (old : Nat → Int32) : ∀ (m k f : Nat) (σ : St), k + m = n → m < f → (∀ t, σ.1 65 t = if (if j ≤ i then 40 * b + j ≤ t ∧ t < 40 * b + j + k else 40 * b + j + n - k ≤ t ∧ t < 40 * b + j + n) then old (40 * a + i + (t - (40 * b + j))) else old t) → ∃ σ', lp (fun _ _ _ _ _ _ _ => none) f_HM_copy_b121 f (nI a) (nI i) (nI b) (nI j) (nI n) (nI k) σ = some ((nI n).toInt64, σ') ∧ fr [65] [] [40] σ σ' ∧ σ'.2.2.1 40 = 0 ∧ ∀ t, σ'.1 65 t = if 40 * b + j ≤ t ∧ t < 40 * b + j + n then old (40 * a + i + (t - (40 * b + j))) else old t
  | 0, k, f + 1, σ, hk, _, hs => by
    refine ⟨stF σ 40 0, ?_, fr.rf.F (by decide) _, by rw [sF3, if_pos rfl], fun t => ?_⟩
    · rw [lp_s]
      unfold f_HM_copy_b121
      rw [if_pos (nI_le (by omega) (by omega)), q_mtaken, bd_s]
    · rw [sF1, hs t]
      by_cases c : j ≤ i
      · simp only [if_pos c]
        have : k = n := by omega
        rw [this]
      · simp only [if_neg c]
        have : 40 * b + j + n - k = 40 * b + j := by omega
        rw [this]
  | m + 1, k, f + 1, σ, hk, hf, hs => by
    obtain ⟨x, hx, hx2⟩ : ∃ x, x = (if j ≤ i then k else n - 1 - k) ∧ x < n := ⟨_, rfl, by split <;> omega⟩
    have hrd : σ.1 65 (40 * a + i + x) = old (40 * a + i + x) := by
      rw [hs, if_neg]
      by_cases c : j ≤ i
      · rw [if_pos c] at hx ⊢
        omega
      · rw [if_neg c] at hx ⊢
        omega
    obtain ⟨σ', h1, h2, h3, h4⟩ := mcopy ha hb hi hj old m (k + 1) f (stA σ 65 (40 * b + j + x) (old (40 * a + i + x))) (by omega) (by omega) (by
      intro t
      rw [sA1, if_pos rfl, updD, hs t]
      by_cases c : j ≤ i
      · simp only [if_pos c] at hx ⊢
        by_cases e : t = 40 * b + j + x
        · rw [if_pos e, if_pos (by omega)]
          congr 1
          omega
        · rw [if_neg e]
          by_cases e2 : 40 * b + j ≤ t ∧ t < 40 * b + j + k
          · rw [if_pos e2, if_pos (by omega)]
          · rw [if_neg e2, if_neg (by omega)]
      · simp only [if_neg c] at hx ⊢
        by_cases e : t = 40 * b + j + x
        · rw [if_pos e, if_pos (by omega)]
          congr 1
          omega
        · rw [if_neg e]
          by_cases e2 : 40 * b + j + n - k ≤ t ∧ t < 40 * b + j + n
          · rw [if_pos e2, if_pos (by omega)]
          · rw [if_neg e2, if_neg (by omega)])
    refine ⟨σ', ?_, (fr.rf.A (by decide) _ _).tr h2, h3, h4⟩
    have hb146 : f_HM_copy_b146 (lp (fun _ _ _ _ _ _ _ => none) f_HM_copy_b121 f) (nI a) (nI i) (nI b) (nI j) (nI n) (nI k) (nI x) σ = some ((nI n).toInt64, σ') := by
      unfold f_HM_copy_b146 rI
      rw [ix40', ix40', nI_add, nI_add, ck_p (ib_nI (by omega) (by decide)), ck_p (ib_nI (by omega) (by decide)), lE_d, nI_clamp (by omega), nI_clamp (by omega), hrd, nI_1]
      exact h1
    rw [lp_s]
    unfold f_HM_copy_b121
    rw [if_neg (nI_ge (by omega) (by omega))]
    by_cases c : j ≤ i
    · rw [if_pos (nI_le c (by omega))]
      rw [if_pos c] at hx
      rw [← hx]
      rw [← hx] at hb146
      exact hb146
    · rw [if_neg (nI_ge (by omega) (by omega))]
      rw [if_neg c] at hx
      rw [show (1 : Int32) = nI 1 from rfl, pk_sub (by omega), pk_sub (by omega), ← hx]
      exact hb146
