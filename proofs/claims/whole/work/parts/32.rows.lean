/-! the ROWS of both -/
def iRow (σ : St) : Prop := ∀ r, r < 8 → (σ.1 63 r = -1 ∧ σ.1 47 r = -1000000) ∨ (∃ k n, k < 3 ∧ n ≤ 40 ∧ σ.1 63 r = nI k ∧ σ.1 47 r = nI k ∧ σ.1 48 r = nI n ∧ σ.1 64 r = nI n ∧ ∀ i, i < n → σ.1 49 (40 * r + i) = σ.1 65 (40 * r + i))
theorem iRow.fr {ka kl kf : List Nat} {σ σ' : St} (h : iRow σ) (hf : fr ka kl kf σ σ') (hk : ∀ k ∈ ka, k ∉ [47, 48, 49, 63, 64, 65]) : iRow σ' := by
  have e : ∀ k, k ∈ [47, 48, 49, 63, 64, 65] → σ'.1 k = σ.1 k := fun k hk1 => hf.1 k (fun z => hk k z hk1)
  intro r hr
  rw [e 47 (by decide), e 48 (by decide), e 49 (by decide), e 63 (by decide), e 64 (by decide), e 65 (by decide)]
  exact h r hr
theorem ix40 (r i : Nat) : nI r * 40 + nI i = nI (40 * r + i) := by
  rw [show (40 : Int32) = nI 40 from rfl, pk_mul, nI_add, Nat.mul_comm]
theorem ix40' (r i : Nat) : 40 * nI r + nI i = nI (40 * r + i) := by
  rw [show (40 : Int32) = nI 40 from rfl, pk_mul, nI_add]
theorem m1_ne (k : Nat) (hk : k < 3) : ¬ (nI k : Int32) = -1000000 := by
  have : ∀ k, k < 3 → ¬ (nI k : Int32) = -1000000 := by decide
  exact this k hk
theorem lay_loop (r : Nat) (hr : r < 8) : ∀ (m j f : Nat) (σ : St), j + m = 40 → m < f → ∃ σ', lp (fun _ _ _ => none) f_Shelf_lay_b17 f (nI r) (nI j) σ = some σ' ∧ fr [49] [] [] σ σ' ∧ ∀ i, σ'.1 49 i = if 40 * r + j ≤ i ∧ i < 40 * r + 40 then 0 else σ.1 49 i
  | 0, j, f + 1, σ, hj, _ => by
    refine ⟨σ, ?_, fr.rf, fun i => ?_⟩
    · rw [lp_s]
      unfold f_Shelf_lay_b17
      rw [if_pos (show (40 : Int32) ≤ nI j from nI_le (a := 40) (by omega) (by omega))]
    · rw [if_neg (by omega)]
  | m + 1, j, f + 1, σ, hj, hf => by
    obtain ⟨σ', h1, h2, h3⟩ := lay_loop r hr m (j + 1) f (stA σ 49 (40 * r + j) 0) (by omega) (by omega)
    refine ⟨σ', ?_, ?_, fun i => ?_⟩
    · rw [lp_s]
      unfold f_Shelf_lay_b17
      rw [if_neg (show ¬ (40 : Int32) ≤ nI j from nI_ge (b := 40) (by omega) (by decide)), ix40, ck_p (ib_nI (by omega) (by decide)), lE_d, nI_clamp (by omega), nI_1]
      exact h1
    · exact (fr.rf.A (by decide) _ _).tr h2
    · rw [h3 i, sA1, if_pos rfl, updD]
      by_cases e1 : i = 40 * r + j
      · subst e1
        simp
        omega
      · by_cases e2 : 40 * r + j ≤ i ∧ i < 40 * r + 40
        · rw [if_pos e2, if_pos (by omega)]
        · rw [if_neg e2, if_neg (by omega), if_neg e1]
theorem hm_row_loop (r n : Nat) (hr : r < 8) (hn : n ≤ 40) : ∀ (m j f : Nat) (σ : St), j + m = n → m < f → ∃ σ', lp (fun _ _ _ _ => none) f_HM_row_b56 f (nI r) (nI n) (nI j) σ = some ((nI n).toInt64, σ') ∧ fr [65] [] [40] σ σ' ∧ σ'.2.2.1 40 = 0 ∧ ∀ i, σ'.1 65 i = if 40 * r + j ≤ i ∧ i < 40 * r + n then 0 else σ.1 65 i
  | 0, j, f + 1, σ, hj, _ => by
    refine ⟨stF σ 40 0, ?_, fr.rf.F (by decide) _, ?_, fun i => ?_⟩
    · rw [lp_s]
      unfold f_HM_row_b56
      rw [if_pos (nI_le (by omega) (by omega))]
      unfold f_HM_taken
      rfl
    · rw [sF3, if_pos rfl]
    · rw [if_neg (by omega)]; rfl
  | m + 1, j, f + 1, σ, hj, hf => by
    obtain ⟨σ', h1, h2, h3, h4⟩ := hm_row_loop r n hr hn m (j + 1) f (stA σ 65 (40 * r + j) 0) (by omega) (by omega)
    refine ⟨σ', ?_, ?_, h3, fun i => ?_⟩
    · rw [lp_s]
      unfold f_HM_row_b56
      rw [if_neg (nI_ge (by omega) (by omega)), ix40', ck_p (ib_nI (by omega) (by decide)), lE_d, nI_clamp (by omega), nI_1]
      exact h1
    · exact (fr.rf.A (by decide) _ _).tr h2
    · rw [h4 i, sA1, if_pos rfl, updD]
      by_cases e1 : i = 40 * r + j
      · subst e1
        simp
        omega
      · by_cases e2 : 40 * r + j ≤ i ∧ i < 40 * r + n
        · rw [if_pos e2, if_pos (by omega)]
        · rw [if_neg e2, if_neg (by omega), if_neg e1]
