/-! the ROWS of both -/
def iRow (σ : St) : Prop := ∀ r, r < 8 → (σ.1 63 r = -1 ∧ σ.1 47 r = -1000000) ∨ (∃ k n, k < 3 ∧ n ≤ 40 ∧ σ.1 63 r = nI k ∧ σ.1 47 r = nI k ∧ σ.1 48 r = nI n ∧ σ.1 64 r = nI n ∧ ∀ i, i < n → σ.1 49 (40 * r + i) = σ.1 65 (40 * r + i))
theorem iRow.fr {ka kl kf : List Nat} {σ σ' : St} (h : iRow σ) (hf : fr ka kl kf σ σ') (hk : ∀ k ∈ ka, k ∉ [47, 48, 49, 63, 64, 65]) : iRow σ' := by
  have e : ∀ k, k ∈ [47, 48, 49, 63, 64, 65] → σ'.1 k = σ.1 k := fun k hk1 => hf.1 k (fun z => hk k z hk1)
  intro r hr
  rw [e 47 (by decide), e 48 (by decide), e 49 (by decide), e 63 (by decide), e 64 (by decide), e 65 (by decide)]
  exact h r hr
theorem ix40 (r i : Nat) : nI r * 40 + nI i = nI (40 * r + i) := by
  rw [show (40 : Int32) = nI 40 from rfl, pk_mul, nI_add, Nat.mul_comm]
theorem ix40' (r i : Nat) : 40 * nI r + nI i = nI (40 * r + i) := by
  rw [show (40 : Int32) = nI 40 from rfl, pk_mul, nI_add]
theorem m1_ne (k : Nat) (hk : k < 3) : ¬ (nI k : Int32) = -1000000 := by
  have : ∀ k, k < 3 → ¬ (nI k : Int32) = -1000000 := by decide
  exact this k hk
theorem lay_loop (r : Nat) (hr : r < 8) : ∀ (m j f : Nat) (σ : St), j + m = 40 → m < f → ∃ σ', lp (fun _ _ _ => none) f_Shelf_lay_b17 f (nI r) (nI j) σ = some σ' ∧ fr [49] [] [] σ σ' ∧ ∀ i, σ'.1 49 i = if 40 * r + j ≤ i ∧ i < 40 * r + 40 then 0 else σ.1 49 i
  | 0, j, f + 1, σ, hj, _ => by
    refine ⟨σ, ?_, fr.rf, fun i => ?_⟩
    · rw [lp_s]
      unfold f_Shelf_lay_b17
      rw [if_pos (show (40 : Int32) ≤ nI j from nI_le (a := 40) (by omega) (by omega))]
    · rw [if_neg (by omega)]
  | m + 1, j, f + 1, σ, hj, hf => by
    obtain ⟨σ', h1, h2, h3⟩ := lay_loop r hr m (j + 1) f (stA σ 49 (40 * r + j) 0) (by omega) (by omega)
    refine ⟨σ', ?_, ?_, fun i => ?_⟩
    · rw [lp_s]
      unfold f_Shelf_lay_b17
      rw [if_neg (show ¬ (40 : Int32) ≤ nI j from nI_ge (b := 40) (by omega) (by decide)), ix40, ck_p (ib_nI (by omega) (by decide)), lE_d, nI_clamp (by omega), nI_1]
      exact h1
    · exact (fr.rf.A (by decide) _ _).tr h2
    · rw [h3 i, sA1, if_pos rfl, updD]
      by_cases e1 : i = 40 * r + j
      · subst e1
        simp
        omega
      · by_cases e2 : 40 * r + j ≤ i ∧ i < 40 * r + 40
        · rw [if_pos e2, if_pos (by omega)]
        · rw [if_neg e2, if_neg (by omega), if_neg e1]
theorem hm_row_loop (r n : Nat) (hr : r < 8) (hn : n ≤ 40) : ∀ (m j f : Nat) (σ : St), j + m = n → m < f → ∃ σ', lp (fun _ _ _ _ => none) f_HM_row_b56 f (nI r) (nI n) (nI j) σ = some ((nI n).toInt64, σ') ∧ fr [65] [] [40] σ σ' ∧ σ'.2.2.1 40 = 0 ∧ ∀ i, σ'.1 65 i = if 40 * r + j ≤ i ∧ i < 40 * r + n then 0 else σ.1 65 i
  | 0, j, f + 1, σ, hj, _ => by
    refine ⟨stF σ 40 0, ?_, fr.rf.F (by decide) _, ?_, fun i => ?_⟩
    · rw [lp_s]
      unfold f_HM_row_b56
      rw [if_pos (nI_le (by omega) (by omega))]
      unfold f_HM_taken
      rfl
    · rw [sF3, if_pos rfl]
    · rw [if_neg (by omega)]; rfl
  | m + 1, j, f + 1, σ, hj, hf => by
    obtain ⟨σ', h1, h2, h3, h4⟩ := hm_row_loop r n hr hn m (j + 1) f (stA σ 65 (40 * r + j) 0) (by omega) (by omega)
    refine ⟨σ', ?_, ?_, h3, fun i => ?_⟩
    · rw [lp_s]
      unfold f_HM_row_b56
      rw [if_neg (nI_ge (by omega) (by omega)), ix40', ck_p (ib_nI (by omega) (by decide)), lE_d, nI_clamp (by omega), nI_1]
      exact h1
    · exact (fr.rf.A (by decide) _ _).tr h2
    · rw [h4 i, sA1, if_pos rfl, updD]
      by_cases e1 : i = 40 * r + j
      · subst e1
        simp
        omega
      · by_cases e2 : 40 * r + j ≤ i ∧ i < 40 * r + n
        · rw [if_pos e2, if_pos (by omega)]
        · rw [if_neg e2, if_neg (by omega), if_neg e1]
theorem lane3 {x : Int32} (h : ¬ x < 0) (h2 : ¬ (3 : Int32) ≤ x) : ∃ k : Nat, k < 3 ∧ x = nI k := by
  rcases pk_ix x (n := 3) (by decide) with h1 | h1 | h1
  · exact absurd h1 h
  · exact absurd h1 h2
  · exact h1
theorem num40 {x : Int32} (h : 0 ≤ x) (h2 : x ≤ 40) : ∃ k : Nat, k ≤ 40 ∧ x = nI k := by
  have h3 : ¬ x < 0 := by rw [fa_lt]; rw [fa_le] at h; omega
  exact nI_of2 (M := 40) (n := 40) (by decide) h3 h2
theorem q_found (x σ) : f_HG_found x σ = some ((-9000000000000000010) - x.toInt64, stF σ 1 x) := rfl
theorem q_fine (x σ) : f_HG_fine x σ = some (x, stF σ 1 0) := rfl
theorem q_mfound (x σ) : f_HM_found x σ = some ((-9000000000000000010) - x.toInt64, stF σ 40 x) := rfl
theorem q_mtaken (x σ) : f_HM_taken x σ = some (x, stF σ 40 0) := rfl
/-- the pair of a call: same answer, the rows stay alike -/
def stp (f g : St → Option (Int64 × St)) (I : St → Prop) (ka kl kf : List Nat) (σ : St) : Prop := ∃ r σ1 σ2, f σ = some (r, σ1) ∧ g σ1 = some (r, σ2) ∧ I σ2 ∧ fr ka kl kf σ σ2
def iFnd (σ : St) : Prop := σ.2.2.1 1 = σ.2.2.1 40
theorem st_found {x : Int32} {σ : St} {ka kl kf : List Nat} {I : St → Prop} (hI : I (stF (stF σ 1 x) 40 x)) (h1 : 1 ∈ kf) (h2 : 40 ∈ kf) : stp (f_HG_found x) (f_HM_found x) (fun s => I s ∧ iFnd s) ka kl kf σ := ⟨_, _, _, rfl, rfl, ⟨hI, by unfold iFnd; rw [sF3, sF3, sF3, sF3]; simp⟩, (fr.rf.F h1 _).F h2 _⟩
theorem st_row (x1 x2 x3 : Int32) {σ : St} (h : iRow σ) (hn : iFnd σ) : stp (f_HG_row x1 x2 x3) (f_HM_row x1 x2 x3) (fun s => iRow s ∧ iFnd s) [47, 48, 49, 63, 64, 65] [] [1, 40] σ := by
  unfold stp f_HG_row f_HM_row
  simp only [q_HG_isRow, q_HM_isRow, bd_s]
  have e0 : ∀ s : St, f_HM_in x2.toInt64 0 2 s = some (if x2 < 0 ∨ (3 : Int32) ≤ x2 then 0 else 1, s) := fun s => by
    exact q_HM_inN x2 0 2 (by decide) (by decide) s
  by_cases c1 : x1 < 0 ∨ (8 : Int32) ≤ x1
  · simp only [if_pos c1, if_true]
    exact ⟨_, _, _, rfl, rfl, ⟨h, hn⟩, fr.rf⟩
  · simp only [if_neg c1, show ¬ ((1 : Int32) = 0) by decide, if_false, e0, bd_s]
    obtain ⟨r, hr, rfl⟩ := ix8 c1
    by_cases c2 : x2 < 0
    · simp only [c2, if_true, true_or]
      exact ⟨_, _, _, rfl, rfl, ⟨h, hn⟩, fr.rf⟩
    · by_cases c3 : (3 : Int32) ≤ x2
      · simp only [c2, c3, if_true, if_false, or_true]
        exact ⟨_, _, _, rfl, rfl, ⟨h, hn⟩, fr.rf⟩
      · simp only [c2, c3, if_false, or_self, show ¬ ((1 : Int32) = 0) by decide]
        by_cases c4 : x3 ≤ 40
        · by_cases c5 : 0 ≤ x3
          · simp only [if_pos c4, if_pos c5]
            obtain ⟨k, hk, rfl⟩ := lane3 c2 c3
            obtain ⟨m, hm, rfl⟩ := num40 c5 c4
            obtain ⟨s1, l1, l2, l3⟩ := lay_loop r hr 40 0 FU (stA (stA σ 47 r (nI k)) 48 r (nI m)) (by omega) (by decide)
            have el : f_Shelf_lay (nI r) (nI k) (nI m) σ = some s1 := by
              unfold f_Shelf_lay f_Shelf_lay_l17
              rw [ck_p (ib_nI (by omega) (by decide)), lE_d, ck_p (ib_nI (by omega) (by decide)), lE_d, nI_clamp (by omega)]
              exact l1
            rw [el]
            simp only [bv_s, q_fine, bd_s]
            obtain ⟨s2, m1, m2, m3, m4⟩ := hm_row_loop r m hr hm m 0 FU (stA (stA (stF s1 1 0) 63 r (nI k)) 64 r (nI m)) (by omega) (by unfold FU; omega)
            refine ⟨_, _, s2, rfl, ?_, ⟨?_, ?_⟩, ?_⟩
            · unfold f_HM_row_l56
              rw [ck_p (ib_nI (by omega) (by decide)), lE_d, ck_p (ib_nI (by omega) (by decide)), lE_d, nI_clamp (by omega)]
              exact m1
            · intro r2 hr2
              have a47 : s2.1 47 = upd (σ.1 47) r (nI k) := by
                rw [m2.1 47 (by decide), sA1, if_neg (by decide), sA1, if_neg (by decide), sF1, l2.1 47 (by decide), sA1, if_neg (by decide), sA1, if_pos rfl]
              have a48 : s2.1 48 = upd (σ.1 48) r (nI m) := by
                rw [m2.1 48 (by decide), sA1, if_neg (by decide), sA1, if_neg (by decide), sF1, l2.1 48 (by decide), sA1, if_pos rfl, sA1, if_neg (by decide)]
              have a63 : s2.1 63 = upd (σ.1 63) r (nI k) := by
                rw [m2.1 63 (by decide), sA1, if_neg (by decide), sA1, if_pos rfl, sF1, l2.1 63 (by decide), sA1, if_neg (by decide), sA1, if_neg (by decide)]
              have a64 : s2.1 64 = upd (σ.1 64) r (nI m) := by
                rw [m2.1 64 (by decide), sA1, if_pos rfl, sA1, if_neg (by decide), sF1, l2.1 64 (by decide), sA1, if_neg (by decide), sA1, if_neg (by decide)]
              have a49 : ∀ i, s2.1 49 i = if 40 * r + 0 ≤ i ∧ i < 40 * r + 40 then 0 else σ.1 49 i := by
                intro i
                rw [m2.1 49 (by decide)]
                simp [sA1, sF1, l3 i]
              have a65 : ∀ i, s2.1 65 i = if 40 * r + 0 ≤ i ∧ i < 40 * r + m then 0 else σ.1 65 i := by
                intro i
                rw [m4 i]
                simp [sA1, sF1, l2.1 65]
              rw [a47, a48, a63, a64]
              by_cases er : r2 = r
              · subst er
                right
                refine ⟨k, m, hk, hm, by simp [updD], by simp [updD], by simp [updD], by simp [updD], fun i hi => ?_⟩
                rw [a49, a65, if_pos (by omega), if_pos (by omega)]
              · simp only [updD, if_neg er]
                rcases h r2 hr2 with h1 | ⟨k1, n1, h1, h2, h3, h4, h5, h6, h7⟩
                · exact Or.inl h1
                · right
                  refine ⟨k1, n1, h1, h2, h3, h4, h5, h6, fun i hi => ?_⟩
                  rw [a49, a65, if_neg (by omega), if_neg (by omega)]
                  exact h7 i hi
            · unfold iFnd
              rw [m3, m2.2.2.1 1 (by decide)]
              rfl
            · exact ((((fr.rf.A (by decide) _ _).A (by decide) _ _).tr (l2.mo (by decide) (by decide) (by decide))).F (by decide) _ |>.A (by decide) _ _ |>.A (by decide) _ _).tr (m2.mo (by decide) (by decide) (by decide))
          · simp only [if_pos c4, if_neg c5, q_found, q_mfound, bd_s]
            exact ⟨_, _, _, rfl, rfl, ⟨(h.fr (fr.rf.F (ka := []) (kl := []) (kf := [1, 40]) (by decide) _ |>.F (by decide) _) (by decide)), by unfold iFnd; simp [sF3]⟩, (fr.rf.F (by decide) _).F (by decide) _⟩
        · simp only [if_neg c4]
          exact ⟨_, _, _, rfl, rfl, ⟨h, hn⟩, fr.rf⟩
