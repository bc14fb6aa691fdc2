theorem add64 (a b : Int32) : (a.toInt64 + b.toInt64).toInt = a.toInt + b.toInt := by
  have h1 := Int32.le_toInt a
  have h2 := Int32.toInt_lt a
  have h3 := Int32.le_toInt b
  have h4 := Int32.toInt_lt b
  rw [Int64.toInt_add, Int32.toInt_toInt64, Int32.toInt_toInt64, Int.bmod_def]
  omega
theorem q_isMissing {r : Nat} (hr : r < 8) (σ : St) : f_Shelf_isMissing (nI r) σ = some (if σ.1 47 r = -1000000 then 1 else 0, σ) := by
  unfold f_Shelf_isMissing
  rw [ck_p (ib_nI hr (by decide))]
  unfold rI
  rw [nI_clamp (by omega)]
  by_cases h : σ.1 47 r = -1000000 <;> simp [h]
theorem q_hasItems {r n : Nat} (hr : r < 8) {σ : St} (hn : σ.1 48 r = nI n) (h40 : n ≤ 40) (x y : Int32) : f_Shelf_hasItems (nI r) x y σ = some (if 0 ≤ x.toInt ∧ 0 ≤ y.toInt ∧ x.toInt + y.toInt ≤ n then 1 else 0, σ) := by
  unfold f_Shelf_hasItems
  have hx : x < 0 ↔ x.toInt < 0 := fa_lt x 0
  have hy : y < 0 ↔ y.toInt < 0 := fa_lt y 0
  rw [ck_p (ib_nI hr (by decide))]
  unfold rI
  rw [nI_clamp (by omega), hn]
  have hs : (nI n).toInt64 < x.toInt64 + y.toInt64 ↔ (n : Int) < x.toInt + y.toInt := by
    rw [fa_lt64, add64, Int32.toInt_toInt64, nI_toInt (by omega)]
  simp only [hx, hy, hs]
  by_cases h1 : x.toInt < 0
  · rw [if_pos h1, if_neg (by omega)]
  · rw [if_neg h1]
    by_cases h2 : y.toInt < 0
    · rw [if_pos h2, if_neg (by omega)]
    · rw [if_neg h2]
      by_cases h3 : (n : Int) < x.toInt + y.toInt
      · rw [if_pos h3, if_neg (by omega)]
      · rw [if_neg h3, if_pos (by omega)]
theorem nat_of {x : Int32} (h : 0 ≤ x.toInt) : ∃ i : Nat, i < 2 ^ 31 ∧ x = nI i ∧ x.toInt = i := by
  have h3 : ¬ x < 0 := by rw [fa_lt]; exact Int.not_lt.mpr h
  obtain ⟨j, h1, h2⟩ := nI_of h3
  exact ⟨j, h1, h2, by rw [h2, nI_toInt h1]⟩
def low (k : Nat) (v : Int32) : Int32 := if k = 0 then v.toInt8.toInt32 else if k = 1 then v.toInt16.toInt32 else v
theorem q_put {r k i : Nat} (hr : r < 8) (hk : k < 3) (hi : i < 40) {σ : St} (h : σ.1 47 r = nI k) (v : Int32) : f_Shelf_put (nI r) (nI i) v σ = some (low k v, stA σ 49 (40 * r + i) (low k v)) := by
  unfold f_Shelf_put
  rw [ck_p (ib_nI hr (by decide))]
  have e : rI σ 47 (nI r) = nI k := by unfold rI; rw [nI_clamp (by omega), h]
  have hb : ∀ x, f_Shelf_put_b30 (nI r) (nI i) x σ = some (x, stA σ 49 (40 * r + i) x) := fun x => by
    unfold f_Shelf_put_b30
    rw [ix40, ck_p (ib_nI (by omega) (by decide)), lE_d, nI_clamp (by omega)]
  rw [ck_p (ib_nI hr (by decide)), e]
  simp only [hb]
  have : k = 0 ∨ k = 1 ∨ k = 2 := by omega
  rcases this with rfl | rfl | rfl <;> rfl
theorem q_mput {r k i : Nat} (hr : r < 8) (hk : k < 3) (hi : i < 40) {σ : St} (h : σ.1 63 r = nI k) (v : Int32) : (ck (ib (nI r) 8) <| if (rI σ 63 (nI r)) = 0 then (f_HM_set_b90 (nI r) (nI i) ((40 * nI r) + nI i) v.toInt8.toInt32 σ) else (ck (ib (nI r) 8) <| if (rI σ 63 (nI r)) = 1 then (f_HM_set_b90 (nI r) (nI i) ((40 * nI r) + nI i) v.toInt16.toInt32 σ) else (f_HM_set_b90 (nI r) (nI i) ((40 * nI r) + nI i) v σ))) = some ((low k v).toInt64, stF (stA σ 65 (40 * r + i) (low k v)) 40 0) := by
  have e : rI σ 63 (nI r) = nI k := by unfold rI; rw [nI_clamp (by omega), h]
  have hb : ∀ x, f_HM_set_b90 (nI r) (nI i) ((40 * nI r) + nI i) x σ = some (x.toInt64, stF (stA σ 65 (40 * r + i) x) 40 0) := fun x => by
    unfold f_HM_set_b90
    rw [ix40', ck_p (ib_nI (by omega) (by decide)), lE_d, ck_p (ib_nI (by omega) (by decide)), nI_clamp (by omega), q_mtaken, bd_s]
    unfold rI
    rw [nI_clamp (by omega), sA1, if_pos rfl, updD, if_pos rfl]
  rw [ck_p (ib_nI hr (by decide)), ck_p (ib_nI hr (by decide)), e]
  simp only [hb]
  have : k = 0 ∨ k = 1 ∨ k = 2 := by omega
  rcases this with rfl | rfl | rfl <;> rfl
theorem iRow_item {σ : St} (h : iRow σ) {r i : Nat} (hr : r < 8) (hi : i < 40) (v : Int32) : iRow (stA (stA σ 49 (40 * r + i) v) 65 (40 * r + i) v) := by
  intro r2 hr2
  simp only [sA1, Nat.reduceEqDiff, if_true, if_false]
  rcases h r2 hr2 with h1 | ⟨k1, n1, h1, h2, h3, h4, h5, h6, h7⟩
  · exact Or.inl h1
  · right
    refine ⟨k1, n1, h1, h2, h3, h4, h5, h6, fun j hj => ?_⟩
    rw [updD, updD]
    by_cases e : 40 * r2 + j = 40 * r + i
    · rw [if_pos e, if_pos e]
    · rw [if_neg e, if_neg e]; exact h7 j hj
theorem iRow_F {σ : St} (h : iRow σ) (n : Nat) (x : Int32) : iRow (stF σ n x) := h
theorem lane0 (k : Nat) (hk : k < 3) : 0 ≤ (nI k : Int32) := nI_pos' (by omega)
theorem st_set (x1 x2 x3 : Int32) {σ : St} (h : iRow σ) (hn : iFnd σ) : stp (f_HG_set x1 x2 x3) (f_HM_set x1 x2 x3) (fun s => iRow s ∧ iFnd s) [49, 65] [] [1, 40] σ := by
  unfold stp f_HG_set f_HM_set
  simp only [q_HG_isRow, q_HM_isRow, bd_s]
  by_cases c1 : x1 < 0 ∨ (8 : Int32) ≤ x1
  · simp only [if_pos c1, if_true]
    exact ⟨_, _, _, rfl, rfl, ⟨h, hn⟩, fr.rf⟩
  · simp only [if_neg c1, show ¬ ((1 : Int32) = 0) by decide, if_false]
    obtain ⟨r, hr, rfl⟩ := ix8 c1
    rw [q_isMissing hr, bd_s]
    rcases h r hr with ⟨h1, h2⟩ | ⟨k, n, h1, h2, h3, h4, h5, h6, h7⟩
    · simp only [h2, if_true, show ¬ ((1 : Int32) = 0) by decide, if_false, q_found, bd_s]
      refine ⟨_, _, _, rfl, ?_, ⟨iRow_F (iRow_F h 1 1) 40 1, by unfold iFnd; simp [sF3]⟩, (fr.rf.F (by decide) _).F (by decide) _⟩
      rw [ck_p (ib_nI hr (by decide))]
      unfold rI
      rw [nI_clamp (by omega), sF1, h1, if_neg (by decide), q_mfound, bd_s]
    · rw [h4, if_neg (m1_ne k h1), if_pos rfl, q_hasItems hr h5 h2, bd_s]
      have hm : ∀ s : St, s.1 64 r = nI n → f_HM_in x2.toInt64 0 (((rI s 64 (nI r)) - 1).toInt64) s = some (if 0 ≤ x2.toInt ∧ 0 ≤ (1 : Int32).toInt ∧ x2.toInt + (1 : Int32).toInt ≤ n then 1 else 0, s) := by
        intro s hs
        have e : rI s 64 (nI r) = nI n := by unfold rI; rw [nI_clamp (by omega), hs]
        rw [e, q_HM_in]
        have e1 : x2.toInt64 < 0 ↔ x2.toInt < 0 := by rw [fa_lt64, Int32.toInt_toInt64]; rfl
        have e2 : (nI n - 1).toInt64 < x2.toInt64 ↔ (n : Int) ≤ x2.toInt := by
          rw [fa_lt64, Int32.toInt_toInt64, Int32.toInt_toInt64, show (1 : Int32) = nI 1 from rfl, pk_sub_toInt (by omega) (by omega)]
          omega
        have e3 : (1 : Int32).toInt = 1 := rfl
        simp only [e1, e2, e3]
        by_cases q : x2.toInt < 0 ∨ (n : Int) ≤ x2.toInt
        · rw [if_pos q, if_neg (by omega)]
        · rw [if_neg q, if_pos (by omega)]
      have hm3 : ∀ s : St, s.1 63 r = nI k → 0 ≤ rI s 63 (nI r) := fun s hs => by
        unfold rI; rw [nI_clamp (by omega), hs]; exact lane0 k h1
      by_cases c2 : 0 ≤ x2.toInt ∧ 0 ≤ (1 : Int32).toInt ∧ x2.toInt + (1 : Int32).toInt ≤ n
      · rw [if_pos c2, if_neg (by decide)]
        obtain ⟨i, hi, rfl, hi2⟩ := nat_of c2.1
        have hin : i < n := by have := c2.2.2; rw [hi2, show (1 : Int32).toInt = 1 from rfl] at this; omega
        rw [q_put hr h1 (by omega) h4, bd_s, q_fine, bd_s]
        refine ⟨_, _, stF (stA (stF (stA σ 49 (40 * r + i) (low k x3)) 1 0) 65 (40 * r + i) (low k x3)) 40 0, rfl, ?_, ⟨?_, ?_⟩, ?_⟩
        · rw [ck_p (ib_nI hr (by decide)), if_pos (hm3 _ (by simp [sA1, sF1, h3])), ck_p (ib_nI hr (by decide)), hm _ (by simp [sA1, sF1, h6]), if_pos c2, bd_s, if_neg (by decide)]
          exact q_mput hr h1 (by omega) (by simp [sA1, sF1, h3]) x3
        · exact iRow_F (iRow_item h hr (show i < 40 by omega) (low k x3)) 40 0
        · unfold iFnd; rfl
        · exact (((fr.rf.A (by decide) _ _).F (by decide) _).A (by decide) _ _).F (by decide) _
      · rw [if_neg c2, if_pos rfl, q_found, bd_s]
        refine ⟨_, _, _, rfl, ?_, ⟨iRow_F (iRow_F h 1 2) 40 2, by unfold iFnd; simp [sF3]⟩, (fr.rf.F (by decide) _).F (by decide) _⟩
        rw [ck_p (ib_nI hr (by decide)), if_pos (hm3 _ (by simp [sF1, h3])), ck_p (ib_nI hr (by decide)), hm _ (by simp [sF1, h6]), if_neg c2, bd_s, if_pos rfl, q_mfound, bd_s]
