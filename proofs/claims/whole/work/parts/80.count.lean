section
variable {σ : St} {n : Nat} {T : TT}
def cwd (T : TT) (v n : Nat) : Nat := sm (fun p => if T 1 p = v then 1 else 0) n
theorem q_countOf (h : gI σ n T) {v : Nat} (hv : v < 2) : f_Game_countOf (rR σ 0) (nI v) σ = some (nI (cwd T v n), σ) := by
  have n60 := h.n60
  unfold f_Game_countOf f_Game_countOf_l4
  rw [h.g, ck_t]
  obtain ⟨t, e, ht⟩ := lp_u0 (z := fun _ _ _ _ => none) (body := f_Game_countOf_b4 (rR σ 0)) (fun k i (t : St) => k (nI v) (nI (cwd T v i)) (nI i) t) (fun i t => t = σ) n (fun t => some (nI (cwd T v n), t)) (fun k i t hi hI => by
    rw [hI]
    refine ⟨σ, ?_, rfl⟩
    have kk := (h.1.K hi).2
    have e1 : (nI (T 1 i) = nI v) ↔ T 1 i = v := nI_eq (by omega) (by omega)
    show f_Game_countOf_b4 (rR σ 0) k (nI v) (nI (cwd T v i)) (nI i) σ = k (nI v) (nI (cwd T v i + if T 1 i = v then 1 else 0)) (nI (i + 1)) σ
    rw [f_Game_countOf_b4, h.c1, if_neg (nI_ge hi (by omega)), ck_p (ib_nI (show i < 60 by omega) (by decide)), h.C (by omega) (by omega) hi, nz_lt (by omega)]
    unfold f_Game_countOf_b25
    by_cases x : T 1 i = v
    · rw [if_pos (e1.mpr x), if_pos x, nI_1, nI_1]
    · rw [if_neg (fun z => x (e1.mp z)), if_neg x, nI_1]; rfl) (fun k t hI => by
    rw [hI]
    show f_Game_countOf_b4 (rR σ 0) k (nI v) _ (nI n) σ = _
    rw [f_Game_countOf_b4, h.c1, if_pos (nI_le (Nat.le_refl _) (by omega))]) (i := 0) (s := σ) (by omega) (Nat.zero_le _) rfl
  rw [ht] at e
  exact e
theorem q_count0 (h : gI σ n T) : f_HM_count_l86 0 0 σ = some ((nI (cwd T 0 n)).toInt64, σ) := by
  have n60 := h.n60
  unfold f_HM_count_l86
  obtain ⟨t, e, ht⟩ := lp_u0 (z := fun _ _ _ => none) (body := f_HM_count_b86) (fun k i (t : St) => k (nI (cwd T 0 i)) (nI i) t) (fun i t => t = σ) n (fun t => some ((nI (cwd T 0 n)).toInt64, t)) (fun k i t hi hI => by
    rw [hI]
    refine ⟨σ, ?_, rfl⟩
    have kk := (h.1.K hi).2
    have e1 : (nI (T 1 i) = 0) ↔ T 1 i = 0 := nI_eq (b := 0) (by omega) (by decide)
    have r1 : rI σ 67 (nI i) = nI (T 1 i) := by
      have : rI σ 67 (nI i) = nz (T 1 i) := h.M (j := 1) (by omega) (by omega) hi
      rw [this, nz_lt (by omega)]
    show f_HM_count_b86 k (nI (cwd T 0 i)) (nI i) σ = k (nI (cwd T 0 i + if T 1 i = 0 then 1 else 0)) (nI (i + 1)) σ
    rw [f_HM_count_b86, h.c2, if_neg (nI_ge hi (by omega)), ck_p (ib_nI (show i < 120 by omega) (by decide)), r1]
    unfold f_HM_count_b109
    by_cases x : T 1 i = 0
    · rw [if_pos (e1.mpr x), if_pos x, nI_1, nI_1]
    · rw [if_neg (fun z => x (e1.mp z)), if_neg x, show (0 : Int32) = nI 0 from rfl, nI_add, nI_1]) (fun k t hI => by
    rw [hI]
    show f_HM_count_b86 k _ (nI n) σ = _
    rw [f_HM_count_b86, h.c2, if_pos (nI_le (Nat.le_refl _) (by omega))]) (i := 0) (s := σ) (by omega) (Nat.zero_le _) rfl
  rw [ht] at e
  exact e
theorem q_count1 (h : gI σ n T) : f_HM_count_l122 0 0 σ = some ((nI (cwd T 1 n)).toInt64, σ) := by
  have n60 := h.n60
  unfold f_HM_count_l122
  obtain ⟨t, e, ht⟩ := lp_u0 (z := fun _ _ _ => none) (body := f_HM_count_b122) (fun k i (t : St) => k (nI (cwd T 1 i)) (nI i) t) (fun i t => t = σ) n (fun t => some ((nI (cwd T 1 n)).toInt64, t)) (fun k i t hi hI => by
    rw [hI]
    refine ⟨σ, ?_, rfl⟩
    have kk := (h.1.K hi).2
    have e1 : (nI (T 1 i) = 1) ↔ T 1 i = 1 := nI_eq (b := 1) (by omega) (by decide)
    have r1 : rI σ 67 (nI i) = nI (T 1 i) := by
      have : rI σ 67 (nI i) = nz (T 1 i) := h.M (j := 1) (by omega) (by omega) hi
      rw [this, nz_lt (by omega)]
    show f_HM_count_b122 k (nI (cwd T 1 i)) (nI i) σ = k (nI (cwd T 1 i + if T 1 i = 1 then 1 else 0)) (nI (i + 1)) σ
    rw [f_HM_count_b122, h.c2, if_neg (nI_ge hi (by omega)), ck_p (ib_nI (show i < 120 by omega) (by decide)), r1]
    unfold f_HM_count_b146
    by_cases x : T 1 i = 1
    · rw [if_pos (e1.mpr x), if_pos x, nI_1, nI_1]
    · rw [if_neg (fun z => x (e1.mp z)), if_neg x, show (0 : Int32) = nI 0 from rfl, nI_add, nI_1]) (fun k t hI => by
    rw [hI]
    show f_HM_count_b122 k _ (nI n) σ = _
    rw [f_HM_count_b122, h.c2, if_pos (nI_le (Nat.le_refl _) (by omega))]) (i := 0) (s := σ) (by omega) (Nat.zero_le _) rfl
  rw [ht] at e
  exact e
def cst (T : TT) (n : Nat) : Nat := sm (fun s => if T 13 s = 1000 then 0 else 1) n
theorem q_countSets (h : gI σ n T) : f_Game_countSets (rR σ 0) σ = some (nI (cst T 10), σ) ∧ f_HM_count_l159 0 0 σ = some ((nI (cst T 10)).toInt64, σ) := by
  constructor
  · unfold f_Game_countSets f_Game_countSets_l4
    rw [h.g, ck_t]
    obtain ⟨t, e, ht⟩ := lp_u0 (z := fun _ _ _ => none) (body := f_Game_countSets_b4 (rR σ 0)) (fun k i (t : St) => k (nI (cst T i)) (nI i) t) (fun i t => t = σ) 10 (fun t => some (nI (cst T 10), t)) (fun k i t hi hI => by
      rw [hI]
      refine ⟨σ, ?_, rfl⟩
      have so := h.so hi
      have t15 := t15_e h hi
      show f_Game_countSets_b4 (rR σ 0) k (nI (cst T i)) (nI i) σ = k (nI (cst T i + if T 13 i = 1000 then 0 else 1)) (nI (i + 1)) σ
      rw [f_Game_countSets_b4, if_neg (show ¬ (10 : Int32) ≤ nI i from nI_ge (b := 10) hi (by decide)), ck_p (ib_nI hi (by decide)), h.S (by omega) (by omega) hi, nz_lt (by omega)]
      unfold f_Game_countSets_b22
      by_cases x : T 13 i = 1000
      · rw [if_pos (by rw [show T 15 i = 0 by omega]; decide), if_pos x, nI_1]; rfl
      · rw [if_neg (nI_nle (by omega) (by omega)), if_neg x, nI_1, nI_1]) (fun k t hI => by
      rw [hI]
      show f_Game_countSets_b4 (rR σ 0) k _ (nI 10) σ = _
      rw [f_Game_countSets_b4, if_pos (show (10 : Int32) ≤ nI 10 by decide)]) (i := 0) (s := σ) (by omega) (by omega) rfl
    rw [ht] at e
    exact e
  · unfold f_HM_count_l159
    obtain ⟨t, e, ht⟩ := lp_u0 (z := fun _ _ _ => none) (body := f_HM_count_b159) (fun k i (t : St) => k (nI (cst T i)) (nI i) t) (fun i t => t = σ) 10 (fun t => some ((nI (cst T 10)).toInt64, t)) (fun k i t hi hI => by
      rw [hI]
      refine ⟨σ, ?_, rfl⟩
      have so := h.so hi
      show f_HM_count_b159 k (nI (cst T i)) (nI i) σ = k (nI (cst T i + if T 13 i = 1000 then 0 else 1)) (nI (i + 1)) σ
      rw [f_HM_count_b159, if_neg (show ¬ (10 : Int32) ≤ nI i from nI_ge (b := 10) hi (by decide)), ck_p (ib_nI (show i < 20 by omega) (by decide)), h.P hi]
      unfold f_HM_count_b180
      by_cases x : T 13 i = 1000
      · rw [show (if T 13 i = 1000 then (-1 : Int32) else nI (T 13 i)) = -1 from if_pos x, if_pos (by decide), if_pos x, show (0 : Int32) = nI 0 from rfl, nI_add, nI_1]
      · rw [show (if T 13 i = 1000 then (-1 : Int32) else nI (T 13 i)) = nI (T 13 i) from if_neg x, if_neg (nI_pos (by omega)), if_neg x, nI_1, nI_1]) (fun k t hI => by
      rw [hI]
      show f_HM_count_b159 k _ (nI 10) σ = _
      rw [f_HM_count_b159, if_pos (show (10 : Int32) ≤ nI 10 by decide)]) (i := 0) (s := σ) (by omega) (by omega) rfl
    rw [ht] at e
    exact e
end
theorem q_countRows {σ : St} (h : iRow σ) : ∃ r, f_Shelf_countRows σ = some (r, σ) ∧ f_HM_count_l46 0 0 σ = some (r.toInt64, σ) := by
  have key : ∀ m i f f' c, i + m = 8 → m < f → m < f' → ∃ r, lp (fun _ _ _ => none) f_Shelf_countRows_b4 f c (nI i) σ = some (r, σ) ∧ lp (fun _ _ _ => none) f_HM_count_b46 f' c (nI i) σ = some (r.toInt64, σ) := by
    intro m
    induction m with
    | zero =>
      intro i f f' c hi hf hf'
      obtain ⟨f, rfl⟩ : ∃ f0, f = f0 + 1 := ⟨f - 1, by omega⟩
      obtain ⟨f', rfl⟩ : ∃ f0, f' = f0 + 1 := ⟨f' - 1, by omega⟩
      have l8 : (8 : Int32) ≤ nI i := nI_le (a := 8) (by omega) (by omega)
      refine ⟨c, ?_, ?_⟩
      · rw [lp_s, f_Shelf_countRows_b4, if_pos l8]
      · rw [lp_s, f_HM_count_b46, if_pos l8]
    | succ m ih =>
      intro i f f' c hi hf hf'
      obtain ⟨f, rfl⟩ : ∃ f0, f = f0 + 1 := ⟨f - 1, by omega⟩
      obtain ⟨f', rfl⟩ : ∃ f0, f' = f0 + 1 := ⟨f' - 1, by omega⟩
      have l8 : ¬ (8 : Int32) ≤ nI i := nI_ge (b := 8) (by omega) (by decide)
      have b1 : ib (nI i) 8 = true := ib_nI (by omega) (by decide)
      have r63 : rI σ 63 (nI i) = σ.1 63 i := by rw [rI, nI_clamp (by omega)]
      rw [lp_s, lp_s, f_Shelf_countRows_b4, f_HM_count_b46, if_neg l8, if_neg l8, q_isMissing (show i < 8 by omega), bd_s, ck_p b1, r63]
      unfold f_Shelf_countRows_b21 f_HM_count_b67
      rw [nI_1]
      rcases h i (by omega) with ⟨l1, l2⟩ | ⟨k, mm, k3, _, l1, l2, _⟩
      · rw [if_pos l2, if_neg i10, l1, if_pos (by decide), Int32.add_zero]
        exact ih (i + 1) f f' c (by omega) (by omega) (by omega)
      · rw [if_neg (show ¬ σ.1 47 i = -1000000 by rw [l2]; exact m1_ne k k3), if_pos rfl, l1, if_neg (nI_pos (by omega))]
        exact ih (i + 1) f f' (c + 1) (by omega) (by omega) (by omega)
  unfold f_Shelf_countRows f_Shelf_countRows_l4 f_HM_count_l46
  exact key 8 0 FU FU 0 (by omega) (by unfold FU; omega) (by unfold FU; omega)
theorem st_count (x1 : Int32) {σ : St} (hI : Inv σ) : stq (f_HG_count x1) (f_HM_count x1) σ := by
  obtain ⟨n, T, sh, R, D, hg, _, hr⟩ := hI.1.2.2.2.2
  obtain ⟨rC0, rM0, _⟩ := rdI_iff.mp hr
  obtain ⟨L, _, t2, t41, _⟩ := hI.2.1
  obtain ⟨r, q1, q2⟩ := q_countRows hI.1.1
  obtain ⟨q3, q4⟩ := q_countSets hg
  have q5 : f_Game_countOf (rR σ 0) 0 σ = some (nI (cwd T 0 n), σ) := q_countOf hg (v := 0) (by omega)
  have q6 : f_Game_countOf (rR σ 0) 1 σ = some (nI (cwd T 1 n), σ) := q_countOf hg (v := 1) (by omega)
  have q7 := q_count0 hg
  have q8 := q_count1 hg
  unfold stq f_HG_count f_HM_count
  rw [q1, bd_s, hg.g, ck_t, ck_t, ck_t, ck_t, hg.c1, q5, bd_s, q6, bd_s, q3, bd_s]
  have M : (if x1 = 0 then (f_HM_count_l46 0 0 σ) else if x1 = 1 then (some ((rF σ 43).toInt64, σ)) else if x1 = 2 then (f_HM_count_l86 0 0 σ) else if x1 = 3 then (f_HM_count_l122 0 0 σ) else if x1 = 4 then (f_HM_count_l159 0 0 σ) else if x1 = 5 then (some ((rF σ 44).toInt64, σ)) else if x1 = 6 then (some ((rF σ 41).toInt64, σ)) else (some ((-9000000000000000001), σ))) = (if x1 = 0 then some (r.toInt64, σ) else if x1 = 1 then some ((nI n).toInt64, σ) else if x1 = 2 then some ((nI (cwd T 0 n)).toInt64, σ) else if x1 = 3 then some ((nI (cwd T 1 n)).toInt64, σ) else if x1 = 4 then some ((nI (cst T 10)).toInt64, σ) else if x1 = 5 then some ((rF σ 11).toInt64, σ) else if x1 = 6 then some ((rF σ 2).toInt64, σ) else some ((-9000000000000000001), σ)) := by
    rw [q2, hg.c2, q7, q8, q4, rF, rF, rF, rF, rC0.2.1, rM0.1, t2, t41]
  have key : ∃ r', (if x1 = 0 then some (r.toInt64, σ) else if x1 = 1 then some ((nI n).toInt64, σ) else if x1 = 2 then some ((nI (cwd T 0 n)).toInt64, σ) else if x1 = 3 then some ((nI (cwd T 1 n)).toInt64, σ) else if x1 = 4 then some ((nI (cst T 10)).toInt64, σ) else if x1 = 5 then some ((rF σ 11).toInt64, σ) else if x1 = 6 then some ((rF σ 2).toInt64, σ) else some ((-9000000000000000001), σ)) = some (r', σ) := by
    repeat' split
    all_goals exact ⟨_, rfl⟩
  obtain ⟨r', e⟩ := key
  exact ⟨r', σ, σ, e, M.trans e, hI⟩
