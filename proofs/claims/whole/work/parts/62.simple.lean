/-! what calls ask of the game -/
section
variable {σ : St} {n : Nat} {T : TT}
theorem gI.n60 (h : gI σ n T) : n ≤ 60 := h.1.2.1
theorem gI.g (h : gI σ n T) : isG (rR σ 0) = true := by
  rcases (g_of h).1 with e | e <;> rw [rR, e] <;> rfl
theorem gI.C (h : gI σ n T) {j p : Nat} (j1 : 1 ≤ j) (j8 : j ≤ 8) (hp : p < n) : rI σ (rR σ 0 + j) (nI p) = nz (T j p) := by
  have := h.n60
  rw [rI, nI_clamp (by omega)]
  exact h.2.2.1.1 j p j1 j8 hp
theorem gI.S (h : gI σ n T) {j s : Nat} (j1 : 13 ≤ j) (j8 : j ≤ 16) (hs : s < 10) : rI σ (rR σ 0 + j) (nI s) = nz (T j s) := by
  rw [rI, nI_clamp (by omega)]
  exact h.2.2.1.2.2.2.1 j s j1 j8 hs
theorem gI.M (h : gI σ n T) {j p : Nat} (j1 : 1 ≤ j) (j8 : j ≤ 7) (hp : p < n) : rI σ (mr j) (nI p) = nz (T j p) := by
  have := h.n60
  rw [rI, nI_clamp (by omega)]
  exact h.2.2.2.1 j p j1 j8 hp
theorem gI.P (h : gI σ n T) {s : Nat} (hs : s < 10) : rI σ 76 (nI s) = if T 13 s = 1000 then -1 else nI (T 13 s) := by
  rw [rI, nI_clamp (by omega)]
  exact h.2.2.2.2.2.1 s hs
theorem gI.Ac (h : gI σ n T) {s : Nat} (hs : s < 10) : rI σ 77 (nI s) = nI (T 14 s) := by
  rw [rI, nI_clamp (by omega)]
  exact h.2.2.2.2.2.2.1 s hs
theorem gI.c1 (h : gI σ n T) : rF σ (rR σ 0 + 10) = nI n := h.2.2.1.2.2.2.2.2.2
theorem gI.c2 (h : gI σ n T) : rF σ 43 = nI n := h.2.2.2.2.2.2.2.2
theorem gI.so (h : gI σ n T) {s : Nat} (hs : s < 10) : (T 13 s = 1000 ∧ T 14 s = 0 ∧ T 15 s = 0) ∨ (T 13 s < 2 ∧ 2 ≤ T 14 s ∧ T 14 s ≤ 3 ∧ 1 ≤ T 15 s) := (h.1.1.2.2.2.2 s hs).1
end
theorem q_inM (x : Int32) {m : Nat} (hm : m < 2 ^ 30) (σ : St) : f_HM_in x.toInt64 0 ((nI m - 1).toInt64) σ = some (if x < 0 ∨ nI m ≤ x then 0 else 1, σ) := by
  have e0 : f_HM_in x.toInt64 0 ((nI m - 1).toInt64) σ = f_HM_in x.toInt64 (0 : Int32).toInt64 ((nI m - 1).toInt64) σ := rfl
  rw [e0, q_HM_inI]
  have e : (nI m - 1 < x) ↔ (nI m ≤ x) := by
    rw [fa_lt, fa_le, show (1 : Int32) = nI 1 from rfl, pk_sub_toInt hm (by decide), nI_toInt (by omega)]
    omega
  simp only [e]
theorem q_isPlaceC {σ : St} {n : Nat} {T : TT} (h : gI σ n T) (x : Int32) : f_HG_isPlace x σ = some (if x < 0 ∨ nI n ≤ x then 0 else 1, σ) := by
  unfold f_HG_isPlace
  rw [h.g, ck_t, h.c1]
  by_cases c : x < 0
  · rw [if_pos c, if_pos (Or.inl c)]
  · rw [if_neg c]
    by_cases d : nI n ≤ x
    · rw [if_pos d, if_pos (Or.inr d)]
    · rw [if_neg d, if_neg (fun z => z.elim c d)]
theorem q_isPlaceM {σ : St} {n : Nat} {T : TT} (h : gI σ n T) (x : Int32) : f_HM_isPlace x σ = some (if x < 0 ∨ nI n ≤ x then 0 else 1, σ) := by
  unfold f_HM_isPlace
  have := h.n60
  rw [h.c2, q_inM x (by omega), bd_s, ck_p (isB_if _)]
theorem ixn {x : Int32} {n : Nat} (hn : n < 2 ^ 31) (h : ¬ (x < 0 ∨ nI n ≤ x)) : ∃ p : Nat, p < n ∧ x = nI p := by
  rcases pk_ix x (n := n) hn with h1 | h1 | h1
  · exact absurd (Or.inl h1) h
  · exact absurd (Or.inr h1) h
  · exact h1
theorem i10 : ¬ ((1 : Int32) = 0) := by decide
theorem st_place (x1 x2 : Int32) {σ : St} (hI : Inv σ) : stq (f_HG_place x1 x2) (f_HM_place x1 x2) σ := by
  obtain ⟨n, T, sh, R, D, hg, _, _⟩ := hI.1.2.2.2.2
  have n60 := hg.n60
  unfold stq f_HG_place f_HM_place
  rw [q_isPlaceC hg, bd_s]
  by_cases c : x1 < 0 ∨ nI n ≤ x1
  · rw [if_pos c, if_pos rfl]
    refine ⟨_, _, σ, rfl, ?_, hI⟩
    rw [q_isPlaceM hg, bd_s, if_pos c, if_pos rfl]
  · rw [if_neg c, if_neg i10]
    obtain ⟨p, hp, rfl⟩ := ixn (by omega) c
    have b1 : ib (nI p) 60 = true := ib_nI (by omega) (by decide)
    have b2 : ib (nI p) 120 = true := ib_nI (by omega) (by decide)
    rw [hg.g, ck_t, ck_p b1, ck_t, ck_p b1, ck_t, ck_p b1, ck_t, ck_p b1, ck_t, ck_p b1, ck_t, ck_p b1, hg.C (by omega) (by omega) hp, hg.C (by omega) (by omega) hp, hg.C (by omega) (by omega) hp, hg.C (by omega) (by omega) hp, hg.C (by omega) (by omega) hp, hg.C (by omega) (by omega) hp]
    have M : (bd (f_HM_isPlace (nI p) σ) fun r3 σ2 => if r3 = 0 then (some ((-9000000000000000001), σ2)) else (if x2 = 0 then (ck (ib (nI p) 120) <| some ((rI σ2 67 (nI p)).toInt64, σ2)) else if x2 = 1 then (ck (ib (nI p) 120) <| some ((rI σ2 68 (nI p)).toInt64, σ2)) else if x2 = 2 then (ck (ib (nI p) 120) <| some ((rI σ2 69 (nI p)).toInt64, σ2)) else if x2 = 3 then (ck (ib (nI p) 120) <| some ((rI σ2 70 (nI p)).toInt64, σ2)) else if x2 = 4 then (ck (ib (nI p) 120) <| some ((rI σ2 71 (nI p)).toInt64, σ2)) else if x2 = 5 then (ck (ib (nI p) 120) <| some ((rI σ2 74 (nI p)).toInt64, σ2)) else (some ((-9000000000000000001), σ2)))) = (if x2 = 0 then some ((nz (T 1 p)).toInt64, σ) else if x2 = 1 then some ((nz (T 2 p)).toInt64, σ) else if x2 = 2 then some ((nz (T 3 p)).toInt64, σ) else if x2 = 3 then some ((nz (T 4 p)).toInt64, σ) else if x2 = 4 then some ((nz (T 5 p)).toInt64, σ) else if x2 = 5 then some ((nz (T 6 p)).toInt64, σ) else some ((-9000000000000000001), σ)) := by
      have r1 : rI σ 67 (nI p) = nz (T 1 p) := hg.M (j := 1) (by omega) (by omega) hp
      have r2 : rI σ 68 (nI p) = nz (T 2 p) := hg.M (j := 2) (by omega) (by omega) hp
      have r3 : rI σ 69 (nI p) = nz (T 3 p) := hg.M (j := 3) (by omega) (by omega) hp
      have r4 : rI σ 70 (nI p) = nz (T 4 p) := hg.M (j := 4) (by omega) (by omega) hp
      have r5 : rI σ 71 (nI p) = nz (T 5 p) := hg.M (j := 5) (by omega) (by omega) hp
      have r6 : rI σ 74 (nI p) = nz (T 6 p) := hg.M (j := 6) (by omega) (by omega) hp
      rw [q_isPlaceM hg, bd_s, if_neg c, if_neg i10, ck_p b2, ck_p b2, ck_p b2, ck_p b2, ck_p b2, ck_p b2, r1, r2, r3, r4, r5, r6]
    by_cases d0 : x2 = 0
    · rw [if_pos d0] at M ⊢
      exact ⟨_, σ, σ, rfl, M, hI⟩
    · rw [if_neg d0] at M ⊢
      by_cases d1 : x2 = 1
      · rw [if_pos d1] at M ⊢
        exact ⟨_, σ, σ, rfl, M, hI⟩
      · rw [if_neg d1] at M ⊢
        by_cases d2 : x2 = 2
        · rw [if_pos d2] at M ⊢
          exact ⟨_, σ, σ, rfl, M, hI⟩
        · rw [if_neg d2] at M ⊢
          by_cases d3 : x2 = 3
          · rw [if_pos d3] at M ⊢
            exact ⟨_, σ, σ, rfl, M, hI⟩
          · rw [if_neg d3] at M ⊢
            by_cases d4 : x2 = 4
            · rw [if_pos d4] at M ⊢
              exact ⟨_, σ, σ, rfl, M, hI⟩
            · rw [if_neg d4] at M ⊢
              by_cases d5 : x2 = 5
              · rw [if_pos d5] at M ⊢
                exact ⟨_, σ, σ, rfl, M, hI⟩
              · rw [if_neg d5] at M ⊢
                exact ⟨_, σ, σ, rfl, M, hI⟩
theorem q_isSet {σ : St} {n : Nat} {T : TT} (h : gI σ n T) (x : Int32) : (∃ s, s < 10 ∧ x = nI s ∧ T 13 s < 2 ∧ f_HG_isSet x σ = some (1, σ) ∧ f_HM_isSet x σ = some (1, σ)) ∨ (f_HG_isSet x σ = some (0, σ) ∧ f_HM_isSet x σ = some (0, σ)) := by
  have e0 : f_HM_in x.toInt64 0 9 σ = some (if x < 0 ∨ (10 : Int32) ≤ x then 0 else 1, σ) := q_HM_inN x 0 9 (by decide) (by decide) σ
  unfold f_HG_isSet f_HM_isSet
  rw [e0, bd_s]
  by_cases c : x < 0
  · right
    rw [if_pos c, if_pos (Or.inl c), if_pos rfl]
    exact ⟨rfl, rfl⟩
  · rw [if_neg c]
    by_cases d : (10 : Int32) ≤ x
    · right
      rw [if_pos d, if_pos (Or.inr d), if_pos rfl]
      exact ⟨rfl, rfl⟩
    · have nn : ¬ (x < 0 ∨ (10 : Int32) ≤ x) := fun z => z.elim c d
      rw [if_neg d, if_neg nn, if_neg i10]
      obtain ⟨s, hs, rfl⟩ := ixn (x := x) (n := 10) (by decide) (fun z => z.elim c d)
      have so := h.so hs
      have b1 : ib (nI s) 10 = true := ib_nI hs (by decide)
      have b2 : ib (nI s) 20 = true := ib_nI (by omega) (by decide)
      have t15 : T 15 s ≤ 60 := by
        have := (h.1.1.2.2.2.1 s hs).1
        have := cn_le T s n
        have := h.n60
        omega
      rw [h.g, ck_t, ck_p b1, ck_p b2, h.S (by omega) (by omega) hs, h.P hs, nz_lt (by omega)]
      rcases so with ⟨s1, s2, s3⟩ | ⟨s1, s2, s3, s4⟩
      · right
        rw [if_pos s1, s3, if_pos (by decide), if_pos (by decide)]
        exact ⟨rfl, rfl⟩
      · left
        refine ⟨s, hs, rfl, s1, ?_, ?_⟩
        · rw [if_neg (nI_nle (by omega) (by omega))]
        · rw [show (if T 13 s = 1000 then (-1 : Int32) else nI (T 13 s)) = nI (T 13 s) from if_neg (by omega), if_neg (nI_pos (by omega))]
theorem q_isAct {σ : St} {n : Nat} {T : TT} (h : gI σ n T) (x y : Int32) : (∃ s a, s < 10 ∧ x = nI s ∧ T 13 s < 2 ∧ a < T 14 s ∧ y = nI a ∧ f_HG_isAct x y σ = some (1, σ) ∧ f_HM_isSet x σ = some (1, σ) ∧ f_HM_in y.toInt64 0 (((rI σ 77 x) - 1).toInt64) σ = some (1, σ)) ∨ (f_HG_isAct x y σ = some (0, σ) ∧ (f_HM_isSet x σ = some (0, σ) ∨ ∃ s, s < 10 ∧ x = nI s ∧ f_HM_isSet x σ = some (1, σ) ∧ f_HM_in y.toInt64 0 (((rI σ 77 x) - 1).toInt64) σ = some (0, σ))) := by
  unfold f_HG_isAct
  rcases q_isSet h x with ⟨s, hs, rfl, h1, h2, h3⟩ | ⟨h2, h3⟩
  · rw [h2, bd_s, if_neg i10]
    have so := h.so hs
    have b1 : ib (nI s) 10 = true := ib_nI hs (by decide)
    rw [h.g, ck_t, ck_p b1, h.S (by omega) (by omega) hs, h.Ac hs, nz_lt (by omega), q_inM y (by omega)]
    by_cases c : y < 0
    · right
      rw [if_pos c, if_pos (Or.inl c)]
      exact ⟨rfl, Or.inr ⟨s, hs, rfl, h3, rfl⟩⟩
    · rw [if_neg c]
      by_cases d : nI (T 14 s) ≤ y
      · right
        rw [if_pos d, if_pos (Or.inr d)]
        exact ⟨rfl, Or.inr ⟨s, hs, rfl, h3, rfl⟩⟩
      · left
        rw [if_neg d, if_neg (fun z => z.elim c d)]
        obtain ⟨a, ha, rfl⟩ := ixn (x := y) (n := T 14 s) (by omega) (fun z => z.elim c d)
        exact ⟨s, a, hs, rfl, h1, ha, rfl, rfl, h3, rfl⟩
  · right
    rw [h2, bd_s, if_pos rfl]
    exact ⟨rfl, Or.inl h3⟩
theorem q_placesIn {σ : St} {n : Nat} {T : TT} (h : gI σ n T) {s : Nat} (hs : s < 10) : f_HM_placesIn (nI s) σ = some (nI (cn T s n), σ) := by
  have n60 := h.n60
  unfold f_HM_placesIn f_HM_placesIn_l4
  have key : ∀ (k : Int32 → Int32 → Int32 → St → Option (Int32 × St)) (i : Nat), i < n → f_HM_placesIn_b4 k (nI s) (nI (cn T s i)) (nI i) σ = k (nI s) (nI (cn T s (i + 1))) (nI (i + 1)) σ := by
    intro k i hi
    have b1 : ib (nI i) 120 = true := ib_nI (by omega) (by decide)
    have r3 : rI σ 69 (nI i) = nz (T 3 i) := h.M (j := 3) (by omega) (by omega) hi
    have k3 : T 3 i ≤ 1000 := by have := (h.1.K hi).2; omega
    have e3 := nz_eqI k3 (show s < 1000 by omega)
    unfold f_HM_placesIn_b4 f_HM_placesIn_b28
    rw [if_neg (by rw [h.c2]; exact nI_ge hi (by omega)), ck_p b1, r3, nI_1]
    show _ = k (nI s) (nI (cn T s i + if T 3 i = s then 1 else 0)) (nI (i + 1)) σ
    by_cases c : T 3 i = s
    · rw [if_pos (e3.mpr c), if_pos c, nI_1]
    · rw [if_neg (fun z => c (e3.mp z)), if_neg c, show (0 : Int32) = nI 0 from rfl, nI_add, nI_1]
  obtain ⟨t, e, ht⟩ := lp_u0 (z := fun _ _ _ _ => none) (body := f_HM_placesIn_b4) (fun k i (t : St) => k (nI s) (nI (cn T s i)) (nI i) t) (fun i t => t = σ) n (fun t => some (nI (cn T s n), t)) (fun k i t hi hI => by
    subst hI
    exact ⟨t, key k i hi, rfl⟩) (fun k t hI => by
    subst hI
    show f_HM_placesIn_b4 k (nI s) (nI (cn T s n)) (nI n) t = _
    unfold f_HM_placesIn_b4
    rw [if_pos (by rw [h.c2]; exact nI_le (Nat.le_refl _) (by omega))]) (i := 0) (s := σ) (by omega) (Nat.zero_le _) rfl
  rw [ht] at e
  exact e
theorem t15_e {σ : St} {n : Nat} {T : TT} (h : gI σ n T) {s : Nat} (hs : s < 10) : T 15 s = cn T s n ∧ T 15 s ≤ 60 := by
  have := (h.1.1.2.2.2.1 s hs).1
  have := cn_le T s n
  have := h.n60
  omega
theorem st_seen (x1 x2 : Int32) {σ : St} (hI : Inv σ) : stq (f_HG_seen x1 x2) (f_HM_seen x1 x2) σ := by
  obtain ⟨n, T, sh, R, D, hg, _, _⟩ := hI.1.2.2.2.2
  unfold stq f_HG_seen f_HM_seen
  have e0 : f_HM_in x1.toInt64 0 9 σ = some (if x1 < 0 ∨ (10 : Int32) ≤ x1 then 0 else 1, σ) := q_HM_inN x1 0 9 (by decide) (by decide) σ
  have e1 : f_HM_in x2.toInt64 0 2 σ = some (if x2 < 0 ∨ (3 : Int32) ≤ x2 then 0 else 1, σ) := q_HM_inN x2 0 2 (by decide) (by decide) σ
  by_cases c : x1 < 0
  · rw [if_pos c]
    refine ⟨_, σ, σ, rfl, ?_, hI⟩
    rw [e0, bd_s, if_pos (Or.inl c), if_pos rfl]
  · rw [if_neg c]
    by_cases d : (10 : Int32) ≤ x1
    · rw [if_neg (fun z => (fa_of_lt z).2.1 d)]
      refine ⟨_, σ, σ, rfl, ?_, hI⟩
      rw [e0, bd_s, if_pos (Or.inr d), if_pos rfl]
    · rw [if_pos (fa_of_nle d)]
      obtain ⟨s, hs, rfl⟩ := ixn (x := x1) (n := 10) (by decide) (fun z => z.elim c d)
      have b1 : ib (nI s) 10 = true := ib_nI hs (by decide)
      have b2 : ib (nI s) 20 = true := ib_nI (by omega) (by decide)
      have so := hg.so hs
      have t15 := t15_e hg hs
      rw [hg.g, ck_t, ck_p b1, ck_t, ck_p b1, ck_t, ck_p b1, hg.S (by omega) (by omega) hs, hg.S (by omega) (by omega) hs, hg.S (by omega) (by omega) hs]
      have M0 : ∀ z : Option (Int64 × St), (bd (f_HM_in (nI s).toInt64 0 9 σ) fun r3 σ2 => if r3 = 0 then (some ((-9000000000000000001), σ2)) else (bd (f_HM_in x2.toInt64 0 2 σ2) fun r7 σ6 => if r7 = 0 then (some ((-9000000000000000001), σ6)) else (if x2 = 0 then (ck (ib (nI s) 20) <| if 0 ≤ (rI σ6 76 (nI s)) then (ck (ib (nI s) 20) <| some ((rI σ6 76 (nI s)).toInt64, σ6)) else (some ((-1000000), σ6))) else (if x2 = 1 then (ck (ib (nI s) 20) <| some ((rI σ6 77 (nI s)).toInt64, σ6)) else (bd (f_HM_placesIn (nI s) σ6) fun r13 σ12 => some (r13.toInt64, σ12)))))) = (if x2 < 0 ∨ (3 : Int32) ≤ x2 then some ((-9000000000000000001), σ) else (if x2 = 0 then some ((nz (T 13 s)).toInt64, σ) else (if x2 = 1 then some ((nz (T 14 s)).toInt64, σ) else some ((nz (T 15 s)).toInt64, σ)))) := by
        intro _
        have nn : ¬ (nI s < 0 ∨ (10 : Int32) ≤ nI s) := fun z => z.elim c d
        rw [e0, bd_s, if_neg nn, if_neg i10, e1, bd_s]
        by_cases y : x2 < 0 ∨ (3 : Int32) ≤ x2
        · rw [if_pos y, if_pos rfl, if_pos y]
        · rw [if_neg y, if_neg i10, ck_p b2, ck_p b2, ck_p b2, hg.P hs, hg.Ac hs, q_placesIn hg hs, bd_s, nz_lt (show T 15 s < 1000 by omega), nz_lt (show T 14 s < 1000 by omega), ← t15.1, if_neg y]
          rcases so with ⟨s1, s2, s3⟩ | ⟨s1, s2, s3, s4⟩
          · rw [show (if T 13 s = 1000 then (-1 : Int32) else nI (T 13 s)) = -1 from if_pos s1, if_neg (show ¬ (0 : Int32) ≤ -1 by decide), s1, show (nz 1000).toInt64 = -1000000 from rfl]
          · rw [show (if T 13 s = 1000 then (-1 : Int32) else nI (T 13 s)) = nI (T 13 s) from if_neg (by omega), if_pos (nI_pos' (by omega)), nz_lt (by omega)]
      by_cases d0 : x2 = 0
      · have M := M0 none
        subst d0
        rw [if_neg (by decide), if_pos rfl] at M
        rw [if_pos rfl]
        exact ⟨_, σ, σ, rfl, M, hI⟩
      · by_cases d1 : x2 = 1
        · have M := M0 none
          subst d1
          rw [if_neg (by decide), if_neg (by decide), if_pos rfl] at M
          rw [if_neg (by decide), if_pos rfl]
          exact ⟨_, σ, σ, rfl, M, hI⟩
        · by_cases d2 : x2 = 2
          · have M := M0 none
            subst d2
            rw [if_neg (by decide), if_neg (by decide), if_neg (by decide)] at M
            rw [if_neg (by decide), if_neg (by decide), if_pos rfl]
            exact ⟨_, σ, σ, rfl, M, hI⟩
          · have M := M0 none
            have y : x2 < 0 ∨ (3 : Int32) ≤ x2 := by
              apply Classical.byContradiction
              intro z
              obtain ⟨k, hk, rfl⟩ := ixn (x := x2) (n := 3) (by decide) z
              have : k = 0 ∨ k = 1 ∨ k = 2 := by omega
              rcases this with rfl | rfl | rfl
              · exact d0 rfl
              · exact d1 rfl
              · exact d2 rfl
            rw [if_pos y] at M
            rw [if_neg d0, if_neg d1, if_neg d2]
            exact ⟨_, σ, σ, rfl, M, hI⟩
