def wN (i k : Nat) : Nat := ((([[101, 110, 100], [100, 101, 97, 108], [111, 110, 101], [116, 119, 111]] : List (List Nat)).getD i []).getD k 0)
theorem wN_ok : ∀ i, i < 4 → lenS.getD i 0 ≤ 4 ∧ ∀ k, k < lenS.getD i 0 → (bytS.getD i []).getD k 0 = nI (wN i k) ∧ wN i k < 128 := by decide +kernel
theorem b_lo : ∀ b, b < 128 → (nI b).toInt8.toInt32 = nI b := by decide +kernel
theorem b_hi : ∀ b, b < 256 → 128 ≤ b → (nI b).toInt8.toInt32 < 0 := by decide +kernel
theorem b_eq {b c : Nat} (hb : b < 256) (hc : c < 128) : (nI b).toInt8.toInt32 = nI c ↔ b = c := by
  constructor
  · intro h
    rcases Nat.lt_or_ge b 128 with q | q
    · rw [b_lo b q] at h
      exact (nI_eq (by omega) (by omega)).mp h
    · have := b_hi b hb q
      rw [h] at this
      exact absurd this (nI_pos (by omega))
  · intro h
    subst h
    exact b_lo b hc
def allm (B : Nat → Nat) (s i : Nat) : Nat → Nat → Bool
  | 0, _ => true
  | m + 1, k => B (s + k) == wN i k && allm B s i m (k + 1)
theorem isName_loop {B : Nat → Nat} {T : Nat} {σ : St} {s i : Nat} (ht : tp B T σ) (h4 : σ.2.2.1 4 = nI s) (hi : i < 4) (hs : s + lenS.getD i 0 ≤ T) : ∀ m k f, k + m = lenS.getD i 0 → m < f → lp (fun _ _ => none) (f_Tape_isName_b20 i) f (nI k) σ = some (if allm B s i m k = true then 1 else 0, σ)
  | 0, k, f + 1, hk, _ => by
    have hl := (wN_ok i hi).1
    rw [lp_s]
    unfold f_Tape_isName_b20 f_Str_length
    rw [ck_p (show isS i = true from decide_eq_true hi), bd_s, if_pos (nI_le (by omega) (by omega))]
    rfl
  | m + 1, k, f + 1, hk, hf => by
    have hl := (wN_ok i hi).1
    have h600 := ht.1
    obtain ⟨b1, b2, b3⟩ := ht.2.2.2 (s + k) (by omega)
    obtain ⟨w1, w2⟩ := (wN_ok i hi).2 k (by omega)
    have ih := isName_loop ht h4 hi hs m (k + 1) f (by omega) (by omega)
    rw [lp_s]
    generalize lp (fun _ _ => none) (f_Tape_isName_b20 i) f = K at ih ⊢
    unfold f_Tape_isName_b20 f_Str_length f_Str_charAt
    rw [ck_p (show isS i = true from decide_eq_true hi), bd_s, if_neg (nI_ge (by omega) (by omega))]
    unfold rF rI
    rw [h4, nI_add, ck_p (ib_nI (by omega) (by decide)), ck_p (show isS i = true from decide_eq_true hi), ck_p (ib_nI (by omega) (by omega)), bd_s, nI_clamp (by omega), nI_clamp (by omega), b3, w1]
    simp only [b_eq b1 w2]
    unfold allm
    by_cases e : B (s + k) = wN i k
    · rw [if_pos e, nI_1, ih]
      simp [e]
    · rw [if_neg e]
      simp [e]
theorem q_isName {B : Nat → Nat} {T : Nat} {σ : St} {s e i : Nat} (ht : tp B T σ) (h4 : σ.2.2.1 4 = nI s) (h6 : σ.2.2.1 6 = nI e) (hse : s ≤ e) (heT : e ≤ T) (hi : i < 4) : f_Tape_isName i σ = some (if e - s = lenS.getD i 0 ∧ allm B s i (lenS.getD i 0) 0 = true then 1 else 0, σ) := by
  have hl := (wN_ok i hi).1
  have h600 := ht.1
  unfold f_Tape_isName f_Str_length rF
  rw [ck_p (show isS i = true from decide_eq_true hi), ck_p (show isS i = true from decide_eq_true hi), bd_s, h4, h6, pk_sub hse]
  simp only [nI_eq (show e - s < 2 ^ 31 by omega) (show lenS.getD i 0 < 2 ^ 31 by omega)]
  by_cases c : e - s = lenS.getD i 0
  · rw [if_pos c]
    have := isName_loop ht h4 hi (by omega) (lenS.getD i 0) 0 FU (by omega) (by unfold FU; omega)
    unfold f_Tape_isName_l20
    refine Eq.trans this ?_
    simp [c]
  · rw [if_neg c, if_neg (fun h => c h.1)]
theorem q_b39 {B : Nat → Nat} {T : Nat} {σ : St} {s e : Nat} (ht : tp B T σ) (h4 : σ.2.2.1 4 = nI s) (h6 : σ.2.2.1 6 = nI e) (hse : s ≤ e) (heT : e ≤ T) : f_Tape_stepOverName_b39 σ = some (stF σ 3 (nI (wdK B s (e - s)))) := by
  unfold f_Tape_stepOverName_b39
  rw [q_isName ht h4 h6 hse heT (i := 0) (by decide), bd_s, q_isName ht h4 h6 hse heT (i := 1) (by decide), bd_s, q_isName ht h4 h6 hse heT (i := 2) (by decide), bd_s, q_isName ht h4 h6 hse heT (i := 3) (by decide), bd_s]
  have a0 : allm B s 0 (lenS.getD 0 0) 0 = wd3 B s 101 110 100 := by simp [allm, wd3, wN, lenS]
  have a1 : allm B s 1 (lenS.getD 1 0) 0 = (wd3 B s 100 101 97 && B (s + 3) == 108) := by simp [allm, wd3, wN, lenS, Bool.and_assoc]
  have a2 : allm B s 2 (lenS.getD 2 0) 0 = wd3 B s 111 110 101 := by simp [allm, wd3, wN, lenS]
  have a3 : allm B s 3 (lenS.getD 3 0) 0 = wd3 B s 116 119 111 := by simp [allm, wd3, wN, lenS]
  rw [a0, a1, a2, a3]
  unfold wdK
  have l0 : lenS.getD 0 0 = 3 := rfl
  have l1 : lenS.getD 1 0 = 4 := rfl
  have l2 : lenS.getD 2 0 = 3 := rfl
  have l3 : lenS.getD 3 0 = 3 := rfl
  rw [l0, l1, l2, l3]
  by_cases c0 : e - s = 3 ∧ wd3 B s 101 110 100 = true
  · simp only [if_pos c0, show ¬ ((1 : Int32) = 0) by decide, if_false, lE_d]; rfl
  by_cases c1 : e - s = 4 ∧ (wd3 B s 100 101 97 && B (s + 3) == 108) = true
  · simp only [if_neg c0, if_pos c1, show ¬ ((1 : Int32) = 0) by decide, if_false, if_true, lE_d]; rfl
  by_cases c2 : e - s = 3 ∧ wd3 B s 111 110 101 = true
  · simp only [if_neg c0, if_neg c1, if_pos c2, show ¬ ((1 : Int32) = 0) by decide, if_false, if_true, lE_d]; rfl
  by_cases c3 : e - s = 3 ∧ wd3 B s 116 119 111 = true
  · simp only [if_neg c0, if_neg c1, if_neg c2, if_pos c3, show ¬ ((1 : Int32) = 0) by decide, if_false, if_true, lE_d]; rfl
  · simp only [if_neg c0, if_neg c1, if_neg c2, if_neg c3, if_true, lE_d]; rfl
theorem name_loop {B : Nat → Nat} {T s : Nat} : ∀ (m q f : Nat) (σ : St), tp B T σ → σ.2.2.1 4 = nI s → s ≤ q → q + m = T → m < f → σ.2.2.1 6 = nI q → lp (fun _ => none) f_Tape_stepOverName_b0 f σ = some (stF (stF σ 6 (nI (spn ltB B m q))) 3 (nI (wdK B s (spn ltB B m q - s))))
  | 0, q, f + 1, σ, ht, h4, hs, hq, _, h6 => by
    rw [lp_s]
    unfold f_Tape_stepOverName_b0 rF
    rw [h6, ht.2.1, if_pos (nI_le (by omega) (by have := ht.1; omega)), q_b39 ht h4 h6 hs (by omega)]
    unfold spn
    rw [stF_self h6]
  | m + 1, q, f + 1, σ, ht, h4, hs, hq, hf, h6 => by
    have h600 := ht.1
    obtain ⟨b1, b2, b3⟩ := ht.2.2.2 q (by omega)
    have ih := name_loop (s := s) m (q + 1) f (stF σ 6 (nI (q + 1))) (ht.fr (fr.rf.F (ka := []) (kl := []) (kf := [6]) (by decide) _) (by decide) (by decide) (by decide) (by decide)) (by rw [sF3, if_neg (by decide)]; exact h4) (by omega) (by omega) (by omega) (by rw [sF3, if_pos rfl])
    rw [lp_s]
    generalize lp (fun _ => none) f_Tape_stepOverName_b0 f = K at ih ⊢
    unfold f_Tape_stepOverName_b0 rF rI
    rw [h6, ht.2.1, if_neg (nI_ge (by omega) (by omega)), ck_p (ib_nI (by omega) (by decide)), nI_clamp (by omega), b3, q_isLetter b1, bd_s]
    unfold spn
    by_cases e1 : ltB (B q) = true
    · rw [if_pos e1, if_neg (by decide), if_pos e1, lE_d, h6, nI_1, ih, stF_tw]
    · rw [if_neg e1, if_pos rfl, if_neg e1, q_b39 ht h4 h6 hs (by omega), stF_self h6]
