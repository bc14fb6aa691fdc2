theorem q_isWord {B : Nat → Nat} {T s e r : Nat} {σ : St} (ht : tm B T σ) (h6 : σ.2.2.1 46 = nI e) (h7 : σ.2.2.1 47 = nI s) (h8 : σ.2.2.1 48 = nI r) (hr : r < 5) (hse : s ≤ e) (heT : e ≤ T) {a b c d : Nat} (ha : a < 256) (hb : b < 256) (hc : c < 256) (hd : d < 256) : f_HM_isWord (nI a) (nI b) (nI c) (nI d) σ = some (if r = 1 ∧ e - s = (if d = 0 then 3 else 4) ∧ wd3 B s a b c = true ∧ (d = 0 ∨ B (s + 3) = d) then 1 else 0, σ) := by
  have h600 := ht.1
  have hbyte : ∀ i, i < T → ∀ z, z < 256 → (σ.1 66 i = nI z ↔ B i = z) := by
    intro i hi z hz
    obtain ⟨b1, b2, -⟩ := ht.2.2.2 i hi
    rw [b2]
    exact nI_eq (by omega) (by omega)
  have hd0 : (nI d = 0) ↔ d = 0 := nI_eq (b := 0) (by omega) (by decide)
  have key : ∀ n : Nat, n = (if d = 0 then 3 else 4) → f_HM_isWord_b10 (nI a) (nI b) (nI c) (nI d) (nI n) σ = some (if r = 1 ∧ e - s = n ∧ wd3 B s a b c = true ∧ (d = 0 ∨ B (s + 3) = d) then 1 else 0, σ) := by
    intro n hn
    have hn2 : 3 ≤ n ∧ n ≤ 4 := by rw [hn]; split <;> omega
    unfold f_HM_isWord_b10 f_HM_isWord_b98 rF rI
    rw [h6, h7, h8, pk_sub hse]
    simp only [show (1 : Int32) = nI 1 from rfl, show (2 : Int32) = nI 2 from rfl, show (3 : Int32) = nI 3 from rfl, nI_add, nI_eq (show r < 2 ^ 31 by omega) (show 1 < 2 ^ 31 by decide), nI_eq (show e - s < 2 ^ 31 by omega) (show n < 2 ^ 31 by omega), hd0]
    by_cases c1 : r = 1
    · rw [if_pos c1]
      by_cases c2 : e - s = n
      · rw [if_pos c2, ck_p (ib_nI (by omega) (by decide)), ck_p (ib_nI (by omega) (by decide)), ck_p (ib_nI (by omega) (by decide)), nI_clamp (by omega), nI_clamp (by omega), nI_clamp (by omega)]
        simp only [hbyte s (by omega) a ha, hbyte (s + 1) (by omega) b hb, hbyte (s + 2) (by omega) c hc]
        by_cases c3 : B s = a
        · rw [if_pos c3]
          by_cases c4 : B (s + 1) = b
          · rw [if_pos c4]
            by_cases c5 : B (s + 2) = c
            · rw [if_pos c5]
              have hw : wd3 B s a b c = true := by simp [wd3, c3, c4, c5]
              by_cases c6 : d = 0
              · rw [if_pos c6, if_pos ⟨c1, c2, hw, Or.inl c6⟩]
              · have hn4 : n = 4 := by rw [hn, if_neg c6]
                rw [if_neg c6, ck_p (ib_nI (by omega) (by decide)), nI_clamp (by omega)]
                simp only [hbyte (s + 3) (by omega) d hd]
                by_cases c7 : B (s + 3) = d
                · rw [if_pos c7, if_pos ⟨c1, c2, hw, Or.inr c7⟩]
                · rw [if_neg c7, if_neg (fun h => by rcases h.2.2.2 with q | q; exact c6 q; exact c7 q)]
            · rw [if_neg c5, if_neg (fun h => by have := h.2.2.1; simp [wd3, c5] at this)]
          · rw [if_neg c4, if_neg (fun h => by have := h.2.2.1; simp [wd3, c4] at this)]
        · rw [if_neg c3, if_neg (fun h => by have := h.2.2.1; simp [wd3, c3] at this)]
      · rw [if_neg c2, if_neg (fun h => c2 h.2.1)]
    · rw [if_neg c1, if_neg (fun h => c1 h.1)]
  unfold f_HM_isWord
  simp only [hd0]
  by_cases c : d = 0
  · rw [if_pos c, show (3 : Int32) = nI 3 from rfl, key 3 (by rw [if_pos c]), if_pos c]
  · rw [if_neg c, show (4 : Int32) = nI 4 from rfl, key 4 (by rw [if_neg c]), if_neg c]
theorem tS_le (B : Nat → Nat) {T q : Nat} (hq : q ≤ T) : q ≤ tS B T q ∧ tS B T q ≤ T := by
  constructor
  · exact spn_ge _ _ _ _
  · have := spn_le wsB B (T - q) q
    unfold tS
    omega
theorem tE_le (B : Nat → Nat) {T q : Nat} (hq : q ≤ T) : tS B T q ≤ tE B T q ∧ tE B T q ≤ T := by
  have h := tS_le B hq
  unfold tE
  split
  · omega
  · split
    · have h1 := spn_ge ltB B (T - tS B T q) (tS B T q)
      have h2 := spn_le ltB B (T - tS B T q) (tS B T q)
      omega
    · split
      · have h1 := spn_ge dgB B (T - tS B T q) (tS B T q)
        have h2 := spn_le dgB B (T - tS B T q) (tS B T q)
        omega
      · omega
theorem tR_lt (B : Nat → Nat) (T q : Nat) : tR B T q < 5 := by
  unfold tR
  repeat' split
  all_goals omega
theorem tC_lt (B : Nat → Nat) (T q : Nat) : tC B T q < 8 := by
  unfold tC wdK
  repeat' split
  all_goals omega
theorem q_wordNow {B : Nat → Nat} {T q : Nat} {σ : St} (ht : tm B T σ) (hq : q ≤ T) (h6 : σ.2.2.1 46 = nI (tE B T q)) (h7 : σ.2.2.1 47 = nI (tS B T q)) (h8 : σ.2.2.1 48 = nI (tR B T q)) : f_HM_wordNow σ = some (if tC B T q < 4 then nI (tC B T q) else -1, σ) := by
  have hE := tE_le B hq
  have W := @q_isWord B T (tS B T q) (tE B T q) (tR B T q) σ ht h6 h7 h8 (tR_lt B T q) hE.1 hE.2
  unfold f_HM_wordNow
  rw [show f_HM_isWord 101 110 100 0 σ = f_HM_isWord (nI 101) (nI 110) (nI 100) (nI 0) σ from rfl, W (by decide) (by decide) (by decide) (by decide), bd_s, show f_HM_isWord 100 101 97 108 σ = f_HM_isWord (nI 100) (nI 101) (nI 97) (nI 108) σ from rfl, W (by decide) (by decide) (by decide) (by decide), bd_s, show f_HM_isWord 111 110 101 0 σ = f_HM_isWord (nI 111) (nI 110) (nI 101) (nI 0) σ from rfl, W (by decide) (by decide) (by decide) (by decide), bd_s, show f_HM_isWord 116 119 111 0 σ = f_HM_isWord (nI 116) (nI 119) (nI 111) (nI 0) σ from rfl, W (by decide) (by decide) (by decide) (by decide), bd_s]
  have one : ¬ (1 : Int32) = 0 := by decide
  by_cases hR : tR B T q = 1
  · have hl : ¬ tS B T q = T ∧ ltB (B (tS B T q)) = true := by
      unfold tR at hR
      by_cases c0 : tS B T q = T
      · rw [if_pos c0] at hR; omega
      · rw [if_neg c0] at hR
        by_cases c1 : ltB (B (tS B T q)) = true
        · exact ⟨c0, c1⟩
        · rw [if_neg c1] at hR
          repeat' split at hR
          all_goals omega
    have hC : tC B T q = wdK B (tS B T q) (tE B T q - tS B T q) := by unfold tC; rw [if_neg hl.1, if_pos hl.2]
    rw [hC]
    unfold wdK
    generalize tE B T q - tS B T q = n
    generalize tS B T q = s
    by_cases n3 : n = 3
    · subst n3
      cases a0 : wd3 B s 101 110 100 <;> cases a2 : wd3 B s 111 110 101 <;> cases a3 : wd3 B s 116 119 111 <;> simp [hR] <;> rfl
    · by_cases n4 : n = 4
      · subst n4
        cases a1 : wd3 B s 100 101 97 <;> by_cases b3 : B (s + 3) = 108 <;> simp [hR, b3] <;> rfl
      · simp [hR, n3, n4]
  · have hC : ¬ tC B T q < 4 := by
      unfold tR at hR
      unfold tC
      by_cases c0 : tS B T q = T
      · rw [if_pos c0]; omega
      · rw [if_neg c0] at hR ⊢
        by_cases c1 : ltB (B (tS B T q)) = true
        · rw [if_pos c1] at hR; exact absurd rfl hR
        · rw [if_neg c1]
          repeat' split
          all_goals omega
    simp [hR, hC]
theorem tR_C (B : Nat → Nat) (T q : Nat) : (tR B T q = 2 ↔ tC B T q = 4) ∧ (tR B T q = 3 ↔ tC B T q = 5) ∧ (tR B T q = 0 ↔ tC B T q = 6) := by
  unfold tR tC wdK
  repeat' split
  all_goals simp
