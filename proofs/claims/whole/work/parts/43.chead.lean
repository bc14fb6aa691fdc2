def cK (B : Nat → Nat) (L q : Nat) (σ : St) : Prop := σ.2.2.1 3 = nI (tC B L q) ∧ σ.2.2.1 4 = nI (tS B L q) ∧ σ.2.2.1 6 = nI (tE B L q) ∧ (tC B L q = 4 → σ.2.2.1 5 = nI (tV B L q))
/-- the sets while the text is read -/
def so (T : TT) (n : Nat) : Prop := ∀ s, s < 10 → ((T 13 s = 1000 ∧ T 14 s = 0 ∧ T 15 s = 0) ∨ (T 13 s < 2 ∧ 2 ≤ T 14 s ∧ T 14 s ≤ 3 ∧ 1 ≤ T 15 s)) ∧ T 15 s ≤ n ∧ T 16 s ≤ 60
/-- what the class's game g holds of the first n places -/
def cR (g n : Nat) (T : TT) (σ : St) : Prop := (∀ j p, 1 ≤ j → j ≤ 8 → p < n → σ.1 (g + j) p = nz (T j p)) ∧ (∀ p, p < n → σ.1 (g + 10) p = 1) ∧ (∀ i, T 9 i ≠ 0 → σ.1 (g + 9) i = nI (T 9 i)) ∧ (∀ j s, 13 ≤ j → j ≤ 16 → s < 10 → σ.1 (g + j) s = nz (T j s)) ∧ σ.1 (g + 17) 0 = 0 ∧ σ.1 (g + 17) 1 = 0
def cS (B : Nat → Nat) (L g : Nat) (s : SS) (σ : St) : Prop := tp B L σ ∧ s.1 ≤ L ∧ cK B L s.1 σ ∧ σ.2.2.1 (g + 10) = nI s.2.1 ∧ s.2.1 ≤ 60 ∧ so s.2.2 s.2.1 ∧ cR g s.2.1 s.2.2 σ
def kaC (g : Nat) : List Nat := [g + 1, g + 2, g + 3, g + 4, g + 5, g + 6, g + 7, g + 8, g + 9, g + 10, g + 13, g + 14, g + 15, g + 16]
def kfC (g : Nat) : List Nat := [3, 4, 5, 6, 7, 8, g + 10]
theorem c_add {g n w a t x d : Nat} {T : TT} {σ : St} (hg : g = 10 ∨ g = 28) (hn : n < 60) (hc : σ.2.2.1 (g + 10) = nI n) (hw : w < 1000) (ha : a = 1000 ∨ a < 60) (ht : t < 4) (hx : x < 1000) (hd : d < 1000) : ∃ σ1, f_Game_add g (nI w) (nI d) (nz a) (nI t) (nI x) σ = some (nI n, σ1) ∧ fr (kaC g) [] [g + 10] σ σ1 ∧ σ1.2.2.1 (g + 10) = nI (n + 1) ∧ (∀ j p, 1 ≤ j → j ≤ 8 → σ1.1 (g + j) p = if p = n then nz (nod T n w a t x d 1000 1000 0 j n) else σ.1 (g + j) p) ∧ (∀ p, σ1.1 (g + 10) p = if p = n then 1 else σ.1 (g + 10) p) ∧ (∀ i, σ1.1 (g + 9) i = if a < 1000 ∧ i = 4 * a + t then nI n else σ.1 (g + 9) i) ∧ (∀ j s, 13 ≤ j → j ≤ 17 → σ1.1 (g + j) s = σ.1 (g + j) s) := by
  rcases hg with rfl | rfl
  all_goals
    simp only [Nat.reduceAdd] at hc
    have e1 : ib (nI n) 60 = true := ib_nI hn (by decide)
    unfold f_Game_add
    simp only [show isG 10 = true from rfl, show isG 28 = true from rfl, ck_t, lE_d, rF, Nat.reduceAdd, hc, e1, nI_clamp (show n < 2 ^ 31 by omega), nI_1]
    rcases ha with rfl | ha
    · rw [if_pos (show nz 1000 = -1000000 from rfl)]
      refine ⟨_, rfl, ?_, ?_, ?_, ?_, ?_, ?_⟩
      · exact ((((((((((fr.rf.F (by decide) _).A (by decide) _ _).A (by decide) _ _).A (by decide) _ _).A (by decide) _ _).A (by decide) _ _).A (by decide) _ _).A (by decide) _ _).A (by decide) _ _).A (by decide) _ _)
      · simp [sA1, sA2, sF1, sF2, sF3, sF4, sL1, sL2, sL3, sR1, sR2, sR3, sR4, sC1, sC2, updD, updLD]
      · intro j p h1 h8
        have : j = 1 ∨ j = 2 ∨ j = 3 ∨ j = 4 ∨ j = 5 ∨ j = 6 ∨ j = 7 ∨ j = 8 := by omega
        rcases this with rfl | rfl | rfl | rfl | rfl | rfl | rfl | rfl <;> simp only [sA1, sA2, sF1, sF2, sF3, sF4, sL1, sL2, sL3, sR1, sR2, sR3, sR4, sC1, sC2, updD, updLD, Nat.reduceAdd, Nat.reduceMul, Nat.reduceSub, Nat.reduceEqDiff, Nat.reduceLT, Nat.reduceLeDiff, Nat.reduceBEq, reduceIte, reduceCtorEq, if_true, if_false, ite_true, ite_false, decide_true, decide_false, nod] <;> by_cases c : p = n <;> simp [c, nz_lt, hw, hx, hd, ht] <;> first | rfl | (rw [nz_lt (by omega)])
      · intro p; simp [sA1, sA2, sF1, sF2, sF3, sF4, sL1, sL2, sL3, sR1, sR2, sR3, sR4, sC1, sC2, updD, updLD]
      · intro i; simp [sA1, sA2, sF1, sF2, sF3, sF4, sL1, sL2, sL3, sR1, sR2, sR3, sR4, sC1, sC2, updD, updLD]
      · intro j s h1 h2
        have : j = 13 ∨ j = 14 ∨ j = 15 ∨ j = 16 ∨ j = 17 := by omega
        rcases this with rfl | rfl | rfl | rfl | rfl <;> simp [sA1, sA2, sF1, sF2, sF3, sF4, sL1, sL2, sL3, sR1, sR2, sR3, sR4, sC1, sC2, updD, updLD]
    · rw [if_neg (show ¬ nz a = -1000000 by rw [nz_lt (by omega)]; exact nz_neg a (by omega))]
      have e2 : nz a * 4 + nI t = nI (4 * a + t) := by rw [nz_lt (by omega), show (4 : Int32) = nI 4 from rfl, pk_mul, nI_add, Nat.mul_comm]
      simp only [e2, ck_p (ib_nI (show 4 * a + t < 240 by omega) (by decide)), nI_clamp (show 4 * a + t < 2 ^ 31 by omega)]
      refine ⟨_, rfl, ?_, ?_, ?_, ?_, ?_, ?_⟩
      · exact ((((((((((fr.rf.F (by decide) _).A (by decide) _ _).A (by decide) _ _).A (by decide) _ _).A (by decide) _ _).A (by decide) _ _).A (by decide) _ _).A (by decide) _ _).A (by decide) _ _).A (by decide) _ _).A (by decide) _ _
      · simp [sA1, sA2, sF1, sF2, sF3, sF4, sL1, sL2, sL3, sR1, sR2, sR3, sR4, sC1, sC2, updD, updLD]
      · intro j p h1 h8
        have : j = 1 ∨ j = 2 ∨ j = 3 ∨ j = 4 ∨ j = 5 ∨ j = 6 ∨ j = 7 ∨ j = 8 := by omega
        rcases this with rfl | rfl | rfl | rfl | rfl | rfl | rfl | rfl <;> simp only [sA1, sA2, sF1, sF2, sF3, sF4, sL1, sL2, sL3, sR1, sR2, sR3, sR4, sC1, sC2, updD, updLD, Nat.reduceAdd, Nat.reduceMul, Nat.reduceSub, Nat.reduceEqDiff, Nat.reduceLT, Nat.reduceLeDiff, Nat.reduceBEq, reduceIte, reduceCtorEq, if_true, if_false, ite_true, ite_false, decide_true, decide_false, nod] <;> by_cases c : p = n <;> simp [c, nz_lt, hw, hx, hd, ht] <;> first | rfl | (rw [nz_lt (by omega)])
      · intro p; simp [sA1, sA2, sF1, sF2, sF3, sF4, sL1, sL2, sL3, sR1, sR2, sR3, sR4, sC1, sC2, updD, updLD]
      · intro i
        have : a < 1000 := by omega
        simp [sA1, sA2, sF1, sF2, sF3, sF4, sL1, sL2, sL3, sR1, sR2, sR3, sR4, sC1, sC2, updD, updLD, this]
      · intro j s h1 h2
        have : j = 13 ∨ j = 14 ∨ j = 15 ∨ j = 16 ∨ j = 17 := by omega
        rcases this with rfl | rfl | rfl | rfl | rfl <;> simp [sA1, sA2, sF1, sF2, sF3, sF4, sL1, sL2, sL3, sR1, sR2, sR3, sR4, sC1, sC2, updD, updLD]
