theorem nod_old {T : TT} {n w a t x d py st nw j p : Nat} (hp : p ≠ n) (hj : j ≠ 9) : nod T n w a t x d py st nw j p = T j p := by
  unfold nod
  simp [hp, hj]
theorem nod_9 {T : TT} {n w a t x d py st nw i : Nat} : nod T n w a t x d py st nw 9 i = if a < 1000 ∧ i = 4 * a + t then n else T 9 i := by
  unfold nod
  simp
theorem nod_big {T : TT} {n w a t x d py st nw j i : Nat} (hj : 10 ≤ j) : nod T n w a t x d py st nw j i = T j i := by
  unfold nod
  have h1 : j ≠ 1 := by omega
  have h2 : j ≠ 2 := by omega
  have h3 : j ≠ 3 := by omega
  have h4 : j ≠ 4 := by omega
  have h5 : j ≠ 5 := by omega
  have h6 : j ≠ 6 := by omega
  have h7 : j ≠ 7 := by omega
  have h8 : j ≠ 8 := by omega
  have h9 : j ≠ 9 := by omega
  simp [h1, h2, h3, h4, h5, h6, h7, h8, h9]
theorem put_low {T : TT} {n w st nw j i : Nat} (hj : j < 13) : put T n w st nw j i = T j i := by
  unfold put
  have h1 : j ≠ 13 := by omega
  have h2 : j ≠ 14 := by omega
  have h3 : j ≠ 15 := by omega
  have h4 : j ≠ 16 := by omega
  simp [h1, h2, h3, h4]
theorem put_old {T : TT} {n w st nw j i : Nat} (hi : i ≠ st) : put T n w st nw j i = T j i := by
  unfold put
  simp [hi]
theorem cR_nod {g n w a t x d py st nw : Nat} {T : TT} {σ σ' : St} (hR : cR g n T σ) (h1 : ∀ j p, 1 ≤ j → j ≤ 8 → σ'.1 (g + j) p = if p = n then nz (nod T n w a t x d py st nw j n) else σ.1 (g + j) p) (h2 : ∀ p, σ'.1 (g + 10) p = if p = n then 1 else σ.1 (g + 10) p) (h3 : ∀ i, σ'.1 (g + 9) i = if a < 1000 ∧ i = 4 * a + t then nI n else σ.1 (g + 9) i) (h4 : ∀ j s, 13 ≤ j → j ≤ 17 → σ'.1 (g + j) s = σ.1 (g + j) s) : cR g (n + 1) (nod T n w a t x d py st nw) σ' := by
  obtain ⟨r1, r2, r3, r4, r5, r6⟩ := hR
  refine ⟨fun j p a1 a2 a3 => ?_, fun p a3 => ?_, fun i hi => ?_, fun j s a1 a2 a3 => ?_, ?_, ?_⟩
  · rw [h1 j p a1 a2]
    by_cases c : p = n
    · rw [if_pos c, c]
    · rw [if_neg c, nod_old c (by omega)]
      exact r1 j p a1 a2 (by omega)
  · rw [h2 p]
    by_cases c : p = n
    · rw [if_pos c]
    · rw [if_neg c]
      exact r2 p (by omega)
  · rw [nod_9] at hi ⊢
    rw [h3 i]
    by_cases c : a < 1000 ∧ i = 4 * a + t
    · rw [if_pos c, if_pos c]
    · rw [if_neg c] at hi
      rw [if_neg c, if_neg c]
      exact r3 i hi
  · rw [h4 j s a1 (by omega), nod_big (by omega)]
    exact r4 j s a1 a2 a3
  · rw [h4 17 0 (by omega) (by omega)]; exact r5
  · rw [h4 17 1 (by omega) (by omega)]; exact r6
theorem c_put {g n w st nw : Nat} {T : TT} {σ : St} (hg : g = 10 ∨ g = 28) (hn : n < 60) (hw : 2 ≤ w) (hw2 : w < 1000) (hs : st < 10) (hnw : nw < 1000) (h1 : σ.1 (g + 1) n = nI w) (hS : ∀ j s, 13 ≤ j → j ≤ 16 → s < 10 → σ.1 (g + j) s = nz (T j s)) (h15 : T 15 st < 100) : ∃ σ1, f_Game_putIntoSet g (nI n) (nI st) (nI nw) σ = some σ1 ∧ fr (kaC g) [] [] σ σ1 ∧ (∀ j p, 1 ≤ j → j ≤ 10 → σ1.1 (g + j) p = if p = n ∧ j = 3 then nI st else if p = n ∧ j = 4 then nI nw else σ.1 (g + j) p) ∧ (∀ j s, 13 ≤ j → j ≤ 16 → s < 10 → σ1.1 (g + j) s = nz (put T n w st nw j s)) ∧ (∀ s, σ1.1 (g + 17) s = σ.1 (g + 17) s) := by
  have a13 := fun s hs => hS 13 s (by omega) (by omega) hs
  have a14 := fun s hs => hS 14 s (by omega) (by omega) hs
  have a15 := fun s hs => hS 15 s (by omega) (by omega) hs
  have a16 := fun s hs => hS 16 s (by omega) (by omega) hs
  have e1 : ib (nI n) 60 = true := ib_nI hn (by decide)
  have e2 : ib (nI st) 10 = true := ib_nI hs (by decide)
  have ew : nI w - 2 = nI (w - 2) := pk_sub hw
  have b15 := a15 st hs
  rw [nz_lt (by omega)] at b15
  rcases hg with rfl | rfl
  all_goals
    simp only [Nat.reduceAdd] at h1 b15 a13 a14 a15 a16
    unfold f_Game_putIntoSet f_Game_putIntoSet_b30
    simp only [show isG 10 = true from rfl, show isG 28 = true from rfl, ck_t, lE_d, rI, Nat.reduceAdd, e1, e2, nI_clamp (show n < 2 ^ 31 by omega), nI_clamp (show st < 2 ^ 31 by omega), sA1, sA2, sF1, sF2, sF3, sF4, sL1, sL2, sL3, sR1, sR2, sR3, sR4, sC1, sC2, updD, updLD, Nat.reduceAdd, Nat.reduceMul, Nat.reduceSub, Nat.reduceEqDiff, Nat.reduceLT, Nat.reduceLeDiff, Nat.reduceBEq, reduceIte, reduceCtorEq, if_true, if_false, ite_true, ite_false, decide_true, decide_false, h1, b15, ew, nl0, nI_eq (show T 15 st < 2 ^ 31 by omega) (show 0 < 2 ^ 31 by decide)]
    by_cases c : T 15 st = 0
    · rw [if_pos c]
      refine ⟨_, rfl, ?_, ?_, ?_, ?_⟩
      · exact (((((fr.rf.A (by decide) _ _).A (by decide) _ _).A (by decide) _ _).A (by decide) _ _).A (by decide) _ _).A (by decide) _ _
      · intro j p h1 h8
        have : j = 1 ∨ j = 2 ∨ j = 3 ∨ j = 4 ∨ j = 5 ∨ j = 6 ∨ j = 7 ∨ j = 8 ∨ j = 9 ∨ j = 10 := by omega
        rcases this with rfl | rfl | rfl | rfl | rfl | rfl | rfl | rfl | rfl | rfl <;> simp [sA1, sA2, sF1, sF2, sF3, sF4, sL1, sL2, sL3, sR1, sR2, sR3, sR4, sC1, sC2, updD, updLD]
      · intro j s a b k
        have : j = 13 ∨ j = 14 ∨ j = 15 ∨ j = 16 := by omega
        have k13 := a13 s k
        have k14 := a14 s k
        have k15 := a15 s k
        have k16 := a16 s k
        rcases this with rfl | rfl | rfl | rfl <;> by_cases c2 : s = st <;> simp [sA1, sA2, sF1, sF2, sF3, sF4, sL1, sL2, sL3, sR1, sR2, sR3, sR4, sC1, sC2, updD, updLD, put, c2, c, nz_lt, hnw, show w - 2 < 1000 by omega, show n < 1000 by omega] <;> first | rfl | (rw [← c2]; assumption) | assumption
      · intro s; simp [sA1, sA2, sF1, sF2, sF3, sF4, sL1, sL2, sL3, sR1, sR2, sR3, sR4, sC1, sC2, updD, updLD]
    · rw [if_neg c]
      refine ⟨_, rfl, ?_, ?_, ?_, ?_⟩
      · exact ((((fr.rf.A (by decide) _ _).A (by decide) _ _).A (by decide) _ _).A (by decide) _ _).A (by decide) _ _
      · intro j p h1 h8
        have : j = 1 ∨ j = 2 ∨ j = 3 ∨ j = 4 ∨ j = 5 ∨ j = 6 ∨ j = 7 ∨ j = 8 ∨ j = 9 ∨ j = 10 := by omega
        rcases this with rfl | rfl | rfl | rfl | rfl | rfl | rfl | rfl | rfl | rfl <;> simp [sA1, sA2, sF1, sF2, sF3, sF4, sL1, sL2, sL3, sR1, sR2, sR3, sR4, sC1, sC2, updD, updLD]
      · intro j s a b k
        have : j = 13 ∨ j = 14 ∨ j = 15 ∨ j = 16 := by omega
        have k13 := a13 s k
        have k14 := a14 s k
        have k15 := a15 s k
        have k16 := a16 s k
        rcases this with rfl | rfl | rfl | rfl <;> by_cases c2 : s = st <;> simp [sA1, sA2, sF1, sF2, sF3, sF4, sL1, sL2, sL3, sR1, sR2, sR3, sR4, sC1, sC2, updD, updLD, put, c2, c, nz_lt, hnw, show w - 2 < 1000 by omega, show n < 1000 by omega, nI_1, show T 15 st + 1 < 1000 by omega] <;> first | rfl | (rw [← c2]; assumption) | assumption
      · intro s; simp [sA1, sA2, sF1, sF2, sF3, sF4, sL1, sL2, sL3, sR1, sR2, sR3, sR4, sC1, sC2, updD, updLD]
theorem c_step {B : Nat → Nat} {L q : Nat} {σ : St} (ht : tp B L σ) (hq : q ≤ L) (h6 : σ.2.2.1 6 = nI q) : ∃ σ', f_Tape_step σ = some σ' ∧ fr [] [] [3, 4, 5, 6] σ σ' ∧ tp B L σ' ∧ cK B L q σ' := by
  obtain ⟨σ', h1, h2, h3, h4, h5, h7⟩ := q_step ht hq h6
  exact ⟨σ', h1, h2, ht.fr h2 (by decide) (by decide) (by decide) (by decide), h3, h4, h5, h7⟩
