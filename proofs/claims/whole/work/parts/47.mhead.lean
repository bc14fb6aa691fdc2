/-! the reference's reading -/
def mr (j : Nat) : Nat := if j = 6 then 74 else if j = 7 then 72 else 66 + j
/-- what the reference holds of n places, from row places o, sets from k on -/
def mR (o k n : Nat) (T : TT) (σ : St) : Prop := (∀ j p, 1 ≤ j → j ≤ 7 → p < n → σ.1 (mr j) (o + p) = nz (T j p)) ∧ (∀ i, i < 240 → T 9 i ≠ 0 → σ.1 75 (4 * o + i) = nI (T 9 i)) ∧ (∀ s, s < 10 → σ.1 76 (k + s) = if T 13 s = 1000 then -1 else nI (T 13 s)) ∧ (∀ s, s < 10 → σ.1 77 (k + s) = nI (T 14 s))
def mC (o n : Nat) (T : TT) (σ : St) : Prop := ∀ p, 0 < p → p < n → T 1 (T 5 p) = 1 → σ.1 73 (o + p) = nI (T 8 p)
def mS (B : Nat → Nat) (L d : Nat) (s : SS) (σ : St) : Prop := tp B L σ ∧ s.1 ≤ L ∧ σ.2.2.1 46 = nI s.1 ∧ σ.2.2.1 51 = nI s.2.1 ∧ σ.2.2.1 50 = nI d ∧ s.2.1 ≤ 60 ∧ so s.2.2 s.2.1 ∧ mR 60 10 s.2.1 s.2.2 σ
def kaM : List Nat := [67, 68, 69, 70, 71, 72, 73, 74, 75, 76, 77, 81, 82, 83]
def kfM : List Nat := [46, 47, 48, 49, 50, 51]
def lom (k : Nat) : Nat := if k = 75 then 240 else if k = 76 ∨ k = 77 then 10 else 60
def fm (σ σ' : St) : Prop := fr kaM [] kfM σ σ' ∧ ∀ k i, 67 ≤ k → k ≤ 77 → i < lom k → σ'.1 k i = σ.1 k i
theorem fm.rf {σ : St} : fm σ σ := ⟨fr.rf, fun _ _ _ _ _ => rfl⟩
theorem fm.tr {σ σ1 σ2 : St} (h : fm σ σ1) (h2 : fm σ1 σ2) : fm σ σ2 := ⟨h.1.tr h2.1, fun k i a b c => (h2.2 k i a b c).trans (h.2 k i a b c)⟩
theorem fm.tok {σ σ1 : St} {kf : List Nat} (h : fr [] [] kf σ σ1) (hk : ∀ k ∈ kf, k ∈ kfM) : fm σ σ1 := ⟨h.mo (by simp) (by simp) hk, fun k i _ _ _ => by rw [h.1 k (by simp)]⟩
theorem fm.A {σ σ1 : St} (h : fm σ σ1) {k : Nat} (hk : k ∈ kaM) (i : Nat) (x : Int32) (hi : 67 ≤ k → k ≤ 77 → lom k ≤ i) : fm σ (stA σ1 k i x) := ⟨h.1.A hk i x, fun k' i' a b c => by
  rw [sA1]
  by_cases e : k' = k
  · subst e
    rw [if_pos rfl, updD, if_neg (by have := hi a b; omega)]
    exact h.2 k' i' a b c
  · rw [if_neg e]
    exact h.2 k' i' a b c⟩
theorem fm.F {σ σ1 : St} (h : fm σ σ1) {k : Nat} (hk : k ∈ kfM) (x : Int32) : fm σ (stF σ1 k x) := ⟨h.1.F hk x, fun k' i' a b c => h.2 k' i' a b c⟩
theorem m_token {B : Nat → Nat} {L q : Nat} {σ : St} (ht : tp B L σ) (hq : q ≤ L) (h6 : σ.2.2.1 46 = nI q) : ∃ σ', f_HM_token σ = some σ' ∧ fr [] [] [46, 47, 48, 49] σ σ' ∧ tp B L σ' ∧ σ'.2.2.1 47 = nI (tS B L q) ∧ σ'.2.2.1 46 = nI (tE B L q) ∧ σ'.2.2.1 48 = nI (tR B L q) ∧ (tC B L q = 4 → σ'.2.2.1 49 = nI (tV B L q)) := by
  obtain ⟨σ', h1, h2, h3, h4, h5, h7⟩ := q_token ht hq h6
  exact ⟨σ', h1, h2, ht.fr h2 (by decide) (by decide) (by decide) (by decide), h3, h4, h5, h7⟩
theorem m_add {n w a t x d : Nat} {T : TT} {σ : St} (hn : n < 60) (hc : σ.2.2.1 51 = nI n) (ho : σ.2.2.1 50 = nI d) (hw : w < 1000) (hd : d ≤ 8) (h0 : d = 0 → a = 1000 ∧ t = 0) (h1 : 0 < d → a < n ∧ t < 4 ∧ t < T 4 a ∧ T 4 a ≤ 4 ∧ σ.1 70 (60 + a) = nI (T 4 a) ∧ σ.1 81 (d - 1) = nI (60 + a) ∧ σ.1 82 (d - 1) = nI (T 4 a - t)) : ∃ σ1, f_HM_readsPlace_b39 (nI w) σ = f_HM_readsPlace_b213 (nI w) (nI (60 + n)) σ1 ∧ fm σ σ1 ∧ (∀ k, k ≠ 51 → σ1.2.2.1 k = σ.2.2.1 k) ∧ σ1.2.2.1 51 = nI (n + 1) ∧ (∀ j p, 1 ≤ j → j ≤ 7 → σ1.1 (mr j) p = if p = 60 + n then nz (nod T n w a t x d 1000 1000 0 j n) else σ.1 (mr j) p) ∧ (∀ i, σ1.1 75 i = if a < 1000 ∧ i = 4 * (60 + a) + t then nI n else σ.1 75 i) ∧ (∀ k, k = 73 ∨ k = 76 ∨ k = 77 ∨ k = 81 ∨ k = 83 → σ1.1 k = σ.1 k) ∧ (∀ i, σ1.1 82 i = if 0 < d ∧ i = d - 1 then nI (T 4 a - t - 1) else σ.1 82 i) := by
  have e1 : ib (nI (60 + n)) 120 = true := ib_nI (by omega) (by decide)
  have e2 : (60 : Int32) + nI n = nI (60 + n) := nI_add 60 n
  have e3 : (nI (60 + n)).toNatClampNeg = 60 + n := nI_clamp (by omega)
  have e4 : (nI d = 0) ↔ d = 0 := nI_eq (b := 0) (by omega) (by decide)
  have e5 : (nI d ≤ 0) ↔ d ≤ 0 := nI_leI (b := 0) (by omega) (by decide)
  unfold f_HM_readsPlace_b39 f_HM_readsPlace_b118
  simp only [rF, sF3, sA2, hc, ho, e2, e1, e3, ck_t, lE_d, nI_1, Nat.reduceAdd, Nat.reduceMul, Nat.reduceSub, Nat.reduceEqDiff, Nat.reduceLT, Nat.reduceLeDiff, Nat.reduceBEq, reduceIte, reduceCtorEq, if_true, if_false, ite_true, ite_false, decide_true, decide_false, e4, e5]
  by_cases d0 : d = 0
  · subst d0
    obtain ⟨rfl, rfl⟩ := h0 rfl
    rw [if_pos rfl, if_pos (by omega)]
    refine ⟨_, rfl, ?_, ?_, ?_, ?_, ?_, ?_, ?_⟩
    · exact (((((((fm.rf.F (by decide) _).A (by decide) _ _ (by simp [lom])).A (by decide) _ _ (by simp [lom])).A (by decide) _ _ (by simp [lom])).A (by decide) _ _ (by simp [lom])).A (by decide) _ _ (by simp [lom])).A (by decide) _ _ (by simp [lom])).A (by decide) _ _ (by simp [lom])
    · intro k hk; simp [sA1, sA2, sF1, sF2, sF3, sF4, sL1, sL2, sL3, sR1, sR2, sR3, sR4, sC1, sC2, updD, updLD, hk]
    · simp [sA1, sA2, sF1, sF2, sF3, sF4, sL1, sL2, sL3, sR1, sR2, sR3, sR4, sC1, sC2, updD, updLD]
    · intro j p j1 j2
      have : j = 1 ∨ j = 2 ∨ j = 3 ∨ j = 4 ∨ j = 5 ∨ j = 6 ∨ j = 7 := by omega
      rcases this with rfl | rfl | rfl | rfl | rfl | rfl | rfl <;> simp only [mr, sA1, sA2, sF1, sF2, sF3, sF4, sL1, sL2, sL3, sR1, sR2, sR3, sR4, sC1, sC2, updD, updLD, Nat.reduceAdd, Nat.reduceMul, Nat.reduceSub, Nat.reduceEqDiff, Nat.reduceLT, Nat.reduceLeDiff, Nat.reduceBEq, reduceIte, reduceCtorEq, if_true, if_false, ite_true, ite_false, decide_true, decide_false, nod] <;> by_cases c : p = 60 + n <;> simp [c, nz_lt, hw] <;> first | rfl | exact ho
    · intro i; simp [sA1, sA2, sF1, sF2, sF3, sF4, sL1, sL2, sL3, sR1, sR2, sR3, sR4, sC1, sC2, updD, updLD]
    · intro k hk
      rcases hk with rfl | rfl | rfl | rfl | rfl <;> simp [sA1, sA2, sF1, sF2, sF3, sF4, sL1, sL2, sL3, sR1, sR2, sR3, sR4, sC1, sC2, updD, updLD]
    · intro i; simp [sA1, sA2, sF1, sF2, sF3, sF4, sL1, sL2, sL3, sR1, sR2, sR3, sR4, sC1, sC2, updD, updLD]
  · obtain ⟨a1, a2, a3, a4, a5, a6, a7⟩ := h1 (by omega)
    rw [if_neg d0, if_neg (by omega)]
    have e6 : nI d - 1 = nI (d - 1) := pk_sub (b := 1) (by omega)
    have e7 : ib (nI (d - 1)) 9 = true := ib_nI (by omega) (by decide)
    have e8 : (nI (d - 1)).toNatClampNeg = d - 1 := nI_clamp (by omega)
    have e9 : nI (60 + a) - 60 = nI a := by
      rw [show (60 : Int32) = nI 60 from rfl, pk_sub (by omega)]
      congr 1
      omega
    have e10 : ib (nI (60 + a)) 120 = true := ib_nI (by omega) (by decide)
    have e11 : (nI (60 + a)).toNatClampNeg = 60 + a := nI_clamp (by omega)
    have e12 : nI (T 4 a) - nI (T 4 a - t) = nI t := by
      rw [pk_sub (by omega)]
      congr 1
      omega
    have e13 : 4 * nI (60 + a) + nI t = nI (4 * (60 + a) + t) := by
      rw [show (4 : Int32) = nI 4 from rfl, pk_mul, nI_add]
    have e14 : ib (nI (4 * (60 + a) + t)) 480 = true := ib_nI (by omega) (by decide)
    have e15 : (nI (4 * (60 + a) + t)).toNatClampNeg = 4 * (60 + a) + t := nI_clamp (by omega)
    have e16 : nI (60 + n) - 60 = nI n := by
      rw [show (60 : Int32) = nI 60 from rfl, pk_sub (by omega)]
      congr 1
      omega
    have e17 : nI (T 4 a - t) - 1 = nI (T 4 a - t - 1) := pk_sub (b := 1) (by omega)
    have ne : ¬ (60 + a = 60 + n) := by omega
    simp only [rI, sA1, sF1, sA2, sF3, updD, ho, e6, e7, e8, ck_t, Nat.reduceAdd, Nat.reduceMul, Nat.reduceSub, Nat.reduceEqDiff, Nat.reduceLT, Nat.reduceLeDiff, Nat.reduceBEq, reduceIte, reduceCtorEq, if_true, if_false, ite_true, ite_false, decide_true, decide_false, a6, e9, e10, e11, a5, a7, e12, if_neg ne, if_pos, e13, e14, e15, e16, e17, lE_d]
    refine ⟨_, rfl, ?_, ?_, ?_, ?_, ?_, ?_, ?_⟩
    · exact ((((((((((fm.rf.F (by decide) _).A (by decide) _ _ (by simp [lom])).A (by decide) _ _ (by simp [lom])).A (by decide) _ _ (by simp [lom])).A (by decide) _ _ (by simp [lom])).A (by decide) _ _ (by simp [lom])).A (by decide) _ _ (by simp [lom])).A (by decide) _ _ (by simp [lom])).A (by decide) _ _ (by simp [lom])).A (by decide) _ _ (by simp [lom]; omega)).A (by decide) _ _ (by simp [lom])
    · intro k hk; simp [sA1, sA2, sF1, sF2, sF3, sF4, sL1, sL2, sL3, sR1, sR2, sR3, sR4, sC1, sC2, updD, updLD, hk]
    · simp [sA1, sA2, sF1, sF2, sF3, sF4, sL1, sL2, sL3, sR1, sR2, sR3, sR4, sC1, sC2, updD, updLD]
    · intro j p j1 j2
      have : j = 1 ∨ j = 2 ∨ j = 3 ∨ j = 4 ∨ j = 5 ∨ j = 6 ∨ j = 7 := by omega
      rcases this with rfl | rfl | rfl | rfl | rfl | rfl | rfl <;> simp only [mr, sA1, sA2, sF1, sF2, sF3, sF4, sL1, sL2, sL3, sR1, sR2, sR3, sR4, sC1, sC2, updD, updLD, Nat.reduceAdd, Nat.reduceMul, Nat.reduceSub, Nat.reduceEqDiff, Nat.reduceLT, Nat.reduceLeDiff, Nat.reduceBEq, reduceIte, reduceCtorEq, if_true, if_false, ite_true, ite_false, decide_true, decide_false, nod] <;> by_cases c : p = 60 + n <;> simp [c, nz_lt, hw, ho, show a < 1000 by omega, show d < 1000 by omega, show t < 1000 by omega] <;> rfl
    · intro i
      have : a < 1000 := by omega
      simp [sA1, sA2, sF1, sF2, sF3, sF4, sL1, sL2, sL3, sR1, sR2, sR3, sR4, sC1, sC2, updD, updLD, this]
    · intro k hk
      rcases hk with rfl | rfl | rfl | rfl | rfl <;> simp [sA1, sA2, sF1, sF2, sF3, sF4, sL1, sL2, sL3, sR1, sR2, sR3, sR4, sC1, sC2, updD, updLD]
    · intro i
      have : 0 < d := by omega
      simp [sA1, sA2, sF1, sF2, sF3, sF4, sL1, sL2, sL3, sR1, sR2, sR3, sR4, sC1, sC2, updD, updLD, this]
