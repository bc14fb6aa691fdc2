/-! the reference's reading -/
def mr (j : Nat) : Nat := if j = 6 then 74 else if j = 7 then 72 else 66 + j
/-- what the reference holds of n places, from row places o, sets from k on -/
def mR (o k n : Nat) (T : TT) (σ : St) : Prop := (∀ j p, 1 ≤ j → j ≤ 7 → p < n → σ.1 (mr j) (o + p) = nz (T j p)) ∧ (∀ i, i < 240 → T 9 i ≠ 0 → σ.1 75 (4 * o + i) = nI (T 9 i)) ∧ (∀ s, s < 10 → σ.1 76 (k + s) = if T 13 s = 1000 then -1 else nI (T 13 s)) ∧ (∀ s, s < 10 → σ.1 77 (k + s) = nI (T 14 s))
def mC (o n : Nat) (T : TT) (σ : St) : Prop := ∀ p, 0 < p → p < n → T 1 (T 5 p) = 1 → σ.1 73 (o + p) = nI (T 8 p)
def mS (B : Nat → Nat) (L d : Nat) (s : SS) (σ : St) : Prop := tm B L σ ∧ s.1 ≤ L ∧ σ.2.2.1 46 = nI s.1 ∧ σ.2.2.1 51 = nI s.2.1 ∧ σ.2.2.1 50 = nI d ∧ s.2.1 ≤ 60 ∧ so s.2.2 s.2.1 ∧ mR 60 10 s.2.1 s.2.2 σ
def kaM : List Nat := [67, 68, 69, 70, 71, 72, 73, 74, 75, 76, 77, 81, 82, 83]
def kfM : List Nat := [46, 47, 48, 49, 50, 51]
def lom (k : Nat) : Nat := if k = 75 then 240 else if k = 76 ∨ k = 77 then 10 else 60
def fm (σ σ' : St) : Prop := fr kaM [] kfM σ σ' ∧ ∀ k i, 67 ≤ k → k ≤ 77 → i < lom k → σ'.1 k i = σ.1 k i
theorem fm.rf {σ : St} : fm σ σ := ⟨fr.rf, fun _ _ _ _ _ => rfl⟩
theorem fm.tr {σ σ1 σ2 : St} (h : fm σ σ1) (h2 : fm σ1 σ2) : fm σ σ2 := ⟨h.1.tr h2.1, fun k i a b c => (h2.2 k i a b c).trans (h.2 k i a b c)⟩
theorem fm.tok {σ σ1 : St} {kf : List Nat} (h : fr [] [] kf σ σ1) (hk : ∀ k ∈ kf, k ∈ kfM) : fm σ σ1 := ⟨h.mo (by simp) (by simp) hk, fun k i _ _ _ => by rw [h.1 k (by simp)]⟩
theorem fm.A {σ σ1 : St} (h : fm σ σ1) {k : Nat} (hk : k ∈ kaM) (i : Nat) (x : Int32) (hi : 67 ≤ k → k ≤ 77 → lom k ≤ i) : fm σ (stA σ1 k i x) := ⟨h.1.A hk i x, fun k' i' a b c => by
  rw [sA1]
  by_cases e : k' = k
  · subst e
    rw [if_pos rfl, updD, if_neg (by have := hi a b; omega)]
    exact h.2 k' i' a b c
  · rw [if_neg e]
    exact h.2 k' i' a b c⟩
theorem fm.F {σ σ1 : St} (h : fm σ σ1) {k : Nat} (hk : k ∈ kfM) (x : Int32) : fm σ (stF σ1 k x) := ⟨h.1.F hk x, fun k' i' a b c => h.2 k' i' a b c⟩
theorem m_token {B : Nat → Nat} {L q : Nat} {σ : St} (ht : tm B L σ) (hq : q ≤ L) (h6 : σ.2.2.1 46 = nI q) : ∃ σ', f_HM_token σ = some σ' ∧ fr [] [] [46, 47, 48, 49] σ σ' ∧ tm B L σ' ∧ σ'.2.2.1 47 = nI (tS B L q) ∧ σ'.2.2.1 46 = nI (tE B L q) ∧ σ'.2.2.1 48 = nI (tR B L q) ∧ (tC B L q = 4 → σ'.2.2.1 49 = nI (tV B L q)) := by
  obtain ⟨σ', h1, h2, h3, h4, h5, h7⟩ := q_token ht hq h6
  exact ⟨σ', h1, h2, ht.fr h2 (by decide) (by decide) (by decide) (by decide), h3, h4, h5, h7⟩
/-- the first writes of a place -/
def wr1 (σ : St) (n : Nat) (w : Int32) : St := stA (stA (stA (stA (stF σ 51 (nI (n + 1))) 67 (60 + n) w) 68 (60 + n) (-1000000)) 69 (60 + n) (-1000000)) 70 (60 + n) 0
def wr2 (σ : St) (n : Nat) (y : Int32) (d : Nat) : St := stA (stA (stA σ 71 (60 + n) y) 72 (60 + n) 0) 74 (60 + n) (nI d)
theorem b39_e {n : Nat} {w : Int32} {σ : St} (hn : n < 60) (hc : σ.2.2.1 51 = nI n) : f_HM_readsPlace_b39 w σ = if (rF (wr1 σ n w) 50) = 0 then (f_HM_readsPlace_b118 w (nI (60 + n)) (nI (60 + n)) ((-1000000)) (wr1 σ n w)) else (ck (ib ((rF (wr1 σ n w) 50) - 1) 9) <| f_HM_readsPlace_b118 w (nI (60 + n)) (nI (60 + n)) ((rI (wr1 σ n w) 81 ((rF (wr1 σ n w) 50) - 1)) - 60) (wr1 σ n w)) := by
  have e1 : ib (nI (60 + n)) 120 = true := ib_nI (by omega) (by decide)
  have e2 : (60 : Int32) + nI n = nI (60 + n) := nI_add 60 n
  have e3 : (nI (60 + n)).toNatClampNeg = 60 + n := nI_clamp (by omega)
  have e0 : (60 : Int32) + rF σ 51 = nI (60 + n) := by rw [rF, hc, e2]
  have e7 : rF σ 51 + 1 = nI (n + 1) := by rw [rF, hc, nI_1]
  unfold f_HM_readsPlace_b39
  rw [e0, e7, lE_d, ck_p e1, e3, lE_d, ck_p e1, lE_d, ck_p e1, lE_d, ck_p e1, lE_d]
  rfl
theorem b118_e {n d : Nat} {w y : Int32} {σ : St} (hn : n < 60) (ho : σ.2.2.1 50 = nI d) : f_HM_readsPlace_b118 w (nI (60 + n)) (nI (60 + n)) y σ = if (rF (wr2 σ n y d) 50) ≤ 0 then (f_HM_readsPlace_b213 w (nI (60 + n)) (wr2 σ n y d)) else (ck (ib ((rF (wr2 σ n y d) 50) - 1) 9) <| ck (ib (rI (wr2 σ n y d) 81 ((rF (wr2 σ n y d) 50) - 1)) 120) <| ck (ib ((rF (wr2 σ n y d) 50) - 1) 9) <| lE (stA (wr2 σ n y d) 72 (60 + n) ((rI (wr2 σ n y d) 70 (rI (wr2 σ n y d) 81 ((rF (wr2 σ n y d) 50) - 1))) - (rI (wr2 σ n y d) 82 ((rF (wr2 σ n y d) 50) - 1)))) fun σ15 => ck (ib ((4 * (rI (wr2 σ n y d) 81 ((rF (wr2 σ n y d) 50) - 1))) + (σ15.1 72 (60 + n))) 480) <| lE (stA σ15 75 ((4 * (rI (wr2 σ n y d) 81 ((rF (wr2 σ n y d) 50) - 1))) + (σ15.1 72 (60 + n))).toNatClampNeg (nI (60 + n) - 60)) fun σ19 => ck (ib ((rF σ19 50) - 1) 9) <| ck (ib ((rF σ19 50) - 1) 9) <| lE (stA σ19 82 ((rF σ19 50) - 1).toNatClampNeg ((rI σ19 82 ((rF σ19 50) - 1)) - 1)) fun σ23 => f_HM_readsPlace_b213 w (nI (60 + n)) σ23) := by
  have e1 : ib (nI (60 + n)) 120 = true := ib_nI (by omega) (by decide)
  have e3 : (nI (60 + n)).toNatClampNeg = 60 + n := nI_clamp (by omega)
  have e5 : rF (stA (stA σ 71 (60 + n) y) 72 (60 + n) 0) 50 = nI d := ho
  unfold f_HM_readsPlace_b118
  unfold rI
  rw [e3, ck_p e1, lE_d, ck_p e1, lE_d, ck_p e1, e5, lE_d]
  simp only [ck_p e1]
  rfl
theorem m_add {n w a t x d : Nat} {T : TT} {σ : St} (hn : n < 60) (hc : σ.2.2.1 51 = nI n) (ho : σ.2.2.1 50 = nI d) (hw : w < 1000) (hd : d ≤ 8) (h0 : d = 0 → a = 1000 ∧ t = 0) (h1 : 0 < d → a < n ∧ t < 4 ∧ t < T 4 a ∧ T 4 a ≤ 4 ∧ σ.1 70 (60 + a) = nI (T 4 a) ∧ σ.1 81 (d - 1) = nI (60 + a) ∧ σ.1 82 (d - 1) = nI (T 4 a - t)) : ∃ σ1, f_HM_readsPlace_b39 (nI w) σ = f_HM_readsPlace_b213 (nI w) (nI (60 + n)) σ1 ∧ fm σ σ1 ∧ (∀ k, k ≠ 51 → σ1.2.2.1 k = σ.2.2.1 k) ∧ σ1.2.2.1 51 = nI (n + 1) ∧ (∀ j p, 1 ≤ j → j ≤ 7 → σ1.1 (mr j) p = if p = 60 + n then nz (nod T n w a t x d 1000 1000 0 j n) else σ.1 (mr j) p) ∧ (∀ i, σ1.1 75 i = if a < 1000 ∧ i = 4 * (60 + a) + t then nI n else σ.1 75 i) ∧ (∀ k, k = 73 ∨ k = 76 ∨ k = 77 ∨ k = 81 ∨ k = 83 → σ1.1 k = σ.1 k) ∧ (∀ i, σ1.1 82 i = if 0 < d ∧ i = d - 1 then nI (T 4 a - t - 1) else σ.1 82 i) := by
  have e4 : (nI d = 0) ↔ d = 0 := nI_eq (b := 0) (by omega) (by decide)
  have e5 : (nI d ≤ 0) ↔ d ≤ 0 := nI_leI (b := 0) (by omega) (by decide)
  have o1 : rF (wr1 σ n (nI w)) 50 = nI d := ho
  have o2 : ∀ y, rF (wr2 (wr1 σ n (nI w)) n y d) 50 = nI d := fun y => ho
  rw [b39_e hn hc, b118_e hn (show (wr1 σ n (nI w)).2.2.1 50 = nI d from ho), b118_e hn (show (wr1 σ n (nI w)).2.2.1 50 = nI d from ho), o1, o2, o2]
  simp only [e4, e5]
  by_cases d0 : d = 0
  · subst d0
    obtain ⟨rfl, rfl⟩ := h0 rfl
    rw [if_pos rfl, if_pos (by omega)]
    unfold wr2 wr1
    refine ⟨_, rfl, ?_, ?_, ?_, ?_, ?_, ?_, ?_⟩
    · exact (((((((fm.rf.F (by decide) _).A (by decide) _ _ (by simp [lom])).A (by decide) _ _ (by simp [lom])).A (by decide) _ _ (by simp [lom])).A (by decide) _ _ (by simp [lom])).A (by decide) _ _ (by simp [lom])).A (by decide) _ _ (by simp [lom])).A (by decide) _ _ (by simp [lom])
    · intro k hk; simp [sA1, sA2, sF1, sF2, sF3, sF4, sL1, sL2, sL3, sR1, sR2, sR3, sR4, sC1, sC2, updD, updLD, hk]
    · simp [sA1, sA2, sF1, sF2, sF3, sF4, sL1, sL2, sL3, sR1, sR2, sR3, sR4, sC1, sC2, updD, updLD]
    · intro j p j1 j2
      have : j = 1 ∨ j = 2 ∨ j = 3 ∨ j = 4 ∨ j = 5 ∨ j = 6 ∨ j = 7 := by omega
      rcases this with rfl | rfl | rfl | rfl | rfl | rfl | rfl <;> simp only [mr, sA1, sA2, sF1, sF2, sF3, sF4, sL1, sL2, sL3, sR1, sR2, sR3, sR4, sC1, sC2, updD, updLD, Nat.reduceAdd, Nat.reduceMul, Nat.reduceSub, Nat.reduceEqDiff, Nat.reduceLT, Nat.reduceLeDiff, Nat.reduceBEq, reduceIte, reduceCtorEq, if_true, if_false, ite_true, ite_false, decide_true, decide_false, nod] <;> by_cases c : p = 60 + n <;> simp [c, nz_lt, hw] <;> first | rfl | exact ho
    · intro i; simp [sA1, sA2, sF1, sF2, sF3, sF4, sL1, sL2, sL3, sR1, sR2, sR3, sR4, sC1, sC2, updD, updLD]
    · intro k hk
      rcases hk with rfl | rfl | rfl | rfl | rfl <;> simp [sA1, sA2, sF1, sF2, sF3, sF4, sL1, sL2, sL3, sR1, sR2, sR3, sR4, sC1, sC2, updD, updLD]
    · intro i; simp [sA1, sA2, sF1, sF2, sF3, sF4, sL1, sL2, sL3, sR1, sR2, sR3, sR4, sC1, sC2, updD, updLD]
  · obtain ⟨a1, a2, a3, a4, a5, a6, a7⟩ := h1 (by omega)
    have e6 : nI d - 1 = nI (d - 1) := pk_sub (b := 1) (by omega)
    have e7 : ib (nI (d - 1)) 9 = true := ib_nI (by omega) (by decide)
    have e8 : (nI (d - 1)).toNatClampNeg = d - 1 := nI_clamp (by omega)
    have e9 : nI (60 + a) - 60 = nI a := by
      rw [show (60 : Int32) = nI 60 from rfl, pk_sub (by omega)]
      congr 1
      omega
    have e10 : ib (nI (60 + a)) 120 = true := ib_nI (by omega) (by decide)
    have e11 : (nI (60 + a)).toNatClampNeg = 60 + a := nI_clamp (by omega)
    have e12 : nI (T 4 a) - nI (T 4 a - t) = nI t := by
      rw [pk_sub (by omega)]
      congr 1
      omega
    have e13 : 4 * nI (60 + a) + nI t = nI (4 * (60 + a) + t) := by
      rw [show (4 : Int32) = nI 4 from rfl, pk_mul, nI_add]
    have e14 : ib (nI (4 * (60 + a) + t)) 480 = true := ib_nI (by omega) (by decide)
    have e15 : (nI (4 * (60 + a) + t)).toNatClampNeg = 4 * (60 + a) + t := nI_clamp (by omega)
    have e17 : nI (T 4 a - t) - 1 = nI (T 4 a - t - 1) := pk_sub (b := 1) (by omega)
    have e16 : nI (60 + n) - 60 = nI n := by
      rw [show (60 : Int32) = nI 60 from rfl, pk_sub (by omega)]
      congr 1
      omega
    have r1 : ∀ k, k = 81 ∨ k = 82 → (wr1 σ n (nI w)).1 k = σ.1 k := fun k hk => by
      rcases hk with rfl | rfl <;> rfl
    have hy : rI (wr1 σ n (nI w)) 81 (nI d - 1) - 60 = nI a := by
      rw [rI, e6, e8, r1 81 (Or.inl rfl), a6, e9]
    rw [if_neg d0, if_neg (show ¬ d ≤ 0 by omega), hy]
    have q1 : ∀ k, k = 81 ∨ k = 82 → (wr2 (wr1 σ n (nI w)) n (nI a) d).1 k = σ.1 k := fun k hk => by
      rcases hk with rfl | rfl <;> rfl
    have s1 : rI (wr2 (wr1 σ n (nI w)) n (nI a) d) 81 (nI d - 1) = nI (60 + a) := by
      rw [rI, e6, e8, q1 81 (Or.inl rfl), a6]
    have s2 : rI (wr2 (wr1 σ n (nI w)) n (nI a) d) 70 (nI (60 + a)) = nI (T 4 a) := by
      unfold wr2 wr1
      rw [rI, e11, sA1, if_neg (by decide), sA1, if_neg (by decide), sA1, if_neg (by decide), sA1, if_pos rfl, updD, if_neg (by omega), sA1, if_neg (by decide), sA1, if_neg (by decide), sA1, if_neg (by decide), sF1, a5]
    have s3 : rI (wr2 (wr1 σ n (nI w)) n (nI a) d) 82 (nI d - 1) = nI (T 4 a - t) := by
      rw [rI, e6, e8, q1 82 (Or.inr rfl), a7]
    have s4 : ∀ S : St, (stA S 72 (60 + n) (nI t)).1 72 (60 + n) = nI t := fun S => by rw [sA1, if_pos rfl, updD, if_pos rfl]
    have e7' : ib (nI d - 1) 9 = true := by rw [e6]; exact e7
    have e8' : (nI d - 1).toNatClampNeg = d - 1 := by rw [e6]; exact e8
    have s5 : ∀ (x y : Int32) (i : Nat), rF (stA (stA (wr2 (wr1 σ n (nI w)) n (nI a) d) 72 (60 + n) x) 75 i y) 50 = nI d := fun _ _ _ => ho
    have s6 : ∀ (x y : Int32) (i : Nat), rI (stA (stA (wr2 (wr1 σ n (nI w)) n (nI a) d) 72 (60 + n) x) 75 i y) 82 (nI d - 1) = nI (T 4 a - t) := fun x y i => by
      rw [rI, sA1, if_neg (by decide), sA1, if_neg (by decide)]
      exact s3
    rw [ck_p e7', ck_p e7', s1, ck_p e10, ck_p e7', s2, s3, e12, lE_d, s4, e13, ck_p e14, e15, e16, lE_d, s5, ck_p e7', ck_p e7', s6, e17, e8', lE_d]
    unfold wr2 wr1
    refine ⟨_, rfl, ?_, ?_, ?_, ?_, ?_, ?_, ?_⟩
    · exact ((((((((((fm.rf.F (by decide) _).A (by decide) _ _ (by simp [lom])).A (by decide) _ _ (by simp [lom])).A (by decide) _ _ (by simp [lom])).A (by decide) _ _ (by simp [lom])).A (by decide) _ _ (by simp [lom])).A (by decide) _ _ (by simp [lom])).A (by decide) _ _ (by simp [lom])).A (by decide) _ _ (by simp [lom])).A (by decide) _ _ (by simp [lom]; omega)).A (by decide) _ _ (by simp [lom])
    · intro k hk; simp [sA1, sA2, sF1, sF2, sF3, sF4, sL1, sL2, sL3, sR1, sR2, sR3, sR4, sC1, sC2, updD, updLD, hk]
    · simp [sA1, sA2, sF1, sF2, sF3, sF4, sL1, sL2, sL3, sR1, sR2, sR3, sR4, sC1, sC2, updD, updLD]
    · intro j p j1 j2
      have : j = 1 ∨ j = 2 ∨ j = 3 ∨ j = 4 ∨ j = 5 ∨ j = 6 ∨ j = 7 := by omega
      rcases this with rfl | rfl | rfl | rfl | rfl | rfl | rfl <;> simp only [mr, sA1, sA2, sF1, sF2, sF3, sF4, sL1, sL2, sL3, sR1, sR2, sR3, sR4, sC1, sC2, updD, updLD, Nat.reduceAdd, Nat.reduceMul, Nat.reduceSub, Nat.reduceEqDiff, Nat.reduceLT, Nat.reduceLeDiff, Nat.reduceBEq, reduceIte, reduceCtorEq, if_true, if_false, ite_true, ite_false, decide_true, decide_false, nod] <;> by_cases c : p = 60 + n <;> simp [c, nz_lt, hw, ho, show a < 1000 by omega, show d < 1000 by omega, show t < 1000 by omega] <;> rfl
    · intro i
      have : a < 1000 := by omega
      simp [sA1, sA2, sF1, sF2, sF3, sF4, sL1, sL2, sL3, sR1, sR2, sR3, sR4, sC1, sC2, updD, updLD, this]
    · intro k hk
      rcases hk with rfl | rfl | rfl | rfl | rfl <;> simp [sA1, sA2, sF1, sF2, sF3, sF4, sL1, sL2, sL3, sR1, sR2, sR3, sR4, sC1, sC2, updD, updLD]
    · intro i
      have : 0 < d := by omega
      simp [sA1, sA2, sF1, sF2, sF3, sF4, sL1, sL2, sL3, sR1, sR2, sR3, sR4, sC1, sC2, updD, updLD, this]
