theorem q_inV {v : Nat} (a b : Nat) (hv : v < 1000) (ha : a < 1000) (hb : b < 1000) (σ : St) : f_HM_in (nI v).toInt64 (lN a) (lN b) σ = some (if v < a ∨ b < v then 0 else 1, σ) := by
  rw [q_HM_inN _ _ _ (by omega) (by omega)]
  simp only [nI_ltI (show v < 2 ^ 31 by omega) (show a < 2 ^ 31 by omega), nI_leI (show b + 1 < 2 ^ 31 by omega) (show v < 2 ^ 31 by omega), Nat.succ_le_iff]
theorem mR_nod {n w a t x d py st nw : Nat} {T : TT} {σ σ' : St} (hR : mR 60 10 n T σ) (h1 : ∀ j p, 1 ≤ j → j ≤ 7 → σ'.1 (mr j) p = if p = 60 + n then nz (nod T n w a t x d py st nw j n) else σ.1 (mr j) p) (h3 : ∀ i, σ'.1 75 i = if a < 1000 ∧ i = 4 * (60 + a) + t then nI n else σ.1 75 i) (h6 : σ'.1 76 = σ.1 76) (h7 : σ'.1 77 = σ.1 77) : mR 60 10 (n + 1) (nod T n w a t x d py st nw) σ' := by
  obtain ⟨r1, r2, r3, r4⟩ := hR
  refine ⟨fun j p j1 j2 hp => ?_, fun i hi hne => ?_, fun s hs => ?_, fun s hs => ?_⟩
  · rw [h1 j (60 + p) j1 j2]
    by_cases c : p = n
    · subst c; rw [if_pos rfl]
    · rw [if_neg (by omega), nod_old c (by omega)]
      exact r1 j p j1 j2 (by omega)
  · rw [nod_9] at hne ⊢
    rw [h3]
    by_cases c : a < 1000 ∧ i = 4 * a + t
    · rw [if_pos c, if_pos (by omega)]
    · rw [if_neg c] at hne ⊢
      rw [if_neg (by omega)]
      exact r2 i hi hne
  · rw [h6, nod_big (by omega)]; exact r3 s hs
  · rw [h7, nod_big (by omega)]; exact r4 s hs
theorem so_nod {n w a t x d py st nw : Nat} {T : TT} (h : so T n) : so (nod T n w a t x d py st nw) (n + 1) := by
  intro s hs
  obtain ⟨h1, h2, h3⟩ := h s hs
  rw [nod_big (by omega), nod_big (by omega), nod_big (by omega), nod_big (by omega)]
  exact ⟨h1, by omega, h3⟩
theorem so_put {n w a t x d py v nw : Nat} {T : TT} (h : so T n) (hn : n < 60) (hw : w = 2 ∨ w = 3) (h2 : 2 ≤ nw) (h3 : nw ≤ 3) : so (put (nod T n w a t x d py v nw) n w v nw) (n + 1) := by
  intro s hs
  obtain ⟨g1, g2, g3⟩ := h s hs
  by_cases c : s = v
  · subst c
    simp only [put, if_true, true_and, Nat.reduceEqDiff, if_false, nod_big (show 10 ≤ 13 by omega), nod_big (show 10 ≤ 14 by omega), nod_big (show 10 ≤ 15 by omega), nod_big (show 10 ≤ 16 by omega)]
    refine ⟨Or.inr ⟨by omega, h2, h3, by omega⟩, by omega, ?_⟩
    split <;> omega
  · rw [put_old c, put_old c, put_old c, put_old c, nod_big (by omega), nod_big (by omega), nod_big (by omega), nod_big (by omega)]
    exact ⟨g1, by omega, g3⟩
/-- what the reference's reading of a head leaves -/
def mOut (B : Nat → Nat) (L n d w : Nat) (σ1 : St) (r : RR) (m : Option (Int32 × St)) : Prop := match r with
  | .inl e => ∃ σ', m = some (nI e.1, σ') ∧ 0 < e.1 ∧ e.1 ≤ 3 ∧ σ'.2.2.1 47 = nI e.2 ∧ fm σ1 σ'
  | .inr s => ∃ σ', m = some (0, σ') ∧ fm σ1 σ' ∧ tm B L σ' ∧ s.1 ≤ L ∧ σ'.2.2.1 46 = nI s.1 ∧ σ'.2.2.1 51 = nI s.2.1 ∧ σ'.2.2.1 50 = nI (if w = 0 then d else d + 1) ∧ s.2.1 ≤ 60 ∧ so s.2.2 s.2.1 ∧ mR 60 10 s.2.1 s.2.2 σ' ∧ (w ≠ 0 → σ'.1 81 d = nI (60 + n) ∧ σ'.1 82 d = nI (s.2.2 4 n) ∧ σ'.1 83 d = 0) ∧ (∀ k j, k = 81 ∨ k = 82 ∨ k = 83 → j < d → σ'.1 k j = σ1.1 k j) ∧ σ'.1 73 = σ1.1 73
theorem m_push {n d u : Nat} {σ : St} (hn : n < 60) (hd : d < 8) (ho : σ.2.2.1 50 = nI d) (hm : σ.1 70 (60 + n) = nI u) : f_HM_readsPlace_b264 (nI (60 + n)) 0 σ = some (0, stF (stA (stA (stA σ 81 d (nI (60 + n))) 82 d (nI u)) 83 d 0) 50 (nI (d + 1))) := by
  have e1 : ib (nI d) 9 = true := ib_nI (by omega) (by decide)
  have e2 : (nI d).toNatClampNeg = d := nI_clamp (by omega)
  have e3 : ib (nI (60 + n)) 120 = true := ib_nI (by omega) (by decide)
  have e4 : (nI (60 + n)).toNatClampNeg = 60 + n := nI_clamp (by omega)
  unfold f_HM_readsPlace_b264
  simp only [rF, rI, sA1, sA2, ho, e1, e2, e3, e4, ck_t, lE_d, Nat.reduceAdd, Nat.reduceMul, Nat.reduceSub, Nat.reduceEqDiff, Nat.reduceLT, Nat.reduceLeDiff, Nat.reduceBEq, reduceIte, reduceCtorEq, if_true, if_false, ite_true, ite_false, decide_true, decide_false, hm, nI_1]
theorem fm.push {n d u : Nat} {σ0 σ : St} (h : fm σ0 σ) : fm σ0 (stF (stA (stA (stA σ 81 d (nI (60 + n))) 82 d (nI u)) 83 d 0) 50 (nI (d + 1))) := (((h.A (by decide) _ _ (by simp)).A (by decide) _ _ (by simp)).A (by decide) _ _ (by simp)).F (by decide) _
theorem m_b213 {B : Nat → Nat} {L q n w a t x d : Nat} {T : TT} {σ σ1 : St} (ht : tm B L σ1) (hq : q ≤ L) (h6 : σ1.2.2.1 46 = nI q) (hn : n < 60) (h51 : σ1.2.2.1 51 = nI (n + 1)) (h50 : σ1.2.2.1 50 = nI d) (hd8 : d ≤ 8) (hw : w < 4) (hdw : w ≠ 0 → d < 8) (hso : so T n) (hR : mR 60 10 n T σ) (h1 : ∀ j p, 1 ≤ j → j ≤ 7 → σ1.1 (mr j) p = if p = 60 + n then nz (nod T n w a t x d 1000 1000 0 j n) else σ.1 (mr j) p) (h3 : ∀ i, σ1.1 75 i = if a < 1000 ∧ i = 4 * (60 + a) + t then nI n else σ.1 75 i) (h76 : σ1.1 76 = σ.1 76) (h77 : σ1.1 77 = σ.1 77) : mOut B L n d w σ1 (if tC B L q ≠ 4 then .inl (1, tS B L q)
  else if w = 0 then .inr (tE B L q, n + 1, nod T n 0 a t x d (tV B L q) 1000 0)
  else if w = 1 then (if tV B L q < 2 ∨ 4 < tV B L q then .inl (2, tS B L q) else .inr (tE B L q, n + 1, nod T n 1 a t x d 1000 1000 (tV B L q)))
  else if 10 ≤ tV B L q ∨ (T 13 (tV B L q) ≠ 1000 ∧ T 13 (tV B L q) ≠ w - 2) then .inl (2, tS B L q)
  else if tC B L (tE B L q) ≠ 4 then .inl (1, tS B L (tE B L q))
  else if tV B L (tE B L q) < 2 ∨ 3 < tV B L (tE B L q) ∨ (T 14 (tV B L q) ≠ 0 ∧ T 14 (tV B L q) ≠ tV B L (tE B L q)) then .inl (2, tS B L (tE B L q))
  else .inr (tE B L (tE B L q), n + 1, put (nod T n w a t x d 1000 (tV B L q) (tV B L (tE B L q))) n w (tV B L q) (tV B L (tE B L q)))) (f_HM_readsPlace_b213 (nI w) (nI (60 + n)) σ1) := by
  obtain ⟨σ2, t1, t2, t3, t4, t5, t6, t7⟩ := m_token ht hq h6
  have hE := tE_le B hq
  have fm2 : fm σ1 σ2 := fm.tok t2 (by decide)
  have e21 : ∀ k, σ2.1 k = σ1.1 k := fun k => t2.1 k (by simp)
  have o50 : σ2.2.2.1 50 = nI d := by rw [t2.2.2.1 50 (by decide)]; exact h50
  have o51 : σ2.2.2.1 51 = nI (n + 1) := by rw [t2.2.2.1 51 (by decide)]; exact h51
  have eN : ib (nI (60 + n)) 120 = true := ib_nI (by omega) (by decide)
  have nc : (nI (60 + n)).toNatClampNeg = 60 + n := nI_clamp (by omega)
  have iw0 : (nI w = 0) ↔ w = 0 := nI_eq (b := 0) (by omega) (by decide)
  have iw1 : (nI w = 1) ↔ w = 1 := nI_eq (b := 1) (by omega) (by decide)
  have i2 : (nI (tR B L q) = 2) ↔ tC B L q = 4 := by
    have := tR_lt B L q
    rw [← (tR_C B L q).1]
    exact nI_eq (b := 2) (by omega) (by decide)
  unfold f_HM_readsPlace_b213
  simp only [t1, bv_s, rF, t6, i2, iw0, iw1]
  by_cases c4 : tC B L q = 4
  · rw [if_pos c4, if_neg (show ¬ (tC B L q ≠ 4) by simp [c4])]
    have f9 := t7 c4
    have v100 := tV_lt B L q c4
    by_cases w0 : w = 0
    · rw [if_pos w0, if_pos w0]
      subst w0
      simp only [eN, nc, ck_t, lE_d, f9]
      refine ⟨_, rfl, fm2.A (by decide) _ _ (by simp [lom]), t3.fr (fr.rf.A (ka := [68]) (kl := []) (kf := []) (by decide) _ _) (by decide) (by decide) (by decide) (by decide), hE.2, t5, o51, o50, (by show n + 1 ≤ 60; omega), so_nod hso, ?_, fun h => absurd rfl h, fun k j hk hj => ?_, ?_⟩
      · refine mR_nod (σ := σ) hR (fun j p j1 j2 => ?_) (fun i => ?_) ?_ ?_
        · have : j = 1 ∨ j = 2 ∨ j = 3 ∨ j = 4 ∨ j = 5 ∨ j = 6 ∨ j = 7 := by omega
          rcases this with rfl | rfl | rfl | rfl | rfl | rfl | rfl
          · rw [sA1, if_neg (by decide), e21, h1 1 p (by omega) (by omega)]; simp [nod]
          · rw [sA1, if_pos (show mr 2 = 68 from rfl), updD, e21, h1 2 p (by omega) (by omega)]
            by_cases cp : p = 60 + n
            · rw [if_pos cp, if_pos cp]; simp [nod, nz_lt (show tV B L q < 1000 by omega)]
            · rw [if_neg cp, if_neg cp, if_neg cp]
          · rw [sA1, if_neg (by decide), e21, h1 3 p (by omega) (by omega)]; simp [nod]
          · rw [sA1, if_neg (by decide), e21, h1 4 p (by omega) (by omega)]; simp [nod]
          · rw [sA1, if_neg (by decide), e21, h1 5 p (by omega) (by omega)]; simp [nod]
          · rw [sA1, if_neg (by decide), e21, h1 6 p (by omega) (by omega)]; simp [nod]
          · rw [sA1, if_neg (by decide), e21, h1 7 p (by omega) (by omega)]; simp [nod]
        · rw [sA1, if_neg (by decide), e21]; exact h3 i
        · rw [sA1, if_neg (by decide), e21]; exact h76
        · rw [sA1, if_neg (by decide), e21]; exact h77
      · rcases hk with rfl | rfl | rfl <;> rw [sA1, if_neg (by decide), e21]
      · rw [sA1, if_neg (by decide), e21]
    · rw [if_neg w0, if_neg w0]
      by_cases w1 : w = 1
      · rw [if_pos w1, if_pos w1]
        subst w1
        have ein : ∀ s : St, f_HM_in (nI (tV B L q)).toInt64 2 4 s = some (if tV B L q < 2 ∨ 4 < tV B L q then 0 else 1, s) := fun s => q_inV 2 4 (by omega) (by omega) (by omega) s
        unfold f_HM_readsDeal
        simp only [eN, nc, ck_t, lE_d, rF, f9, sA2, ein, bd_s]
        by_cases cv : tV B L q < 2 ∨ 4 < tV B L q
        · rw [if_pos cv, if_pos cv]
          simp only [if_true, bd_s]
          unfold f_HM_readsPlace_b264
          rw [if_neg (by decide)]
          exact ⟨_, rfl, by simp, by simp, t4, fm2.A (by decide) _ _ (by simp [lom])⟩
        · rw [if_neg cv, if_neg cv]
          simp only [show ¬ ((1 : Int32) = 0) by decide, if_false, bd_s]
          rw [m_push (u := tV B L q) hn (hdw w0) (by exact o50) (by rw [sA1, if_pos rfl, updD, if_pos rfl])]
          refine ⟨_, rfl, (fm2.A (by decide) _ _ (by simp [lom])).push, t3.fr ((((((fr.rf (ka := [70, 81, 82, 83]) (kl := []) (kf := [50])).A (by decide) _ _).A (by decide) _ _).A (by decide) _ _).A (by decide) _ _).F (by decide) _) (by decide) (by decide) (by decide) (by decide), hE.2, t5, o51, ?_, (by show n + 1 ≤ 60; omega), so_nod hso, ?_, fun _ => ⟨?_, ?_, ?_⟩, fun k j hk hj => ?_, ?_⟩
          · rw [sF3, if_pos rfl, if_neg (by decide)]
          · refine mR_nod (σ := σ) hR (fun j p j1 j2 => ?_) (fun i => ?_) ?_ ?_
            · have : j = 1 ∨ j = 2 ∨ j = 3 ∨ j = 4 ∨ j = 5 ∨ j = 6 ∨ j = 7 := by omega
              rcases this with rfl | rfl | rfl | rfl | rfl | rfl | rfl
              · simp only [mr, sF1, sA1, Nat.reduceAdd, Nat.reduceMul, Nat.reduceSub, Nat.reduceEqDiff, Nat.reduceLT, Nat.reduceLeDiff, Nat.reduceBEq, reduceIte, reduceCtorEq, if_true, if_false, ite_true, ite_false, decide_true, decide_false, e21]; rw [show σ1.1 67 = σ1.1 (mr 1) from rfl, h1 1 p (by omega) (by omega)]; simp [nod, mr]
              · simp only [mr, sF1, sA1, Nat.reduceAdd, Nat.reduceMul, Nat.reduceSub, Nat.reduceEqDiff, Nat.reduceLT, Nat.reduceLeDiff, Nat.reduceBEq, reduceIte, reduceCtorEq, if_true, if_false, ite_true, ite_false, decide_true, decide_false, e21]; rw [show σ1.1 68 = σ1.1 (mr 2) from rfl, h1 2 p (by omega) (by omega)]; simp [nod, mr]
              · simp only [mr, sF1, sA1, Nat.reduceAdd, Nat.reduceMul, Nat.reduceSub, Nat.reduceEqDiff, Nat.reduceLT, Nat.reduceLeDiff, Nat.reduceBEq, reduceIte, reduceCtorEq, if_true, if_false, ite_true, ite_false, decide_true, decide_false, e21]; rw [show σ1.1 69 = σ1.1 (mr 3) from rfl, h1 3 p (by omega) (by omega)]; simp [nod, mr]
              · simp only [mr, sF1, sA1, Nat.reduceAdd, Nat.reduceMul, Nat.reduceSub, Nat.reduceEqDiff, Nat.reduceLT, Nat.reduceLeDiff, Nat.reduceBEq, reduceIte, reduceCtorEq, if_true, if_false, ite_true, ite_false, decide_true, decide_false, e21, updD]; rw [show σ1.1 70 = σ1.1 (mr 4) from rfl, h1 4 p (by omega) (by omega)]
                by_cases cp : p = 60 + n
                · rw [if_pos cp, if_pos cp]; simp [nod, nz_lt (show tV B L q < 1000 by omega)]
                · rw [if_neg cp, if_neg cp, if_neg cp]; rfl
              · simp only [mr, sF1, sA1, Nat.reduceAdd, Nat.reduceMul, Nat.reduceSub, Nat.reduceEqDiff, Nat.reduceLT, Nat.reduceLeDiff, Nat.reduceBEq, reduceIte, reduceCtorEq, if_true, if_false, ite_true, ite_false, decide_true, decide_false, e21]; rw [show σ1.1 71 = σ1.1 (mr 5) from rfl, h1 5 p (by omega) (by omega)]; simp [nod, mr]
              · simp only [mr, sF1, sA1, Nat.reduceAdd, Nat.reduceMul, Nat.reduceSub, Nat.reduceEqDiff, Nat.reduceLT, Nat.reduceLeDiff, Nat.reduceBEq, reduceIte, reduceCtorEq, if_true, if_false, ite_true, ite_false, decide_true, decide_false, e21]; rw [show σ1.1 74 = σ1.1 (mr 6) from rfl, h1 6 p (by omega) (by omega)]; simp [nod, mr]
              · simp only [mr, sF1, sA1, Nat.reduceAdd, Nat.reduceMul, Nat.reduceSub, Nat.reduceEqDiff, Nat.reduceLT, Nat.reduceLeDiff, Nat.reduceBEq, reduceIte, reduceCtorEq, if_true, if_false, ite_true, ite_false, decide_true, decide_false, e21]; rw [show σ1.1 72 = σ1.1 (mr 7) from rfl, h1 7 p (by omega) (by omega)]; simp [nod, mr]
            · simp only [sF1, sA1, Nat.reduceAdd, Nat.reduceMul, Nat.reduceSub, Nat.reduceEqDiff, Nat.reduceLT, Nat.reduceLeDiff, Nat.reduceBEq, reduceIte, reduceCtorEq, if_true, if_false, ite_true, ite_false, decide_true, decide_false, e21]; exact h3 i
            · simp only [sF1, sA1, Nat.reduceAdd, Nat.reduceMul, Nat.reduceSub, Nat.reduceEqDiff, Nat.reduceLT, Nat.reduceLeDiff, Nat.reduceBEq, reduceIte, reduceCtorEq, if_true, if_false, ite_true, ite_false, decide_true, decide_false, e21]; exact h76
            · simp only [sF1, sA1, Nat.reduceAdd, Nat.reduceMul, Nat.reduceSub, Nat.reduceEqDiff, Nat.reduceLT, Nat.reduceLeDiff, Nat.reduceBEq, reduceIte, reduceCtorEq, if_true, if_false, ite_true, ite_false, decide_true, decide_false, e21]; exact h77
          · simp [sA1, sA2, sF1, sF2, sF3, sF4, sL1, sL2, sL3, sR1, sR2, sR3, sR4, sC1, sC2, updD, updLD]
          · simp [sA1, sA2, sF1, sF2, sF3, sF4, sL1, sL2, sL3, sR1, sR2, sR3, sR4, sC1, sC2, updD, updLD, nod]
          · simp [sA1, sA2, sF1, sF2, sF3, sF4, sL1, sL2, sL3, sR1, sR2, sR3, sR4, sC1, sC2, updD, updLD]
          · have : j ≠ d := by omega
            rcases hk with rfl | rfl | rfl <;> simp [sA1, sA2, sF1, sF2, sF3, sF4, sL1, sL2, sL3, sR1, sR2, sR3, sR4, sC1, sC2, updD, updLD, this, e21]
          · simp [sA1, sA2, sF1, sF2, sF3, sF4, sL1, sL2, sL3, sR1, sR2, sR3, sR4, sC1, sC2, updD, updLD, e21]
      · rw [if_neg w1, if_neg w1]
        have hw2 : 2 ≤ w := by omega
        have ew : nI w - 2 = nI (w - 2) := pk_sub (b := 2) hw2
        rw [ew]
        have i10 : ((10 : Int32) ≤ nI (tV B L q)) ↔ 10 ≤ tV B L q := nI_leI (a := 10) (by decide) (by omega)
        unfold f_HM_readsHeld
        simp only [rF, f9, i10]
        by_cases v10 : 10 ≤ tV B L q
        · rw [if_pos v10, if_pos (Or.inl v10), bd_s]
          unfold f_HM_readsPlace_b264
          rw [if_neg (by decide)]
          exact ⟨_, rfl, by simp, by simp, t4, fm2⟩
        · rw [if_neg v10]
          have ex : (10 : Int32) + nI (tV B L q) = nI (10 + tV B L q) := nI_add 10 _
          have e20 : ib (nI (10 + tV B L q)) 20 = true := ib_nI (by omega) (by decide)
          have n20 : (nI (10 + tV B L q)).toNatClampNeg = 10 + tV B L q := nI_clamp (by omega)
          have r13 : σ2.1 76 (10 + tV B L q) = if T 13 (tV B L q) = 1000 then -1 else nI (T 13 (tV B L q)) := by rw [e21, h76]; exact hR.2.2.1 _ (by omega)
          have r14 : σ2.1 77 (10 + tV B L q) = nI (T 14 (tV B L q)) := by rw [e21, h77]; exact hR.2.2.2 _ (by omega)
          obtain ⟨s1, s2, s3⟩ := hso (tV B L q) (by omega)
          have lt0 : (σ2.1 76 (10 + tV B L q) < 0) ↔ T 13 (tV B L q) = 1000 := by
            rw [r13]
            by_cases c : T 13 (tV B L q) = 1000
            · rw [if_pos c]; exact ⟨fun _ => c, fun _ => by decide⟩
            · rw [if_neg c]; exact ⟨fun h => absurd h (nI_pos (by omega)), fun h => absurd h c⟩
          simp only [ex, e20, ck_t, rI, n20, lt0]
          -- the common rest
          have rest : ∀ M : Prop, (T 13 (tV B L q) = 1000 ∨ T 13 (tV B L q) = w - 2) → mOut B L n d w σ1 (if tC B L (tE B L q) ≠ 4 then .inl (1, tS B L (tE B L q))
  else if tV B L (tE B L q) < 2 ∨ 3 < tV B L (tE B L q) ∨ (T 14 (tV B L q) ≠ 0 ∧ T 14 (tV B L q) ≠ tV B L (tE B L q)) then .inl (2, tS B L (tE B L q))
  else .inr (tE B L (tE B L q), n + 1, put (nod T n w a t x d 1000 (tV B L q) (tV B L (tE B L q))) n w (tV B L q) (tV B L (tE B L q)))) (bd (f_HM_readsHeld_b38 (nI (60 + n)) (nI (w - 2)) (nI (10 + tV B L q)) σ2) fun r8 σ7 => f_HM_readsPlace_b264 (nI (60 + n)) r8 σ7) := by
            intro _ hT
            have t3' : tm B L (stA σ2 69 (60 + n) (nI (tV B L q))) := t3.fr (fr.rf.A (ka := [69]) (kl := []) (kf := []) (by decide) _ _) (by decide) (by decide) (by decide) (by decide)
            obtain ⟨σ3, u1, u2, u3, u4, u5, u6, u7⟩ := m_token (σ := stA σ2 69 (60 + n) (nI (tV B L q))) t3' hE.2 t5
            have hE2 := tE_le B hE.2
            have e32 : ∀ k, σ3.1 k = (stA σ2 69 (60 + n) (nI (tV B L q))).1 k := fun k => u2.1 k (by simp)
            have fm3 : fm σ1 σ3 := (fm2.A (by decide) _ _ (by simp [lom])).tr (fm.tok u2 (by decide))
            have i2' : (nI (tR B L (tE B L q)) = 2) ↔ tC B L (tE B L q) = 4 := by
              have := tR_lt B L (tE B L q)
              rw [← (tR_C B L (tE B L q)).1]
              exact nI_eq (b := 2) (by omega) (by decide)
            unfold f_HM_readsHeld_b38
            simp only [eN, nc, ck_t, lE_d, rF, f9, u1, bv_s, u6, i2']
            by_cases d4 : tC B L (tE B L q) = 4
            · rw [if_pos d4, if_neg (show ¬ (tC B L (tE B L q) ≠ 4) by simp [d4])]
              have g9 := u7 d4
              have v100' := tV_lt B L _ d4
              have ein : ∀ s : St, f_HM_in (nI (tV B L (tE B L q))).toInt64 2 3 s = some (if tV B L (tE B L q) < 2 ∨ 3 < tV B L (tE B L q) then 0 else 1, s) := fun s => q_inV 2 3 (by omega) (by omega) (by omega) s
              simp only [g9, ein, bd_s]
              by_cases cv : tV B L (tE B L q) < 2 ∨ 3 < tV B L (tE B L q)
              · rw [if_pos (show tV B L (tE B L q) < 2 ∨ 3 < tV B L (tE B L q) ∨ (T 14 (tV B L q) ≠ 0 ∧ T 14 (tV B L q) ≠ tV B L (tE B L q)) by omega), if_pos cv]
                simp only [if_true, bd_s]
                unfold f_HM_readsPlace_b264
                rw [if_neg (by decide)]
                exact ⟨_, rfl, by simp, by simp, u4, fm3⟩
              · rw [if_neg cv]
                have r13' : σ3.1 76 (10 + tV B L q) = if T 13 (tV B L q) = 1000 then -1 else nI (T 13 (tV B L q)) := by rw [e32, sA1, if_neg (by decide)]; exact r13
                have r14' : σ3.1 77 (10 + tV B L q) = nI (T 14 (tV B L q)) := by rw [e32, sA1, if_neg (by decide)]; exact r14
                have lt0' : (σ3.1 76 (10 + tV B L q) < 0) ↔ T 13 (tV B L q) = 1000 := by rw [r13', ← r13]; exact lt0
                have i14 : (nI (T 14 (tV B L q)) = nI (tV B L (tE B L q))) ↔ T 14 (tV B L q) = tV B L (tE B L q) := nI_eq (by omega) (by omega)
                simp only [show ¬ ((1 : Int32) = 0) by decide, if_false, e20, ck_t, rI, n20, lt0', r14', i14]
                by_cases cc : T 14 (tV B L q) ≠ 0 ∧ T 14 (tV B L q) ≠ tV B L (tE B L q)
                · rw [if_pos (show tV B L (tE B L q) < 2 ∨ 3 < tV B L (tE B L q) ∨ (T 14 (tV B L q) ≠ 0 ∧ T 14 (tV B L q) ≠ tV B L (tE B L q)) by omega), if_neg (show ¬ T 13 (tV B L q) = 1000 by omega), if_neg (show ¬ T 14 (tV B L q) = tV B L (tE B L q) by omega), bd_s]
                  unfold f_HM_readsPlace_b264
                  rw [if_neg (by decide)]
                  exact ⟨_, rfl, by simp, by simp, u4, fm3⟩
                · rw [if_neg (show ¬ (tV B L (tE B L q) < 2 ∨ 3 < tV B L (tE B L q) ∨ (T 14 (tV B L q) ≠ 0 ∧ T 14 (tV B L q) ≠ tV B L (tE B L q))) by omega)]
                  have same : (if T 13 (tV B L q) = 1000 then f_HM_readsHeld_b103 (nI (60 + n)) (nI (w - 2)) (nI (10 + tV B L q)) σ3 else if T 14 (tV B L q) = tV B L (tE B L q) then f_HM_readsHeld_b103 (nI (60 + n)) (nI (w - 2)) (nI (10 + tV B L q)) σ3 else some (2, σ3)) = f_HM_readsHeld_b103 (nI (60 + n)) (nI (w - 2)) (nI (10 + tV B L q)) σ3 := by
                    by_cases z : T 13 (tV B L q) = 1000
                    · rw [if_pos z]
                    · rw [if_neg z, if_pos (by omega)]
                  rw [same]
                  unfold f_HM_readsHeld_b103
                  simp only [e20, n20, eN, nc, ck_t, lE_d, rF, sA2, g9, bd_s]
                  have p50 : σ3.2.2.1 50 = nI d := by rw [u2.2.2.1 50 (by decide)]; exact o50
                  rw [m_push (u := tV B L (tE B L q)) hn (hdw w0) (by exact p50) (by rw [sA1, if_pos rfl, updD, if_pos rfl])]
                  refine ⟨_, rfl, (((fm3.A (by decide) _ _ (by simp [lom])).A (by decide) _ _ (by simp [lom])).A (by decide) _ _ (by simp [lom])).push, u3.fr ((((((((fr.rf (ka := [70, 76, 77, 81, 82, 83]) (kl := []) (kf := [50])).A (by decide) _ _).A (by decide) _ _).A (by decide) _ _).A (by decide) _ _).A (by decide) _ _).A (by decide) _ _).F (by decide) _) (by decide) (by decide) (by decide) (by decide), hE2.2, u5, ?_, ?_, (by show n + 1 ≤ 60; omega), so_put hso hn (by omega) (by omega) (by omega), ?_, fun _ => ⟨?_, ?_, ?_⟩, fun k j hk hj => ?_, ?_⟩
                  · rw [sF3, if_neg (by decide), sA2, sA2, sA2, sA2, sA2, sA2, u2.2.2.1 51 (by decide)]; exact o51
                  · rw [sF3, if_pos rfl, if_neg w0]
                  · have base : mR 60 10 (n + 1) (nod T n w a t x d 1000 (tV B L q) (tV B L (tE B L q))) (stA σ3 70 (60 + n) (nI (tV B L (tE B L q)))) := by
                      refine mR_nod (σ := σ) hR (fun j p j1 j2 => ?_) (fun i => ?_) ?_ ?_
                      · have : j = 1 ∨ j = 2 ∨ j = 3 ∨ j = 4 ∨ j = 5 ∨ j = 6 ∨ j = 7 := by omega
                        rcases this with rfl | rfl | rfl | rfl | rfl | rfl | rfl
                        · simp only [mr, sA1, Nat.reduceAdd, Nat.reduceMul, Nat.reduceSub, Nat.reduceEqDiff, Nat.reduceLT, Nat.reduceLeDiff, Nat.reduceBEq, reduceIte, reduceCtorEq, if_true, if_false, ite_true, ite_false, decide_true, decide_false, e21, e32]; rw [show σ1.1 67 = σ1.1 (mr 1) from rfl, h1 1 p (by omega) (by omega)]; simp [nod, mr]
                        · simp only [mr, sA1, Nat.reduceAdd, Nat.reduceMul, Nat.reduceSub, Nat.reduceEqDiff, Nat.reduceLT, Nat.reduceLeDiff, Nat.reduceBEq, reduceIte, reduceCtorEq, if_true, if_false, ite_true, ite_false, decide_true, decide_false, e21, e32]; rw [show σ1.1 68 = σ1.1 (mr 2) from rfl, h1 2 p (by omega) (by omega)]; simp [nod, mr]
                        · simp only [mr, sA1, Nat.reduceAdd, Nat.reduceMul, Nat.reduceSub, Nat.reduceEqDiff, Nat.reduceLT, Nat.reduceLeDiff, Nat.reduceBEq, reduceIte, reduceCtorEq, if_true, if_false, ite_true, ite_false, decide_true, decide_false, e21, e32, updD]; rw [show σ1.1 69 = σ1.1 (mr 3) from rfl, h1 3 p (by omega) (by omega)]
                          by_cases cp : p = 60 + n
                          · rw [if_pos cp, if_pos cp]; simp [nod, nz_lt (show tV B L q < 1000 by omega)]
                          · rw [if_neg cp, if_neg cp, if_neg cp]; rfl
                        · simp only [mr, sA1, Nat.reduceAdd, Nat.reduceMul, Nat.reduceSub, Nat.reduceEqDiff, Nat.reduceLT, Nat.reduceLeDiff, Nat.reduceBEq, reduceIte, reduceCtorEq, if_true, if_false, ite_true, ite_false, decide_true, decide_false, e21, e32, updD]; rw [show σ1.1 70 = σ1.1 (mr 4) from rfl, h1 4 p (by omega) (by omega)]
                          by_cases cp : p = 60 + n
                          · rw [if_pos cp, if_pos cp]; simp [nod, nz_lt (show tV B L (tE B L q) < 1000 by omega)]
                          · rw [if_neg cp, if_neg cp, if_neg cp]; rfl
                        · simp only [mr, sA1, Nat.reduceAdd, Nat.reduceMul, Nat.reduceSub, Nat.reduceEqDiff, Nat.reduceLT, Nat.reduceLeDiff, Nat.reduceBEq, reduceIte, reduceCtorEq, if_true, if_false, ite_true, ite_false, decide_true, decide_false, e21, e32]; rw [show σ1.1 71 = σ1.1 (mr 5) from rfl, h1 5 p (by omega) (by omega)]; simp [nod, mr]
                        · simp only [mr, sA1, Nat.reduceAdd, Nat.reduceMul, Nat.reduceSub, Nat.reduceEqDiff, Nat.reduceLT, Nat.reduceLeDiff, Nat.reduceBEq, reduceIte, reduceCtorEq, if_true, if_false, ite_true, ite_false, decide_true, decide_false, e21, e32]; rw [show σ1.1 74 = σ1.1 (mr 6) from rfl, h1 6 p (by omega) (by omega)]; simp [nod, mr]
                        · simp only [mr, sA1, Nat.reduceAdd, Nat.reduceMul, Nat.reduceSub, Nat.reduceEqDiff, Nat.reduceLT, Nat.reduceLeDiff, Nat.reduceBEq, reduceIte, reduceCtorEq, if_true, if_false, ite_true, ite_false, decide_true, decide_false, e21, e32]; rw [show σ1.1 72 = σ1.1 (mr 7) from rfl, h1 7 p (by omega) (by omega)]; simp [nod, mr]
                      · simp only [sA1, Nat.reduceAdd, Nat.reduceMul, Nat.reduceSub, Nat.reduceEqDiff, Nat.reduceLT, Nat.reduceLeDiff, Nat.reduceBEq, reduceIte, reduceCtorEq, if_true, if_false, ite_true, ite_false, decide_true, decide_false, e21, e32]; exact h3 i
                      · simp only [sA1, Nat.reduceAdd, Nat.reduceMul, Nat.reduceSub, Nat.reduceEqDiff, Nat.reduceLT, Nat.reduceLeDiff, Nat.reduceBEq, reduceIte, reduceCtorEq, if_true, if_false, ite_true, ite_false, decide_true, decide_false, e21, e32]; exact h76
                      · simp only [sA1, Nat.reduceAdd, Nat.reduceMul, Nat.reduceSub, Nat.reduceEqDiff, Nat.reduceLT, Nat.reduceLeDiff, Nat.reduceBEq, reduceIte, reduceCtorEq, if_true, if_false, ite_true, ite_false, decide_true, decide_false, e21, e32]; exact h77
                    obtain ⟨q1, q2, q3, q4⟩ := base
                    refine ⟨fun j p j1 j2 hp => ?_, fun i hi hne => ?_, fun s hs => ?_, fun s hs => ?_⟩
                    · simp only at hp ⊢
                      rw [put_low (by omega), ← q1 j p j1 j2 hp]
                      have : j = 1 ∨ j = 2 ∨ j = 3 ∨ j = 4 ∨ j = 5 ∨ j = 6 ∨ j = 7 := by omega
                      rcases this with rfl | rfl | rfl | rfl | rfl | rfl | rfl <;> simp only [mr, sF1, sA1, Nat.reduceAdd, Nat.reduceMul, Nat.reduceSub, Nat.reduceEqDiff, Nat.reduceLT, Nat.reduceLeDiff, Nat.reduceBEq, reduceIte, reduceCtorEq, if_true, if_false, ite_true, ite_false, decide_true, decide_false]
                    · simp only at hne ⊢
                      rw [put_low (by omega)] at hne ⊢
                      rw [← q2 i hi hne]
                      simp only [sF1, sA1, Nat.reduceAdd, Nat.reduceMul, Nat.reduceSub, Nat.reduceEqDiff, Nat.reduceLT, Nat.reduceLeDiff, Nat.reduceBEq, reduceIte, reduceCtorEq, if_true, if_false, ite_true, ite_false, decide_true, decide_false]
                    · have z := q3 s hs
                      simp only [sF1, sA1, Nat.reduceAdd, Nat.reduceMul, Nat.reduceSub, Nat.reduceEqDiff, Nat.reduceLT, Nat.reduceLeDiff, Nat.reduceBEq, reduceIte, reduceCtorEq, if_true, if_false, ite_true, ite_false, decide_true, decide_false, updD, put] at z ⊢
                      by_cases cs : s = tV B L q
                      · subst cs
                        rw [if_pos rfl]
                        simp
                        omega
                      · rw [if_neg (by omega)]
                        simp [cs]
                        exact z
                    · have z := q4 s hs
                      simp only [sF1, sA1, Nat.reduceAdd, Nat.reduceMul, Nat.reduceSub, Nat.reduceEqDiff, Nat.reduceLT, Nat.reduceLeDiff, Nat.reduceBEq, reduceIte, reduceCtorEq, if_true, if_false, ite_true, ite_false, decide_true, decide_false, updD, put] at z ⊢
                      by_cases cs : s = tV B L q
                      · subst cs
                        rw [if_pos rfl]
                        simp
                      · rw [if_neg (by omega)]
                        simp [cs]
                        exact z
                  · simp [sA1, sA2, sF1, sF2, sF3, sF4, sL1, sL2, sL3, sR1, sR2, sR3, sR4, sC1, sC2, updD, updLD]
                  · simp [sA1, sA2, sF1, sF2, sF3, sF4, sL1, sL2, sL3, sR1, sR2, sR3, sR4, sC1, sC2, updD, updLD, nod, put]
                  · simp [sA1, sA2, sF1, sF2, sF3, sF4, sL1, sL2, sL3, sR1, sR2, sR3, sR4, sC1, sC2, updD, updLD]
                  · have : j ≠ d := by omega
                    rcases hk with rfl | rfl | rfl <;> simp [sA1, sA2, sF1, sF2, sF3, sF4, sL1, sL2, sL3, sR1, sR2, sR3, sR4, sC1, sC2, updD, updLD, this, e21, e32]
                  · simp [sA1, sA2, sF1, sF2, sF3, sF4, sL1, sL2, sL3, sR1, sR2, sR3, sR4, sC1, sC2, updD, updLD, e21, e32]
            · rw [if_neg d4, if_pos d4, bd_s]
              unfold f_HM_readsPlace_b264
              rw [if_neg (by decide)]
              exact ⟨_, rfl, by simp, by simp, u4, fm3⟩
          by_cases c13 : T 13 (tV B L q) = 1000
          · rw [if_pos c13, if_neg (show ¬ (10 ≤ tV B L q ∨ (T 13 (tV B L q) ≠ 1000 ∧ T 13 (tV B L q) ≠ w - 2)) by omega)]
            exact rest True (Or.inl c13)
          · rw [if_neg c13, r13, if_neg c13]
            have i13 : (nI (T 13 (tV B L q)) = nI (w - 2)) ↔ T 13 (tV B L q) = w - 2 := nI_eq (by omega) (by omega)
            simp only [i13]
            by_cases c2 : T 13 (tV B L q) = w - 2
            · rw [if_pos c2, if_neg (show ¬ (10 ≤ tV B L q ∨ (T 13 (tV B L q) ≠ 1000 ∧ T 13 (tV B L q) ≠ w - 2)) by omega)]
              exact rest True (Or.inr c2)
            · rw [if_neg c2, if_pos (show (10 ≤ tV B L q ∨ (T 13 (tV B L q) ≠ 1000 ∧ T 13 (tV B L q) ≠ w - 2)) by omega), bd_s]
              unfold f_HM_readsPlace_b264
              rw [if_neg (by decide)]
              exact ⟨_, rfl, by simp, by simp, t4, fm2⟩
  · rw [if_neg c4, if_pos c4]
    exact ⟨_, rfl, by simp, by simp, t4, fm2⟩
