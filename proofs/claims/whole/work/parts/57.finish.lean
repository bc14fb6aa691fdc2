/-- two places of one set come to unlike -/
def fgt (T : TT) (n w : Nat) : Prop := ∃ p, p < n ∧ T 1 p = 2 + w ∧ ps T w p ≠ ps T w (T 16 (T 3 p))
/-- what the class holds of a game -/
def cG (g n : Nat) (T : TT) (σ : St) : Prop := (∀ j p, 1 ≤ j → j ≤ 8 → p < n → σ.1 (g + j) p = nz (T j p)) ∧ (∀ p, p < n → σ.1 (g + 10) p = nI (szm T n 0 p)) ∧ (∀ i, T 9 i ≠ 0 → σ.1 (g + 9) i = nI (T 9 i)) ∧ (∀ j s, 13 ≤ j → j ≤ 16 → s < 10 → σ.1 (g + j) s = nz (T j s)) ∧ (∀ w p, w < 2 → p < n → σ.1 (g + 11) (60 * w + p) = nI (lv T w p)) ∧ (∀ w, w < 2 → (σ.1 (g + 17) w = 1 ∧ fgt T n w) ∨ (σ.1 (g + 17) w = 0 ∧ ¬ fgt T n w)) ∧ σ.2.2.1 (g + 10) = nI n
theorem cG.fr {g n : Nat} {T : TT} {ka kl kf : List Nat} {σ σ' : St} (h : cG g n T σ) (hf : fr ka kl kf σ σ') (h1 : ∀ j, 1 ≤ j → j ≤ 17 → g + j ∉ ka) (h2 : g + 10 ∉ kf) : cG g n T σ' := by
  obtain ⟨a1, a2, a3, a4, a5, a6, a7⟩ := h
  refine ⟨fun j p x y z => ?_, fun p z => ?_, fun i z => ?_, fun j s x y z => ?_, fun w p x y => ?_, fun w x => ?_, ?_⟩
  · rw [hf.1 _ (h1 j x (by omega))]; exact a1 j p x y z
  · rw [hf.1 _ (h1 10 (by omega) (by omega))]; exact a2 p z
  · rw [hf.1 _ (h1 9 (by omega) (by omega))]; exact a3 i z
  · rw [hf.1 _ (h1 j (by omega) (by omega))]; exact a4 j s x y z
  · rw [hf.1 _ (h1 11 (by omega) (by omega))]; exact a5 w p x y
  · rw [hf.1 _ (h1 17 (by omega) (by omega))]; exact a6 w x
  · rw [hf.2.2.1 _ h2]; exact a7
theorem b60 (w i : Nat) : nI (60 * w) + nI i = nI (60 * w + i) := nI_add _ _
theorem w60 (w : Nat) : nI w * 60 = nI (60 * w) := by
  rw [show (60 : Int32) = nI 60 from rfl, pk_mul, Nat.mul_comm]
theorem q_tellPast {g n w : Nat} {T : TT} {σ : St} (hg : isG g = true) (hW : wf n T) (hn : 0 < n) (hw : w < 2) (hc : σ.2.2.1 (g + 10) = nI n) (h1 : ∀ j p, 1 ≤ j → j ≤ 8 → p < n → σ.1 (g + j) p = nz (T j p)) : ∃ σ', f_Game_tellPast g (nI w) σ = some σ' ∧ fr [g + 11] [g + 12] [] σ σ' ∧ (∀ p, p < n → σ'.1 (g + 11) (60 * w + p) = nI (lv T w p) ∧ σ'.2.1 (g + 12) (60 * w + p) = lN (en (ps T w p))) ∧ (∀ j, j < 60 * w ∨ 60 * w + 60 ≤ j → σ'.1 (g + 11) j = σ.1 (g + 11) j ∧ σ'.2.1 (g + 12) j = σ.2.1 (g + 12) j) := by
  have n60 : n ≤ 60 := hW.2.1
  have e1 : ib (nI (60 * w)) 120 = true := ib_nI (by omega) (by decide)
  have e2 : (nI (60 * w)).toNatClampNeg = 60 * w := nI_clamp (by omega)
  unfold f_Game_tellPast f_Game_tellPast_l21
  rw [hg, ck_t, w60, ck_p e1, lE_d, ck_p e1, lE_d, e2]
  obtain ⟨σ', e, i1, i2, i3⟩ := lp_u0 (z := fun _ _ _ _ => none) (body := f_Game_tellPast_b21 g) (fun k i (s : St) => k (nI w) (nI (60 * w)) (nI i) s) (fun i s => fr [g + 11] [g + 12] [] σ s ∧ (∀ p, p < i → s.1 (g + 11) (60 * w + p) = nI (lv T w p) ∧ s.2.1 (g + 12) (60 * w + p) = lN (en (ps T w p))) ∧ (∀ j, j < 60 * w ∨ 60 * w + 60 ≤ j → s.1 (g + 11) j = σ.1 (g + 11) j ∧ s.2.1 (g + 12) j = σ.2.1 (g + 12) j) ∧ 0 < i) n (fun s => some s) (fun k i s hi hI => by
    by_cases i0 : 0 < i
    · obtain ⟨f1, f2, f3, _⟩ := hI
      obtain ⟨a1, a2, a3, _⟩ := hW.A hi i0
      have an : T 5 i < n := by omega
      have ka := (hW.K an)
      have u : ∀ j, j ≠ g + 11 → s.1 j = σ.1 j := fun j hj => f1.1 j (by simpa using hj)
      have h5 : rI s (g + 5) (nI i) = nI (T 5 i) := by
        rw [rI, nI_clamp (by omega), u _ (by omega), h1 5 i (by omega) (by omega) hi, nz_lt (by omega)]
      have cc : s.2.2.1 (g + 10) = nI n := by rw [f1.2.2.1 _ (by simp)]; exact hc
      have b1 : ib (nI i) 60 = true := ib_nI (by omega) (by decide)
      have b2 : ib (nI (60 * w + T 5 i)) 120 = true := ib_nI (by omega) (by decide)
      have b3 : ib (nI (60 * w + i)) 120 = true := ib_nI (by omega) (by decide)
      have b4 : ib (nI (T 5 i)) 60 = true := ib_nI (by omega) (by decide)
      have c2 : (nI (60 * w + T 5 i)).toNatClampNeg = 60 * w + T 5 i := nI_clamp (by omega)
      have c3 : (nI (60 * w + i)).toNatClampNeg = 60 * w + i := nI_clamp (by omega)
      have v11 : rI s (g + 11) (nI (60 * w + T 5 i)) = nI (lv T w (T 5 i)) := by rw [rI, c2]; exact (f2 _ a1).1
      have v12 : ∀ x, rL (stA s (g + 11) (60 * w + i) x) (g + 12) (nI (60 * w + T 5 i)) = lN (en (ps T w (T 5 i))) := fun x => by rw [rL, c2, sA2]; exact (f2 _ a1).2
      have t1 : T 1 (T 5 i) < 4 := by have := ka.2; omega
      have v1 : ∀ x y, rI (stL (stA s (g + 11) (60 * w + i) x) (g + 12) (60 * w + i) y) (g + 1) (nI (T 5 i)) = nI (T 1 (T 5 i)) := fun x y => by
        rw [rI, nI_clamp (by omega), sL1, sA1, if_neg (by omega), u _ (by omega), h1 1 _ (by omega) (by omega) an, nz_lt (by omega)]
      have two : (2 : Int32) + nI w = nI (2 + w) := nI_add 2 w
      have eT : (nI (T 1 (T 5 i)) = nI (2 + w)) ↔ T 1 (T 5 i) = 2 + w := nI_eq (by omega) (by omega)
      unfold f_Game_tellPast_b21 f_Game_tellPast_b138
      rw [if_neg (by rw [rF, cc]; exact nI_ge hi (by omega)), ck_p b1, h5, b60, ck_p b2, b60, ck_p b3, v11, c3, lE_d, ck_p b2, ck_p b3, v12, lE_d, ck_p b4, v1, two]
      have frA : fr [g + 11] [g + 12] [] σ (stL (stA s (g + 11) (60 * w + i) (nI (lv T w (T 5 i)))) (g + 12) (60 * w + i) (lN (en (ps T w (T 5 i))))) := (f1.A (by simp) _ _).L (by simp) _ _
      have lvE := lv_s a1 w
      have psE := ps_s a1 w
      by_cases c : T 1 (T 5 i) = 2 + w
      · rw [if_pos (eT.mpr c), ck_p b3, ck_p b3]
        have kk : T 3 (T 5 i) < 10 := by have := ka.2; omega
        have w11 : rI (stL (stA s (g + 11) (60 * w + i) (nI (lv T w (T 5 i)))) (g + 12) (60 * w + i) (lN (en (ps T w (T 5 i))))) (g + 11) (nI (60 * w + i)) = nI (lv T w (T 5 i)) := by
          rw [rI, c3, sL1, sA1, if_pos rfl, updD, if_pos rfl]
        rw [w11, nI_1, lE_d, ck_p b2, ck_p b4, ck_p b1, ck_p b3]
        have w12 : ∀ y, rL (stA (stL (stA s (g + 11) (60 * w + i) (nI (lv T w (T 5 i)))) (g + 12) (60 * w + i) (lN (en (ps T w (T 5 i))))) (g + 11) (60 * w + i) y) (g + 12) (nI (60 * w + T 5 i)) = lN (en (ps T w (T 5 i))) := fun y => by
          rw [rL, c2, sA2, sL2, if_pos rfl, updLD, if_neg (by omega), sA2]
          exact (f2 _ a1).2
        have w3 : ∀ y, rI (stA (stL (stA s (g + 11) (60 * w + i) (nI (lv T w (T 5 i)))) (g + 12) (60 * w + i) (lN (en (ps T w (T 5 i))))) (g + 11) (60 * w + i) y) (g + 3) (nI (T 5 i)) = nI (T 3 (T 5 i)) := fun y => by
          rw [rI, nI_clamp (by omega), sA1, if_neg (by omega), sL1, sA1, if_neg (by omega), u _ (by omega), h1 3 _ (by omega) (by omega) an, nz_lt (by omega)]
        have t4 := wK4 ka
        have w7 : ∀ y, rI (stA (stL (stA s (g + 11) (60 * w + i) (nI (lv T w (T 5 i)))) (g + 12) (60 * w + i) (lN (en (ps T w (T 5 i))))) (g + 11) (60 * w + i) y) (g + 7) (nI i) = nI (T 7 i) := fun y => by
          rw [rI, nI_clamp (by omega), sA1, if_neg (by omega), sL1, sA1, if_neg (by omega), u _ (by omega), h1 7 _ (by omega) (by omega) hi, nz_lt (by omega)]
        have arith : ((lN (en (ps T w (T 5 i))) * 31 + (nI (T 3 (T 5 i)) * 3).toInt64) + (nI (T 7 i)).toInt64) + 1 = lN (en (ps T w i)) := by
          rw [psE, if_pos c, show en ((3 * T 3 (T 5 i) + T 7 i + 1) :: ps T w (T 5 i)) = en (ps T w (T 5 i)) * 31 + (3 * T 3 (T 5 i) + T 7 i + 1) from rfl, show (3 : Int32) = nI 3 from rfl, pk_mul, nI_l (by omega), nI_l (by omega), show (31 : Int64) = lN 31 from rfl, lN_mul, lN_add, lN_add, lN_1]
          congr 1
          omega
        rw [w12, w3, w7, arith, lE_d, nI_1]
        rw [if_pos c] at lvE
        refine ⟨_, rfl, (frA.A (by simp) _ _).L (by simp) _ _, fun p hp => ?_, fun j hj => ?_, by omega⟩
        · rw [sL1, sL2, if_pos rfl, updLD, sA1, if_pos rfl, updD, sL1, sA1, if_pos rfl, updD, sA2, sL2, if_pos rfl, updLD, sA2]
          by_cases x : p = i
          · rw [x, if_pos rfl, if_pos rfl, lvE]
            exact ⟨rfl, rfl⟩
          · rw [if_neg (by omega), if_neg (by omega), if_neg (by omega), if_neg (by omega)]
            exact f2 p (by omega)
        · rw [sL1, sL2, if_pos rfl, updLD, sA1, if_pos rfl, updD, sL1, sA1, if_pos rfl, updD, sA2, sL2, if_pos rfl, updLD, sA2, if_neg (by omega), if_neg (by omega), if_neg (by omega), if_neg (by omega)]
          exact f3 j hj
      · rw [if_neg (fun z => c (eT.mp z)), nI_1]
        rw [if_neg c] at lvE psE
        refine ⟨_, rfl, frA, fun p hp => ?_, fun j hj => ?_, by omega⟩
        · rw [sL1, sL2, if_pos rfl, updLD, sA1, if_pos rfl, updD, sA2]
          by_cases x : p = i
          · rw [x, if_pos rfl, if_pos rfl, lvE, psE]
            exact ⟨rfl, rfl⟩
          · rw [if_neg (by omega), if_neg (by omega)]
            exact f2 p (by omega)
        · rw [sL1, sL2, if_pos rfl, updLD, sA1, if_pos rfl, updD, sA2, if_neg (by omega), if_neg (by omega)]
          exact f3 j hj
    · exfalso
      exact i0 hI.2.2.2) (fun k s hI => by
    unfold f_Game_tellPast_b21
    rw [if_pos (by rw [rF, hI.1.2.2.1 _ (by simp), hc]; exact nI_le (Nat.le_refl _) (by omega))]) (i := 1) (s := stL (stA σ (g + 11) (60 * w) 0) (g + 12) (60 * w) 0) (by omega) (by omega) ⟨(fr.rf.A (by simp) _ _).L (by simp) _ _, fun p hp => by
      have : p = 0 := by omega
      subst this
      rw [sL1, sL2, if_pos rfl, updLD, sA1, if_pos rfl, updD, if_pos (by omega), if_pos (by omega), lv_0, ps_0]
      exact ⟨rfl, rfl⟩, fun j hj => by
      rw [sL1, sL2, if_pos rfl, updLD, sA1, if_pos rfl, updD, sA2, if_neg (by omega), if_neg (by omega)]
      exact ⟨rfl, rfl⟩, by omega⟩
  exact ⟨σ', e, i1, i2, i3.1⟩
