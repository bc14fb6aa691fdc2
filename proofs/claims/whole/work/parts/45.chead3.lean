/-- what follows the head of place n in the class -/
def ctl (g : Nat) (rp : Nat → Int32 → Int32 → Int32 → St → Option (Int32 × St)) (n : Nat) (s : SS) (σ : St) : Option (Int32 × St) := if s.2.2 1 n = 0 then some (1, σ) else if s.2.2 1 n = 1 then bd (f_Reader_readDeal_l59 g rp (nI n) (nI (s.2.2 4 n)) 12 0 σ) (fun r σ => ck (isB r) <| some (r, σ)) else bd (f_Reader_readHeld_l123 g rp (nI n) (nI (s.2.2 4 n)) 0 σ) (fun r σ => ck (isB r) <| some (r, σ))
def cOut (B : Nat → Nat) (L g : Nat) (rp : Nat → Int32 → Int32 → Int32 → St → Option (Int32 × St)) (n : Nat) (σ : St) (r : RR) (m : Option (Int32 × St)) : Prop := match r with
  | .inl e => ∃ σ', m = some (0, σ') ∧ σ'.2.2.1 7 = nI e.1 ∧ σ'.2.2.1 8 = nI e.2 ∧ fr (kaC g) [] (kfC g) σ σ'
  | .inr s => ∃ σ', m = ctl g rp n s σ' ∧ cS B L g s σ' ∧ fr (kaC g) [] (kfC g) σ σ'
theorem c_fail {B : Nat → Nat} {L q g k : Nat} {σ σ0 : St} (h : cK B L q σ) (hf : fr (kaC g) [] (kfC g) σ0 σ) : ∃ σ', (bd (f_Reader_fail (nI k) σ) fun r σ => ck (isB r) <| some (r, σ)) = some (0, σ') ∧ σ'.2.2.1 7 = nI k ∧ σ'.2.2.1 8 = nI (tS B L q) ∧ fr (kaC g) [] (kfC g) σ0 σ' := by
  refine ⟨stF (stF σ 7 (nI k)) 8 (rF σ 4), rfl, rfl, ?_, ?_⟩
  · show σ.2.2.1 4 = _
    exact h.2.1
  · exact (hf.F (by simp [kfC]) _).F (by simp [kfC]) _
theorem q_maySetBeOf {g v y m : Nat} {σ : St} (hg : isG g = true) (hv : v < 10) (hm : m ≤ 1000) (hy : y < 1000) (h : σ.1 (g + 13) v = nz m) : f_Game_maySetBeOf g (nI v) (nI y) σ = some (if m = 1000 ∨ m = y then 1 else 0, σ) := by
  unfold f_Game_maySetBeOf f_Game_maySetBeOf_b21
  simp only [hg, ck_t, ib_nI hv (by decide : 10 < 2 ^ 31), rI, nI_clamp (show v < 2 ^ 31 by omega), h, nz_eq0 hm, nz_eqI hm hy]
  by_cases c1 : m = 1000
  · simp [c1]
  · by_cases c2 : m = y <;> simp [c1, c2]
theorem q_maySetHave {g v y m : Nat} {σ : St} (hg : isG g = true) (hv : v < 10) (hm : m < 1000) (hy : y < 1000) (h : σ.1 (g + 14) v = nz m) : f_Game_maySetHave g (nI v) (nI y) σ = some (if m = 0 ∨ m = y then 1 else 0, σ) := by
  unfold f_Game_maySetHave f_Game_maySetHave_b19
  rw [nz_lt hm] at h
  have i0 : (nI m = 0) ↔ m = 0 := nI_eq (b := 0) (by omega) (by decide)
  simp only [hg, ck_t, ib_nI hv (by decide : 10 < 2 ^ 31), rI, nI_clamp (show v < 2 ^ 31 by omega), h, i0, nI_eq (show m < 2 ^ 31 by omega) (show y < 2 ^ 31 by omega)]
  by_cases c1 : m = 0
  · simp [c1]
  · by_cases c2 : m = y <;> simp [c1, c2]
theorem c_b84 {B : Nat → Nat} {L g q n a t x d : Nat} {T : TT} {σ : St} (hg : g = 10 ∨ g = 28) (rp : Nat → Int32 → Int32 → Int32 → St → Option (Int32 × St)) (h : cS B L g (q, n, T) σ) (hw : tC B L q < 4) (hn : n < 60) (hd8 : ¬ (8 ≤ d ∧ tC B L q ≠ 0)) (ha : a = 1000 ∨ a < n) (ht : t < 4) (hx : x < 100) (hd' : d ≤ 8) : cOut B L g rp n σ (hd B L a t x d (q, n, T)) (f_Reader_readPlace_b84 g rp (nz a) (nI t) (nI x) (nI (tC B L q)) (nI d) σ) := by
  obtain ⟨h0, h1, h2, h3, h4, h5, h6⟩ := h
  simp only at h1 h2 h3 h4 h5 h6
  have g50 : 50 ∉ kaC g ∧ 66 ∉ kaC g ∧ 6 ∉ [g + 10] ∧ 2 ∉ [g + 10] ∧ 41 ∉ [g + 10] ∧ isG g = true ∧ g + 10 ∉ [3, 4, 5, 6] ∧ (∀ k ∈ kaC g, k ∈ kaC g) ∧ (∀ k ∈ [g + 10], k ∈ kfC g) ∧ (∀ k ∈ [3, 4, 5, 6], k ∈ kfC g) := by rcases hg with rfl | rfl <;> decide
  obtain ⟨g1, g2, g3, g4, g5, g6, g7, g8, g9, g10⟩ := g50
  have hE := tE_le B h1
  obtain ⟨σ1, a1, a2, a3, a4, a5, a6, a7⟩ := @c_add g n (tC B L q) a t x d T σ hg hn h3 (by omega) (by omega) ht (by omega) (by omega)
  have t1 : tp B L σ1 := h0.fr a2 g1 g2 g4 g5
  have f6 : σ1.2.2.1 6 = nI (tE B L q) := by rw [a2.2.2.1 6 g3]; exact h2.2.2.1
  obtain ⟨σ2, b1, b2, b3, b4⟩ := c_step t1 hE.2 f6
  have e21 : ∀ k, σ2.1 k = σ1.1 k := fun k => b2.1 k (by simp)
  have c2 : σ2.2.2.1 (g + 10) = nI (n + 1) := by rw [b2.2.2.1 _ g7]; exact a3
  have fr2 : fr (kaC g) [] (kfC g) σ σ2 := (a2.mo g8 (by simp) g9).tr (b2.mo (by simp) (by simp) g10)
  have q1 := tE_le B hE.2
  have eN : ib (nI n) 60 = true := ib_nI hn (by decide)
  have nc : (nI n).toNatClampNeg = n := nI_clamp (by omega)
  have k1 := b4
  obtain ⟨b41, b42, b43, b44⟩ := b4
  have t4 := tC_lt B L (tE B L q)
  have i4 : (nI (tC B L (tE B L q)) = 4) ↔ tC B L (tE B L q) = 4 := nI_eq (b := 4) (by omega) (by decide)
  have hdE : hd B L a t x d (q, n, T) = if tC B L (tE B L q) ≠ 4 then .inl (1, tS B L (tE B L q))
  else if tC B L q = 0 then .inr (tE B L (tE B L q), n + 1, nod T n 0 a t x d (tV B L (tE B L q)) 1000 0)
  else if tC B L q = 1 then (if tV B L (tE B L q) < 2 ∨ 4 < tV B L (tE B L q) then .inl (2, tS B L (tE B L q)) else .inr (tE B L (tE B L q), n + 1, nod T n 1 a t x d 1000 1000 (tV B L (tE B L q))))
  else if 10 ≤ tV B L (tE B L q) ∨ (T 13 (tV B L (tE B L q)) ≠ 1000 ∧ T 13 (tV B L (tE B L q)) ≠ tC B L q - 2) then .inl (2, tS B L (tE B L q))
  else if tC B L (tE B L (tE B L q)) ≠ 4 then .inl (1, tS B L (tE B L (tE B L q)))
  else if tV B L (tE B L (tE B L q)) < 2 ∨ 3 < tV B L (tE B L (tE B L q)) ∨ (T 14 (tV B L (tE B L q)) ≠ 0 ∧ T 14 (tV B L (tE B L q)) ≠ tV B L (tE B L (tE B L q))) then .inl (2, tS B L (tE B L (tE B L q)))
  else .inr (tE B L (tE B L (tE B L q)), n + 1, put (nod T n (tC B L q) a t x d 1000 (tV B L (tE B L q)) (tV B L (tE B L (tE B L q)))) n (tC B L q) (tV B L (tE B L q)) (tV B L (tE B L (tE B L q)))) := by
    unfold hd
    simp only
    rw [if_neg (by omega), if_neg (by omega)]
  rw [hdE]
  unfold f_Reader_readPlace_b84
  rw [a1, bd_s, b1, bv_s]
  have iw0 : (nI (tC B L q) = 0) ↔ tC B L q = 0 := nI_eq (b := 0) (by omega) (by decide)
  have iw1 : (nI (tC B L q) = 1) ↔ tC B L q = 1 := nI_eq (b := 1) (by omega) (by decide)
  simp only [iw0, iw1]
  by_cases d4 : tC B L (tE B L q) = 4
  · rw [if_neg (by omega : ¬ tC B L (tE B L q) ≠ 4)]
    have v100 := tV_lt B L _ d4
    have f5 := b44 d4
    by_cases w0 : tC B L q = 0
    · rw [if_pos w0, if_pos w0]
      obtain ⟨σ4, x1, x2, x3, x4⟩ := @c_step B L (tE B L (tE B L q)) (stA σ2 (g + 2) n (nI (tV B L (tE B L q)))) (b3.fr (fr.rf.A (ka := kaC g) (kl := []) (kf := []) (by simp [kaC]) _ _) g1 g2 (by decide) (by decide)) q1.2 b43
      refine ⟨σ4, ?_, ⟨x3, q1.2, x4, ?_, by simp only; omega, ?_, ?_⟩, ?_⟩
      · unfold f_Reader_readPay
        simp only [g6, ck_t, rF, b41, i4, if_pos d4, eN, f5, lE_d, nc, x1, bv_s, bd_s]
        rw [ctl, if_pos (by simp [nod])]
        rfl
      · rw [x2.2.2.1 _ g7]; exact c2
      · intro s hs
        have := h5 s hs
        simp only [nod_big (show 10 ≤ 13 by decide), nod_big (show 10 ≤ 14 by decide), nod_big (show 10 ≤ 15 by decide), nod_big (show 10 ≤ 16 by decide)]
        omega
      · have e4 : ∀ k, σ4.1 k = (stA σ2 (g + 2) n (nI (tV B L (tE B L q)))).1 k := fun k => x2.1 k (by simp)
        refine cR_nod h6 ?_ ?_ ?_ ?_
        · intro j p j1 j8
          rw [e4, sA1, e21]
          by_cases cp : p = n
          · rw [if_pos cp]
            by_cases cj : j = 2
            · subst cj
              rw [if_pos rfl, updD, if_pos cp]
              simp [nod, nz_lt (show tV B L (tE B L q) < 1000 by omega)]
            · rw [if_neg (by omega)]
              rw [a4 j p j1 j8, if_pos cp]
              have : j = 1 ∨ j = 3 ∨ j = 4 ∨ j = 5 ∨ j = 6 ∨ j = 7 ∨ j = 8 := by omega
              rcases this with rfl | rfl | rfl | rfl | rfl | rfl | rfl <;> simp [nod, w0]
          · rw [if_neg cp]
            by_cases cj : g + j = g + 2
            · rw [if_pos cj, updD, if_neg cp, a4 j p j1 j8, if_neg cp]
            · rw [if_neg cj, a4 j p j1 j8, if_neg cp]
        · intro p; rw [e4, sA1, if_neg (by omega), e21]; exact a5 p
        · intro i; rw [e4, sA1, if_neg (by omega), e21]; exact a6 i
        · intro j s j1 j2; rw [e4, sA1, if_neg (by omega), e21]; exact a7 j s j1 j2
      · exact (fr2.A (by simp [kaC]) _ _).tr (x2.mo (by simp) (by simp) g10)
    · rw [if_neg w0, if_neg w0]
      by_cases w1 : tC B L q = 1
      · rw [if_pos w1, if_pos w1]
        have i2 : (nI (tV B L (tE B L q)) < 2) ↔ tV B L (tE B L q) < 2 := nI_ltI (b := 2) (by omega) (by decide)
        have i44 : (nI (tV B L (tE B L q)) ≤ 4) ↔ tV B L (tE B L q) ≤ 4 := nI_leI (b := 4) (by omega) (by decide)
        by_cases dv : tV B L (tE B L q) < 2 ∨ 4 < tV B L (tE B L q)
        · rw [if_pos dv]
          obtain ⟨σ', y1, y2, y3, y4⟩ := @c_fail B L (tE B L q) g 2 σ2 σ k1 fr2
          refine ⟨σ', ?_, y2, y3, y4⟩
          have y5 : (bd (f_Reader_fail 2 σ2) fun r σ => ck (isB r) <| some (r, σ)) = some (0, σ') := y1
          unfold f_Reader_readDeal f_Reader_readDeal_b33
          simp only [g6, ck_t, rF, b41, i4, if_pos d4, f5, i2, i44, y5]
          by_cases dv2 : tV B L (tE B L q) < 2
          · rw [if_pos dv2]; rfl
          · rw [if_neg dv2, if_neg (by omega)]; rfl
        · rw [if_neg dv]
          obtain ⟨σ4, x1, x2, x3, x4⟩ := @c_step B L (tE B L (tE B L q)) (stA σ2 (g + 4) n (nI (tV B L (tE B L q)))) (b3.fr (fr.rf.A (ka := kaC g) (kl := []) (kf := []) (by simp [kaC]) _ _) g1 g2 (by decide) (by decide)) q1.2 b43
          refine ⟨σ4, ?_, ⟨x3, q1.2, x4, ?_, by simp only; omega, ?_, ?_⟩, ?_⟩
          · unfold f_Reader_readDeal
            simp only [g6, ck_t, rF, b41, i4, if_pos d4, f5, i2, i44, if_neg (show ¬ tV B L (tE B L q) < 2 by omega), if_pos (show tV B L (tE B L q) ≤ 4 by omega), eN, lE_d, nc, x1, bv_s]
            rw [ctl, if_neg (by simp [nod]), if_pos (by simp [nod])]
            simp [nod]
          · rw [x2.2.2.1 _ g7]; exact c2
          · intro s hs
            have := h5 s hs
            simp only [nod_big (show 10 ≤ 13 by decide), nod_big (show 10 ≤ 14 by decide), nod_big (show 10 ≤ 15 by decide), nod_big (show 10 ≤ 16 by decide)]
            omega
          · have e4 : ∀ k, σ4.1 k = (stA σ2 (g + 4) n (nI (tV B L (tE B L q)))).1 k := fun k => x2.1 k (by simp)
            refine cR_nod h6 ?_ ?_ ?_ ?_
            · intro j p j1 j8
              rw [e4, sA1, e21]
              by_cases cp : p = n
              · rw [if_pos cp]
                by_cases cj : j = 4
                · subst cj
                  rw [if_pos rfl, updD, if_pos cp]
                  simp [nod, nz_lt (show tV B L (tE B L q) < 1000 by omega)]
                · rw [if_neg (by omega)]
                  rw [a4 j p j1 j8, if_pos cp]
                  have : j = 1 ∨ j = 2 ∨ j = 3 ∨ j = 5 ∨ j = 6 ∨ j = 7 ∨ j = 8 := by omega
                  rcases this with rfl | rfl | rfl | rfl | rfl | rfl | rfl <;> simp [nod, w1]
              · rw [if_neg cp]
                by_cases cj : g + j = g + 4
                · rw [if_pos cj, updD, if_neg cp, a4 j p j1 j8, if_neg cp]
                · rw [if_neg cj, a4 j p j1 j8, if_neg cp]
            · intro p; rw [e4, sA1, if_neg (by omega), e21]; exact a5 p
            · intro i; rw [e4, sA1, if_neg (by omega), e21]; exact a6 i
            · intro j s j1 j2; rw [e4, sA1, if_neg (by omega), e21]; exact a7 j s j1 j2
          · exact (fr2.A (by simp [kaC]) _ _).tr (x2.mo (by simp) (by simp) g10)
      · rw [if_neg w1, if_neg w1]
        have i10 : ((10 : Int32) ≤ nI (tV B L (tE B L q))) ↔ 10 ≤ tV B L (tE B L q) := nI_leI (a := 10) (by decide) (by omega)
        have ew : nI (tC B L q) - 2 = nI (tC B L q - 2) := pk_sub (b := 2) (by omega)
        have r1 : σ2.1 (g + 1) n = nI (tC B L q) := by rw [e21, a4 1 n (by omega) (by omega), if_pos rfl]; simp [nod, nz_lt (show tC B L q < 1000 by omega)]
        have hSet : ∀ j s, 13 ≤ j → j ≤ 16 → s < 10 → σ2.1 (g + j) s = nz (T j s) := by
          intro j s j1 j2 j3
          rw [e21, a7 j s j1 (by omega)]
          exact h6.2.2.2.1 j s j1 j2 j3
        by_cases v10 : 10 ≤ tV B L (tE B L q)
        · rw [if_pos (Or.inl v10)]
          obtain ⟨σ', y1, y2, y3, y4⟩ := @c_fail B L (tE B L q) g 2 σ2 σ k1 fr2
          refine ⟨σ', ?_, y2, y3, y4⟩
          unfold f_Reader_readHeld f_Reader_readHeld_b45
          simp only [g6, ck_t, rF, b41, i4, if_pos d4, f5, i10, if_pos v10, show (2 : Int32) = nI 2 from rfl, y1]
          rfl
        · have m13 := h5 (tV B L (tE B L q)) (by omega)
          have eM := @q_maySetBeOf g (tV B L (tE B L q)) (tC B L q - 2) (T 13 (tV B L (tE B L q))) σ2 g6 (by omega) (by omega) (by omega) (hSet 13 _ (by omega) (by omega) (by omega))
          by_cases c13 : T 13 (tV B L (tE B L q)) = 1000 ∨ T 13 (tV B L (tE B L q)) = tC B L q - 2
          · rw [if_pos c13] at eM
            rw [if_neg (show ¬ (10 ≤ tV B L (tE B L q) ∨ (T 13 (tV B L (tE B L q)) ≠ 1000 ∧ T 13 (tV B L (tE B L q)) ≠ tC B L q - 2)) by omega)]
            obtain ⟨σ3, z1, z2, z3, z4⟩ := c_step b3 q1.2 b43
            have e32 : ∀ k, σ3.1 k = σ2.1 k := fun k => z2.1 k (by simp)
            have fr3 : fr (kaC g) [] (kfC g) σ σ3 := fr2.tr (z2.mo (by simp) (by simp) g10)
            have k3 := z4
            obtain ⟨z41, z42, z43, z44⟩ := z4
            have t4' := tC_lt B L (tE B L (tE B L q))
            have i4' : (nI (tC B L (tE B L (tE B L q))) = 4) ↔ tC B L (tE B L (tE B L q)) = 4 := nI_eq (b := 4) (by omega) (by decide)
            have one : ¬ ((1 : Int32) = 0) := by decide
            have head : f_Reader_readHeld rp g (nI n) σ2 = (if nI (tC B L (tE B L (tE B L q))) = 4 then (if (rF σ3 5) < 2 then (f_Reader_readHeld_b100 g rp σ3) else (if (3 : Int32) < (rF σ3 5) then (f_Reader_readHeld_b100 g rp σ3) else (bd (f_Game_maySetHave g (nI (tV B L (tE B L q))) (rF σ3 5) σ3) fun r15 σ14 => if r15 = 0 then (f_Reader_readHeld_b100 g rp σ14) else (bv (f_Game_putIntoSet g (nI n) (nI (tV B L (tE B L q))) (rF σ3 5) σ14) fun σ18 => bv (f_Tape_step σ18) fun σ20 => f_Reader_readHeld_l123 g rp (nI n) (rF σ3 5) 0 σ20)))) else (bd (f_Reader_fail 1 σ3) fun r23 σ22 => ck (isB r23) <| some (r23, σ22))) := by
              unfold f_Reader_readHeld
              simp only [g6, ck_t, rF, rI, b41, i4, if_pos d4, f5, i10, if_neg v10, eN, nc, r1, ew, eM, bd_s, if_neg one, z1, bv_s, z41]
            rw [head]
            by_cases d5 : tC B L (tE B L (tE B L q)) = 4
            · rw [if_pos (i4'.mpr d5), if_neg (by omega : ¬ tC B L (tE B L (tE B L q)) ≠ 4)]
              have u100 := tV_lt B L _ d5
              have f53 := z44 d5
              have q2 := tE_le B q1.2
              have i2 : (nI (tV B L (tE B L (tE B L q))) < 2) ↔ tV B L (tE B L (tE B L q)) < 2 := nI_ltI (b := 2) (by omega) (by decide)
              have i3 : ((3 : Int32) < nI (tV B L (tE B L (tE B L q)))) ↔ 3 < tV B L (tE B L (tE B L q)) := nI_ltI (a := 3) (by decide) (by omega)
              have eH := @q_maySetHave g (tV B L (tE B L q)) (tV B L (tE B L (tE B L q))) (T 14 (tV B L (tE B L q))) σ3 g6 (by omega) (by omega) (by omega) (by rw [e32]; exact hSet 14 _ (by omega) (by omega) (by omega))
              simp only [rF, f53, i2, i3]
              by_cases du : tV B L (tE B L (tE B L q)) < 2 ∨ 3 < tV B L (tE B L (tE B L q)) ∨ (T 14 (tV B L (tE B L q)) ≠ 0 ∧ T 14 (tV B L (tE B L q)) ≠ tV B L (tE B L (tE B L q)))
              · rw [if_pos du]
                obtain ⟨σ', y1, y2, y3, y4⟩ := @c_fail B L (tE B L (tE B L q)) g 2 σ3 σ k3 fr3
                refine ⟨σ', ?_, y2, y3, y4⟩
                unfold f_Reader_readHeld_b100
                by_cases u1 : tV B L (tE B L (tE B L q)) < 2
                · rw [if_pos u1, show (2 : Int32) = nI 2 from rfl, y1]; rfl
                · by_cases u2 : 3 < tV B L (tE B L (tE B L q))
                  · rw [if_neg u1, if_pos u2, show (2 : Int32) = nI 2 from rfl, y1]; rfl
                  · rw [if_neg u1, if_neg u2, eH, if_neg (by omega), bd_s, if_pos rfl, show (2 : Int32) = nI 2 from rfl, y1]; rfl
              · rw [if_neg du]
                have r13 : σ3.1 (g + 1) n = nI (tC B L q) := by rw [e32]; exact r1
                obtain ⟨σ4, p1, p2, p3, p4, p5⟩ := @c_put g n (tC B L q) (tV B L (tE B L q)) (tV B L (tE B L (tE B L q))) (nod T n (tC B L q) a t x d 1000 (tV B L (tE B L q)) (tV B L (tE B L (tE B L q)))) σ3 hg hn (by omega) (by omega) (by omega) (by omega) r13 (by intro j s j1 j2 j3; rw [e32, nod_big (by omega)]; exact hSet j s j1 j2 j3) (by rw [nod_big (by omega)]; omega)
                have t4'' : tp B L σ4 := z3.fr p2 g1 g2 (by decide) (by decide)
                obtain ⟨σ5, x1, x2, x3, x4⟩ := @c_step B L (tE B L (tE B L (tE B L q))) σ4 t4'' q2.2 (by rw [p2.2.2.1 6 (by simp)]; exact z43)
                have e54 : ∀ k, σ5.1 k = σ4.1 k := fun k => x2.1 k (by simp)
                refine ⟨σ5, ?_, ⟨x3, q2.2, x4, ?_, by simp only; omega, ?_, ?_⟩, ?_⟩
                · rw [if_neg (by omega), if_neg (by omega), eH, if_pos (by omega), bd_s, if_neg one, p1, bv_s, x1, bv_s]
                  rw [ctl, if_neg (by simp [put, nod]; exact w0), if_neg (by simp [put, nod]; exact w1)]
                  simp [put, nod]
                · rw [x2.2.2.1 _ g7, p2.2.2.1 _ (by simp), z2.2.2.1 _ g7]; exact c2
                · intro s hs
                  have := h5 s hs
                  by_cases cs : s = tV B L (tE B L q)
                  · subst cs
                    simp only [put, nod_big (show 10 ≤ 15 by decide), nod_big (show 10 ≤ 16 by decide), and_self, if_true, Nat.reduceEqDiff, and_false, if_false]
                    refine ⟨Or.inr ⟨by omega, by omega, by omega, by omega⟩, by omega, ?_⟩
                    split <;> omega
                  · simp only [put_old cs, nod_big (show 10 ≤ 13 by decide), nod_big (show 10 ≤ 14 by decide), nod_big (show 10 ≤ 15 by decide), nod_big (show 10 ≤ 16 by decide)]
                    omega
                · have base : cR g (n + 1) (nod T n (tC B L q) a t x d 1000 (tV B L (tE B L q)) (tV B L (tE B L (tE B L q)))) (stA (stA σ3 (g + 3) n (nI (tV B L (tE B L q)))) (g + 4) n (nI (tV B L (tE B L (tE B L q))))) := by
                    refine cR_nod h6 ?_ ?_ ?_ ?_
                    · intro j p j1 j8
                      rw [sA1, sA1, e32, e21]
                      by_cases cp : p = n
                      · rw [if_pos cp]
                        by_cases cj : j = 4
                        · subst cj
                          rw [if_pos rfl, updD, if_pos cp]
                          simp [nod, nz_lt (show tV B L (tE B L (tE B L q)) < 1000 by omega)]
                        · rw [if_neg (by omega)]
                          by_cases cj3 : j = 3
                          · subst cj3
                            rw [if_pos rfl, updD, if_pos cp]
                            simp [nod, nz_lt (show tV B L (tE B L q) < 1000 by omega)]
                          · rw [if_neg (by omega)]
                            rw [a4 j p j1 j8, if_pos cp]
                            have : j = 1 ∨ j = 2 ∨ j = 5 ∨ j = 6 ∨ j = 7 ∨ j = 8 := by omega
                            rcases this with rfl | rfl | rfl | rfl | rfl | rfl <;> simp [nod]
                      · rw [if_neg cp, ← (show σ1.1 (g + j) p = σ.1 (g + j) p by rw [a4 j p j1 j8, if_neg cp])]
                        by_cases cj : g + j = g + 4
                        · rw [if_pos cj, updD, if_neg cp, if_neg (by omega)]
                        · rw [if_neg cj]
                          by_cases cj3 : g + j = g + 3
                          · rw [if_pos cj3, updD, if_neg cp]
                          · rw [if_neg cj3]
                    · intro p; rw [sA1, if_neg (by omega), sA1, if_neg (by omega), e32, e21]; exact a5 p
                    · intro i; rw [sA1, if_neg (by omega), sA1, if_neg (by omega), e32, e21]; exact a6 i
                    · intro j s j1 j2; rw [sA1, if_neg (by omega), sA1, if_neg (by omega), e32, e21]; exact a7 j s j1 j2
                  obtain ⟨s1, s2, s3, s4, s5, s6⟩ := base
                  have low : ∀ j p, 1 ≤ j → j ≤ 10 → σ5.1 (g + j) p = (stA (stA σ3 (g + 3) n (nI (tV B L (tE B L q)))) (g + 4) n (nI (tV B L (tE B L (tE B L q))))).1 (g + j) p := by
                    intro j p j1 j2
                    rw [e54, p3 j p j1 j2, sA1, sA1]
                    by_cases cp : p = n
                    · by_cases cj : j = 3
                      · subst cj; rw [if_pos ⟨cp, rfl⟩, if_neg (by omega), if_pos rfl, updD, if_pos cp]
                      · by_cases cj4 : j = 4
                        · subst cj4; rw [if_neg (by omega), if_pos ⟨cp, rfl⟩, if_pos rfl, updD, if_pos cp]
                        · rw [if_neg (by omega), if_neg (by omega), if_neg (by omega), if_neg (by omega)]
                    · rw [if_neg (by omega), if_neg (by omega)]
                      by_cases cj : g + j = g + 4
                      · rw [if_pos cj, updD, if_neg cp, if_neg (by omega)]
                      · rw [if_neg cj]
                        by_cases cj3 : g + j = g + 3
                        · rw [if_pos cj3, updD, if_neg cp]
                        · rw [if_neg cj3]
                  show cR g (n + 1) (put (nod T n (tC B L q) a t x d 1000 (tV B L (tE B L q)) (tV B L (tE B L (tE B L q)))) n (tC B L q) (tV B L (tE B L q)) (tV B L (tE B L (tE B L q)))) σ5
                  refine ⟨fun j p j1 j8 hp => ?_, fun p hp => ?_, fun i hi => ?_, fun j s j1 j2 hs => ?_, ?_, ?_⟩
                  · rw [low j p j1 (by omega), put_low (by omega)]; exact s1 j p j1 j8 hp
                  · rw [low 10 p (by omega) (by omega)]; exact s2 p hp
                  · rw [put_low (by omega)] at hi ⊢
                    rw [low 9 i (by omega) (by omega)]; exact s3 i hi
                  · rw [e54]; exact p4 j s j1 j2 hs
                  · rw [e54, p5, e32, e21, a7 17 0 (by omega) (by omega)]; exact h6.2.2.2.2.1
                  · rw [e54, p5, e32, e21, a7 17 1 (by omega) (by omega)]; exact h6.2.2.2.2.2
                · exact (fr3.tr (p2.mo g8 (by simp) (by simp))).tr (x2.mo (by simp) (by simp) g10)
            · rw [if_neg (fun e => d5 (i4'.mp e)), if_pos d5]
              obtain ⟨σ', y1, y2, y3, y4⟩ := @c_fail B L (tE B L (tE B L q)) g 1 σ3 σ k3 fr3
              refine ⟨σ', ?_, y2, y3, y4⟩
              rw [show (1 : Int32) = nI 1 from rfl, y1]
              rfl
          · rw [if_neg c13] at eM
            rw [if_pos (show (10 ≤ tV B L (tE B L q) ∨ (T 13 (tV B L (tE B L q)) ≠ 1000 ∧ T 13 (tV B L (tE B L q)) ≠ tC B L q - 2)) by omega)]
            obtain ⟨σ', y1, y2, y3, y4⟩ := @c_fail B L (tE B L q) g 2 σ2 σ k1 fr2
            refine ⟨σ', ?_, y2, y3, y4⟩
            have y5 : (bd (f_Reader_fail 2 σ2) fun r σ => ck (isB r) <| some (r, σ)) = some (0, σ') := y1
            unfold f_Reader_readHeld f_Reader_readHeld_b45
            simp only [g6, ck_t, rF, rI, b41, i4, if_pos d4, f5, i10, if_neg v10, eN, nc, r1, ew, eM, bd_s, if_true, y5]
            rfl
  · rw [if_pos d4]
    have key : ∀ m : Option (Int32 × St), m = (bd (f_Reader_fail 1 σ2) fun r σ => ck (isB r) <| some (r, σ)) → cOut B L g rp n σ (.inl (1, tS B L (tE B L q))) (bd m fun r σ => ck (isB r) <| some (r, σ)) := by
      intro m hm
      obtain ⟨σ', y1, y2, y3, y4⟩ := @c_fail B L (tE B L q) g 1 σ2 σ k1 fr2
      refine ⟨σ', ?_, y2, y3, y4⟩
      rw [hm]
      rw [show (1 : Int32) = nI 1 from rfl, y1]
      rfl
    by_cases w0 : tC B L q = 0
    · rw [if_pos w0]
      apply key
      unfold f_Reader_readPay
      simp only [g6, ck_t, rF, b41, i4, if_neg d4]
    · rw [if_neg w0]
      by_cases w1 : tC B L q = 1
      · rw [if_pos w1]
        apply key
        unfold f_Reader_readDeal
        simp only [g6, ck_t, rF, b41, i4, if_neg d4]
      · rw [if_neg w1]
        apply key
        unfold f_Reader_readHeld
        simp only [g6, ck_t, rF, b41, i4, if_neg d4]
theorem c_head {B : Nat → Nat} {L g q n a t x d : Nat} {T : TT} {σ : St} (hg : g = 10 ∨ g = 28) (rp : Nat → Int32 → Int32 → Int32 → St → Option (Int32 × St)) (h : cS B L g (q, n, T) σ) (ha : (a = 1000 ∧ d = 0) ∨ (a < n ∧ T 6 a + 1 = d)) (ht : t < 4) (hx : x < 100) (hd' : d ≤ 8) : cOut B L g rp n σ (hd B L a t x d (q, n, T)) (f_Reader_readPlace rp g (nz a) (nI t) (nI x) σ) := by
  have h' := h
  obtain ⟨h0, h1, h2, h3, h4, h5, h6⟩ := h'
  simp only at h1 h2 h3 h4 h5 h6
  have hG : isG g = true := by rcases hg with rfl | rfl <;> rfl
  have wl := tC_lt B L q
  have e3 : f_Reader_readPlace rp g (nz a) (nI t) (nI x) σ = if tC B L q < 4 then f_Reader_readPlace_b36 g rp (nz a) (nI t) (nI x) (nI (tC B L q)) σ else (bd (f_Reader_fail 1 σ) fun r σ => ck (isB r) <| some (r, σ)) := by
    unfold f_Reader_readPlace
    simp only [hG, ck_t, rF, h2.1]
    rw [show (0 : Int32) = nI 0 from rfl, show (2 : Int32) = nI 2 from rfl, show (3 : Int32) = nI 3 from rfl]
    have i0 : (nI (tC B L q) = nI 0) ↔ tC B L q = 0 := nI_eq (by omega) (by decide)
    have i1 : (nI (tC B L q) = 1) ↔ tC B L q = 1 := nI_eq (b := 1) (by omega) (by decide)
    have i2 : (nI (tC B L q) = nI 2) ↔ tC B L q = 2 := nI_eq (by omega) (by decide)
    have i3 : (nI (tC B L q) = nI 3) ↔ tC B L q = 3 := nI_eq (by omega) (by decide)
    simp only [i0, i1, i2, i3]
    by_cases c0 : tC B L q = 0
    · rw [if_pos c0, if_pos (by omega)]
    · rw [if_neg c0]
      by_cases c1 : tC B L q = 1
      · rw [if_pos c1, if_pos (by omega)]
      · rw [if_neg c1]
        by_cases c2 : tC B L q = 2
        · rw [if_pos c2, if_pos (by omega)]
        · rw [if_neg c2]
          by_cases c3 : tC B L q = 3
          · rw [if_pos c3, if_pos (by omega)]
          · rw [if_neg c3, if_neg (by omega)]
  rw [e3]
  by_cases w4 : tC B L q < 4
  · rw [if_pos w4]
    have e36 : f_Reader_readPlace_b36 g rp (nz a) (nI t) (nI x) (nI (tC B L q)) σ = f_Reader_readPlace_b54 g rp (nz a) (nI t) (nI x) (nI (tC B L q)) (nI d) σ := by
      unfold f_Reader_readPlace_b36
      rcases ha with ⟨ha, hd0⟩ | ⟨ha, hd0⟩
      · rw [if_pos (by rw [ha]; rfl), hd0]; rfl
      · rw [if_neg (by rw [nz_lt (by omega)]; exact nz_neg a (by omega))]
        have e6 : rI σ (g + 6) (nz a) + 1 = nI d := by
          unfold rI
          rw [nz_lt (show a < 1000 by omega), nI_clamp (by omega), h6.1 6 a (by omega) (by omega) ha, nz_lt (by omega), nI_1, hd0]
        rw [e6]
        rw [nz_lt (show a < 1000 by omega), ck_p (ib_nI (by omega) (by decide))]
    rw [e36]
    have i60 : ((60 : Int32) ≤ nI n) ↔ 60 ≤ n := nI_leI (a := 60) (by decide) (by omega)
    have i8 : (nI d < 8) ↔ d < 8 := nI_ltI (b := 8) (by omega) (by decide)
    have iw0 : (nI (tC B L q) = 0) ↔ tC B L q = 0 := nI_eq (b := 0) (by omega) (by decide)
    have fail3 : (60 ≤ n ∨ (8 ≤ d ∧ tC B L q ≠ 0)) → cOut B L g rp n σ (hd B L a t x d (q, n, T)) (f_Reader_readPlace_b77 g rp σ) := by
      intro hc
      have hh : hd B L a t x d (q, n, T) = .inl (3, tS B L q) := by
        unfold hd
        simp only
        rw [if_neg (by omega), if_pos hc]
      rw [hh]
      exact @c_fail B L q g 3 σ σ h2 fr.rf
    unfold f_Reader_readPlace_b54
    simp only [rF, h3, i60, i8, iw0]
    by_cases n60 : 60 ≤ n
    · rw [if_pos n60]
      exact fail3 (Or.inl n60)
    · rw [if_neg n60]
      by_cases d8 : d < 8
      · rw [if_pos d8]
        exact c_b84 hg rp h w4 (by omega) (by omega) (by omega) ht hx hd'
      · rw [if_neg d8]
        by_cases w0 : tC B L q = 0
        · rw [if_pos w0]
          exact c_b84 hg rp h w4 (by omega) (by omega) (by omega) ht hx hd'
        · rw [if_neg w0]
          exact fail3 (Or.inr ⟨by omega, w0⟩)
  · rw [if_neg w4]
    have hh : hd B L a t x d (q, n, T) = .inl (1, tS B L q) := by
      unfold hd
      simp only
      rw [if_pos (by omega)]
    rw [hh]
    exact @c_fail B L q g 1 σ σ h2 fr.rf
