theorem iRow_copy {σ s : St} (h : iRow σ) {a i b j n na ka : Nat} (ha : a < 8) (hb : b < 8) (e47 : s.1 47 = σ.1 47) (e48 : s.1 48 = σ.1 48) (e63 : s.1 63 = σ.1 63) (e64 : s.1 64 = σ.1 64) (hka : σ.1 63 a = nI ka) (hkb : ka < 3) (hna : σ.1 64 a = nI na) (hna4 : na ≤ 40) (hin : i + n ≤ na)
    (e49 : ∀ t, s.1 49 t = if 40 * b + j ≤ t ∧ t < 40 * b + j + n then σ.1 49 (40 * a + i + (t - (40 * b + j))) else σ.1 49 t) (e65 : ∀ t, s.1 65 t = if 40 * b + j ≤ t ∧ t < 40 * b + j + n then σ.1 65 (40 * a + i + (t - (40 * b + j))) else σ.1 65 t) : iRow s := by
  intro r hr
  rw [e47, e48, e63, e64]
  rcases h r hr with h1 | ⟨k1, n1, h1, h2, h3, h4, h5, h6, h7⟩
  · exact Or.inl h1
  · right
    refine ⟨k1, n1, h1, h2, h3, h4, h5, h6, fun t ht => ?_⟩
    rw [e49, e65]
    by_cases c : 40 * b + j ≤ 40 * r + t ∧ 40 * r + t < 40 * b + j + n
    · rw [if_pos c, if_pos c]
      rcases h a ha with ⟨q1, q2⟩ | ⟨k2, n2, g1, g2, g3, g4, g5, g6, g7⟩
      · rw [hka] at q1
        exact absurd q1 (by
          have : ∀ k, k < 3 → ¬ (nI k : Int32) = -1 := by decide
          exact this ka hkb)
      · have e : n2 = na := by
          rw [hna] at g6
          exact ((nI_eq (by omega) (by omega)).mp g6).symm
        have := g7 (i + (40 * r + t - (40 * b + j))) (by omega)
        rw [show 40 * a + (i + (40 * r + t - (40 * b + j))) = 40 * a + i + (40 * r + t - (40 * b + j)) by omega] at this
        exact this
    · rw [if_neg c, if_neg c]
      exact h7 t ht
theorem st_copy (x1 x2 x3 x4 x5 : Int32) {σ : St} (h : iRow σ) (hn : iFnd σ) : stp (f_HG_copy x1 x2 x3 x4 x5) (f_HM_copy x1 x2 x3 x4 x5) (fun s => iRow s ∧ iFnd s) [49, 65] [] [1, 40] σ := by
  unfold stp f_HG_copy f_HM_copy
  simp only [q_HG_isRow, q_HM_isRow, bd_s]
  by_cases c1 : x1 < 0 ∨ (8 : Int32) ≤ x1
  · simp only [if_pos c1, if_true]
    exact ⟨_, _, _, rfl, rfl, ⟨h, hn⟩, fr.rf⟩
  by_cases c2 : x3 < 0 ∨ (8 : Int32) ≤ x3
  · simp only [if_neg c1, if_pos c2, if_true, show ¬ ((1 : Int32) = 0) by decide, if_false]
    exact ⟨_, _, _, rfl, rfl, ⟨h, hn⟩, fr.rf⟩
  simp only [if_neg c1, if_neg c2, show ¬ ((1 : Int32) = 0) by decide, if_false]
  obtain ⟨a, ha, rfl⟩ := ix8 c1
  obtain ⟨b, hb, rfl⟩ := ix8 c2
  have hfd : ∀ x, ∃ r σ1 σ2, f_HG_found x σ = some (r, σ1) ∧ f_HM_found x σ1 = some (r, σ2) ∧ (iRow σ2 ∧ iFnd σ2) ∧ fr [49, 65] [] [1, 40] σ σ2 := fun x => ⟨_, _, _, rfl, rfl, ⟨iRow_F (iRow_F h 1 x) 40 x, by unfold iFnd; simp [sF3]⟩, (fr.rf.F (by decide) _).F (by decide) _⟩
  have e63 : ∀ (s : St) (z : Nat), z < 8 → rI s 63 (nI z) = s.1 63 z := fun s z hz => by unfold rI; rw [nI_clamp (by omega)]
  have e64 : ∀ (s : St) (z : Nat), z < 8 → rI s 64 (nI z) = s.1 64 z := fun s z hz => by unfold rI; rw [nI_clamp (by omega)]
  have e47 : ∀ (s : St) (z : Nat), z < 8 → rI s 47 (nI z) = s.1 47 z := fun s z hz => by unfold rI; rw [nI_clamp (by omega)]
  have kb : ∀ z : Nat, z < 8 → ∀ (k : Option (Int64 × St)), ck (ib (nI z) 8) k = k := fun z hz k => ck_p (ib_nI hz (by decide)) k
  simp only [kb a ha, kb b hb, e63 _ a ha, e63 _ b hb, e64 _ a ha, e64 _ b hb, e47 _ a ha, e47 _ b hb, q_isMissing ha, q_isMissing hb, bd_s, f_HG_copy_b40, f_HM_copy_b36, f_HG_copy_b102, f_HM_copy_b112]
  have l3 : ∀ k, k < 3 → ¬ ((nI k : Int32) < 0) := fun k hk => nI_pos (by omega)
  rcases h a ha with ⟨h1, h2⟩ | ⟨ka, na, h1, h2, h3, h4, h5, h6, h7⟩
  · obtain ⟨r, s1, s2, f1, f2, f3, f4⟩ := hfd 1
    refine ⟨r, s1, s2, ?_, ?_, f3, f4⟩
    · rw [h2, if_pos rfl, if_neg (by decide), f1, bd_s]
    · have : s1.1 63 a = -1 := by cases f1; exact h1
      rw [this, if_pos (by decide), f2, bd_s]
  · rcases h b hb with ⟨g1, g2⟩ | ⟨kb', nb, g1, g2, g3, g4, g5, g6, g7⟩
    · obtain ⟨r, s1, s2, f1, f2, f3, f4⟩ := hfd 1
      refine ⟨r, s1, s2, ?_, ?_, f3, f4⟩
      · rw [h4, if_neg (m1_ne ka h1), if_pos rfl, g2, if_pos rfl, if_neg (by decide), f1, bd_s]
      · have a1 : s1.1 63 a = nI ka := by cases f1; exact h3
        have a2 : s1.1 63 b = -1 := by cases f1; exact g1
        rw [a1, a2, if_neg (l3 ka h1), if_neg (by decide), f2, bd_s]
    · rw [h4, g4, if_neg (m1_ne ka h1), if_neg (m1_ne kb' g1), if_pos rfl, if_pos rfl]
      have model : ∀ s : St, s.1 63 = σ.1 63 → s.1 64 = σ.1 64 → (if s.1 63 a < 0 then (bd (f_HM_found 1 s) fun r3 σ2 => some (r3, σ2)) else (if 0 ≤ s.1 63 b then (if s.1 63 a = s.1 63 b then (if x2 < 0 then (bd (f_HM_found 2 s) fun r3 σ2 => some (r3, σ2)) else (if x4 < 0 then (bd (f_HM_found 2 s) fun r3 σ2 => some (r3, σ2)) else (if x5 < 0 then (bd (f_HM_found 2 s) fun r3 σ2 => some (r3, σ2)) else (if ((s.1 64 a).toInt64) < (x2.toInt64 + x5.toInt64) then (bd (f_HM_found 2 s) fun r3 σ2 => some (r3, σ2)) else (if (x4.toInt64 + x5.toInt64) ≤ ((s.1 64 b).toInt64) then (f_HM_copy_l121 (nI a) x2 (nI b) x4 x5 0 s) else (bd (f_HM_found 2 s) fun r3 σ2 => some (r3, σ2))))))) else (bd (f_HM_found 5 s) fun r25 σ24 => some (r25, σ24))) else (bd (f_HM_found 1 s) fun r3 σ2 => some (r3, σ2)))) = if (nI ka : Int32) = nI kb' then (if 0 ≤ x2.toInt ∧ 0 ≤ x4.toInt ∧ 0 ≤ x5.toInt ∧ x2.toInt + x5.toInt ≤ na ∧ x4.toInt + x5.toInt ≤ nb then f_HM_copy_l121 (nI a) x2 (nI b) x4 x5 0 s else f_HM_found 2 s) else f_HM_found 5 s := by
        intro s a1 a2
        rw [a1, a2, h3, g3, h6, g6, if_neg (l3 ka h1), if_pos (lane0 kb' g1)]
        have b1 : x2 < 0 ↔ x2.toInt < 0 := fa_lt x2 0
        have b2 : x4 < 0 ↔ x4.toInt < 0 := fa_lt x4 0
        have b3 : x5 < 0 ↔ x5.toInt < 0 := fa_lt x5 0
        have b4 : (nI na).toInt64 < x2.toInt64 + x5.toInt64 ↔ (na : Int) < x2.toInt + x5.toInt := by rw [fa_lt64, add64, Int32.toInt_toInt64, nI_toInt (by omega)]
        have b5 : x4.toInt64 + x5.toInt64 ≤ (nI nb).toInt64 ↔ x4.toInt + x5.toInt ≤ (nb : Int) := by rw [fa_le64, add64, Int32.toInt_toInt64, nI_toInt (by omega)]
        have bf : ∀ x, (bd (f_HM_found x s) fun r3 σ2 => some (r3, σ2)) = f_HM_found x s := fun x => rfl
        simp only [b1, b2, b3, b4, b5, bf]
        by_cases e : (nI ka : Int32) = nI kb'
        · rw [if_pos e, if_pos e]
          by_cases d1 : x2.toInt < 0
          · rw [if_pos d1, if_neg (by omega)]
          rw [if_neg d1]
          by_cases d2 : x4.toInt < 0
          · rw [if_pos d2, if_neg (by omega)]
          rw [if_neg d2]
          by_cases d3 : x5.toInt < 0
          · rw [if_pos d3, if_neg (by omega)]
          rw [if_neg d3]
          by_cases d4 : (na : Int) < x2.toInt + x5.toInt
          · rw [if_pos d4, if_neg (by omega)]
          rw [if_neg d4]
          by_cases d5 : x4.toInt + x5.toInt ≤ (nb : Int)
          · rw [if_pos d5, if_pos (by omega)]
          · rw [if_neg d5, if_neg (by omega)]
        · rw [if_neg e, if_neg e]
      by_cases e : (nI ka : Int32) = nI kb'
      · rw [if_pos e, q_hasItems ha h5 h2, bd_s]
        have done2 : ¬ (0 ≤ x2.toInt ∧ 0 ≤ x4.toInt ∧ 0 ≤ x5.toInt ∧ x2.toInt + x5.toInt ≤ na ∧ x4.toInt + x5.toInt ≤ nb) → ∀ m : Option (Int64 × St), m = f_HG_found 2 σ → ∃ r σ1 σ2, m = some (r, σ1) ∧ (if σ1.1 63 a < 0 then (bd (f_HM_found 1 σ1) fun r3 σ2 => some (r3, σ2)) else (if 0 ≤ σ1.1 63 b then (if σ1.1 63 a = σ1.1 63 b then (if x2 < 0 then (bd (f_HM_found 2 σ1) fun r3 σ2 => some (r3, σ2)) else (if x4 < 0 then (bd (f_HM_found 2 σ1) fun r3 σ2 => some (r3, σ2)) else (if x5 < 0 then (bd (f_HM_found 2 σ1) fun r3 σ2 => some (r3, σ2)) else (if ((σ1.1 64 a).toInt64) < (x2.toInt64 + x5.toInt64) then (bd (f_HM_found 2 σ1) fun r3 σ2 => some (r3, σ2)) else (if (x4.toInt64 + x5.toInt64) ≤ ((σ1.1 64 b).toInt64) then (f_HM_copy_l121 (nI a) x2 (nI b) x4 x5 0 σ1) else (bd (f_HM_found 2 σ1) fun r3 σ2 => some (r3, σ2))))))) else (bd (f_HM_found 5 σ1) fun r25 σ24 => some (r25, σ24))) else (bd (f_HM_found 1 σ1) fun r3 σ2 => some (r3, σ2)))) = some (r, σ2) ∧ (iRow σ2 ∧ iFnd σ2) ∧ fr [49, 65] [] [1, 40] σ σ2 := by
          intro hc m hm
          obtain ⟨r, s1, s2, f1, f2, f3, f4⟩ := hfd 2
          refine ⟨r, s1, s2, hm.trans f1, ?_, f3, f4⟩
          rw [model s1 (by cases f1; rfl) (by cases f1; rfl), if_pos e, if_neg hc, f2]
        by_cases c3 : 0 ≤ x2.toInt ∧ 0 ≤ x5.toInt ∧ x2.toInt + x5.toInt ≤ na
        · rw [if_pos c3, if_neg (by decide), q_hasItems hb g5 g2, bd_s]
          by_cases c4 : 0 ≤ x4.toInt ∧ 0 ≤ x5.toInt ∧ x4.toInt + x5.toInt ≤ nb
          · rw [if_pos c4, if_neg (by decide)]
            obtain ⟨i, hi, rfl, hi2⟩ := nat_of c3.1
            obtain ⟨j, hj, rfl, hj2⟩ := nat_of c4.1
            obtain ⟨m, hm, rfl, hm2⟩ := nat_of c3.2.1
            have q1 : i + m ≤ na := by have := c3.2.2; omega
            have q2 : j + m ≤ nb := by have := c4.2.2; omega
            have eb : f_Shelf_bring (nI a) (nI i) (nI b) (nI j) (nI m) σ = some (stC σ 49 (va_cpy (σ.1 49) (σ.1 49) (40 * a + i) (40 * b + j) m)) := by
              unfold f_Shelf_bring
              rw [ix40, ix40, ck_p, lE_d, nI_clamp (by omega), nI_clamp (by omega), nI_clamp (by omega)]
              unfold cpO
              rw [nI_clamp (by omega), nI_clamp (by omega), nI_clamp (by omega)]
              exact decide_eq_true ⟨nI_pos (by omega), nI_pos (by omega), nI_pos (by omega), by omega, by omega⟩
            rw [eb, bv_s, q_fine, bd_s]
            obtain ⟨s2, m1, m2, m3, m4⟩ := mcopy (a := a) (i := i) (b := b) (j := j) (n := m) ha hb (by omega) (by omega) (σ.1 65) m 0 FU (stF (stC σ 49 (va_cpy (σ.1 49) (σ.1 49) (40 * a + i) (40 * b + j) m)) 1 0) (by omega) (by unfold FU; omega) (by
              intro t
              rw [sF1, sC1, if_neg (by decide), if_neg]
              split <;> omega)
            refine ⟨_, _, s2, rfl, ?_, ⟨?_, ?_⟩, ?_⟩
            · rw [model _ (by simp [sF1, sC1]) (by simp [sF1, sC1]), if_pos e, if_pos (by omega)]
              exact m1
            · refine iRow_copy h ha hb (i := i) (j := j) (n := m) (ka := ka) (na := na) ?_ ?_ ?_ ?_ h3 h1 h6 h2 q1 ?_ m4
              · exact (m2.1 47 (by decide)).trans (by simp [sF1, sC1])
              · exact (m2.1 48 (by decide)).trans (by simp [sF1, sC1])
              · exact (m2.1 63 (by decide)).trans (by simp [sF1, sC1])
              · exact (m2.1 64 (by decide)).trans (by simp [sF1, sC1])
              · intro t
                rw [m2.1 49 (by decide), sF1, sC1, if_pos rfl]
                rfl
            · unfold iFnd
              rw [m3, m2.2.2.1 1 (by decide)]
              rfl
            · exact ((fr.rf.C (by decide) _).F (by decide) _).tr (m2.mo (by decide) (by decide) (by decide))
          · rw [if_neg c4, if_pos rfl]
            exact done2 (by omega) _ rfl
        · rw [if_neg c3, if_pos rfl]
          exact done2 (by omega) _ rfl
      · rw [if_neg e]
        obtain ⟨r, s1, s2, f1, f2, f3, f4⟩ := hfd 5
        refine ⟨r, s1, s2, ?_, ?_, f3, f4⟩
        · rw [f1, bd_s]
        · rw [model s1 (by cases f1; rfl) (by cases f1; rfl), if_neg e, f2]
