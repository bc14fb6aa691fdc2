theorem iRow.cg {σ σ' : St} (h : iRow σ) (e : ∀ k, k ∈ [47, 48, 49, 63, 64, 65] → σ'.1 k = σ.1 k) : iRow σ' := by
  intro r hr
  rw [e 47 (by decide), e 48 (by decide), e 49 (by decide), e 63 (by decide), e 64 (by decide), e 65 (by decide)]
  exact h r hr
theorem rd_ok {B : Nat → Nat} {L : Nat} {s : SS} (h : rd B L = .inr s) : pl B L 12 0 1000 0 0 (0, 0, T0) = .inr s := by
  unfold rd at h
  cases hp : pl B L 12 0 1000 0 0 (0, 0, T0) with
  | inl e =>
    rw [hp] at h
    cases h
  | inr s' =>
    rw [hp] at h
    have h' : (if tC B L s'.1 ≠ 5 then (.inl (1, tS B L s'.1) : RR) else if tC B L (tE B L s'.1) ≠ 6 then .inl (1, tS B L (tE B L s'.1)) else .inr s') = .inr s := h
    split at h'
    · cases h'
    · split at h'
      · cases h'
      · injection h' with h'
        rw [h']
theorem mem_kaT {g k : Nat} (h : k ∈ kaT g) : g + 1 ≤ k ∧ k ≤ g + 17 := by
  simp only [kaT, kaC, List.mem_cons, List.mem_nil_iff, or_false] at h
  omega
theorem mem_kfC {g k : Nat} (h : k ∈ kfC g) : (3 ≤ k ∧ k ≤ 8) ∨ k = g + 10 := by
  simp only [kfC, List.mem_cons, List.mem_nil_iff, or_false] at h
  omega
theorem mem_kaM {k : Nat} (h : k ∈ kaM) : (67 ≤ k ∧ k ≤ 77) ∨ (81 ≤ k ∧ k ≤ 83) := by
  simp only [kaM, List.mem_cons, List.mem_nil_iff, or_false] at h
  omega
theorem mem_kfM {k : Nat} (h : k ∈ kfM) : 46 ≤ k ∧ k ≤ 51 := by
  simp only [kfM, List.mem_cons, List.mem_nil_iff, or_false] at h
  omega
theorem st_game {σ : St} (h : Inv σ) : stq f_HG_game f_HM_game σ := by
  obtain ⟨⟨a1, a2, a3, a4, a5⟩, b, c⟩ := h
  obtain ⟨B, L, ht⟩ := iTap_tp b
  have a50 := a5
  obtain ⟨n, T, sh, R, D, hg, hp, hr⟩ := a5
  have gg := g_of hg
  obtain ⟨g', hg'⟩ : ∃ g', σ.2.2.2 1 = g' := ⟨_, rfl⟩
  obtain ⟨g, hgE⟩ : ∃ g, σ.2.2.2 0 = g := ⟨_, rfl⟩
  rw [hg', hgE] at gg
  have dj : (g = 10 ∧ g' = 28) ∨ (g = 28 ∧ g' = 10) := by
    have := hg.2.1
    rw [hg', hgE] at this
    exact this
  have ct := c_text gg.2 ht
  have nd1 : ∀ k, k ∉ kaT g' ↔ ¬ k ∈ kaT g' := fun k => Iff.rfl
  have no1 : ∀ k, (k ≤ g' ∨ g' + 18 ≤ k) → k ∉ kaT g' := fun k hk z => by have := mem_kaT z; omega
  have no2 : ∀ k, (k < 67 ∨ k = 78 ∨ k = 79 ∨ k = 80) → k ∉ kaM := fun k hk z => by have := mem_kaM z; omega
  have no3 : ∀ k, (k ≤ 2 ∨ (9 ≤ k ∧ k ≠ g' + 10)) → k ∉ kfC g' := fun k hk z => by have := mem_kfC z; omega
  have no4 : ∀ k, (k < 46 ∨ 52 ≤ k) → k ∉ kfM := fun k hk z => by have := mem_kfM z; omega
  cases hrd : rd B L with
  | inl e =>
    rw [hrd] at ct
    obtain ⟨σa, c1, c2, c3, c4⟩ := ct
    have f1 : fr (kaT g') [] (0 :: 2 :: kfC g') σ (stF (stF σa 2 0) 0 (nI e.1)) := ((c4.mo (fun k h => h) (fun k h => h) (fun k h => List.mem_cons_of_mem _ (List.mem_cons_of_mem _ h))).F (by simp) _).F (by simp) _
    have no3' : ∀ k, k ≠ 0 → k ≠ 2 → (k ≤ 2 ∨ (9 ≤ k ∧ k ≠ g' + 10)) → k ∉ 0 :: 2 :: kfC g' := fun k x y z w => by
      rcases List.mem_cons.mp w with w | w
      · exact x w
      · rcases List.mem_cons.mp w with w | w
        · exact y w
        · exact no3 k z w
    have t1 : tm B L (stF (stF σa 2 0) 0 (nI e.1)) := by
      refine ⟨ht.1, trivial, ?_, fun i hi => ⟨(ht.2.2.2 i hi).1, ?_, trivial⟩⟩
      · rw [f1.2.2.1 41 (no3' _ (by decide) (by decide) (by omega))]; exact ht.2.2.1
      · rw [f1.1 66 (no1 _ (by omega))]; exact (ht.2.2.2 i hi).2.1
    have mm := m_all t1
    rw [hrd] at mm
    obtain ⟨σb, m1, m2, m3, m4, m5⟩ := mm
    have F2 : ∀ k, k ≠ 41 → k ≠ 42 → (stF (stF σb 41 0) 42 (nI e.1)).2.2.1 k = σb.2.2.1 k := fun k x y => by rw [sF3, if_neg y, sF3, if_neg x]
    have EA : ∀ k, k ∉ kaT g' → k ∉ kaM → (stF (stF σb 41 0) 42 (nI e.1)).1 k = σ.1 k := fun k x y => by
      rw [sF1, sF1, m5.1.1 k y, f1.1 k x]
    have EF : ∀ k, k ≠ 41 → k ≠ 42 → k ∉ 0 :: 2 :: kfC g' → k ∉ kfM → (stF (stF σb 41 0) 42 (nI e.1)).2.2.1 k = σ.2.2.1 k := fun k x y z w => by
      rw [F2 k x y, m5.1.2.2.1 k w, f1.2.2.1 k z]
    refine ⟨(-9000000000000000100) - (nI e.2).toInt64, stF (stF σa 2 0) 0 (nI e.1), stF (stF σb 41 0) 42 (nI e.1), ?_, ?_, ⟨⟨?_, ?_, ⟨?_, ?_⟩, ?_, ?_⟩, ?_, ?_⟩⟩
    · unfold f_HG_game
      have q7 : rF (stF σa 2 0) 7 = nI e.1 := by rw [rF, sF3, if_neg (by decide)]; exact c2
      have q8 : rF (stF (stF σa 2 0) 0 (nI e.1)) 8 = nI e.2 := by rw [rF, sF3, if_neg (by decide), sF3, if_neg (by decide)]; exact c3
      rw [rR, hg', c1, bd_s, lE_d, if_pos rfl, q7, lE_d, q8]
    · unfold f_HM_game
      rw [m1, bd_s, lE_d, if_neg (nI_ne0 m2 (by omega)), lE_d, rF, sF3, if_neg (show ¬ 47 = 42 by decide), sF3, if_neg (show ¬ 47 = 41 by decide), m4]
    · exact a1.cg (fun k hk => EA k (no1 k (by simp only [List.mem_cons, List.mem_nil_iff, or_false] at hk; omega)) (no2 k (by simp only [List.mem_cons, List.mem_nil_iff, or_false] at hk; omega)))
    · unfold iFnd at a2 ⊢
      rw [EF 1 (by decide) (by decide) (no3' _ (by decide) (by decide) (by omega)) (no4 _ (by omega)), EF 40 (by decide) (by decide) (no3' _ (by decide) (by decide) (by omega)) (no4 _ (by omega))]
      exact a2
    · rw [EF 9 (by decide) (by decide) (no3' _ (by decide) (by decide) (by omega)) (no4 _ (by omega))]; exact a3.1
    · rw [EF 10 (by decide) (by decide) (no3' _ (by decide) (by decide) (by omega)) (no4 _ (by omega))]; exact a3.2
    · exact a4.cg (EF 12 (by decide) (by decide) (no3' _ (by decide) (by decide) (by omega)) (no4 _ (by omega))) (EF 45 (by decide) (by decide) (no3' _ (by decide) (by decide) (by omega)) (no4 _ (by omega))) (EA 62 (no1 _ (by omega)) (no2 _ (by omega))) (EA 80 (no1 _ (by omega)) (no2 _ (by omega)))
    · refine a50.kp ⟨fun k hk => ?_, fun k i x y z => ?_, fun j x y => ?_, fun k hk => ?_, fun k hk => ?_, ?_, ?_⟩
      · exact EA k (no1 k (by simp only [kpG, List.mem_cons, List.mem_nil_iff, or_false] at hk; omega)) (no2 k (by simp only [kpG, List.mem_cons, List.mem_nil_iff, or_false] at hk; omega))
      · rw [sF1, sF1, m5.2 k i x y z, f1.1 k (no1 k (by omega))]
      · rw [hgE]; exact EA _ (no1 _ (by omega)) (no2 _ (by omega))
      · show σb.2.1 k = _
        rw [m5.1.2.1 k (by simp), f1.2.1 k (by simp)]
      · simp only [List.mem_cons, List.mem_nil_iff, or_false] at hk
        exact EF k (by omega) (by omega) (no3' _ (by omega) (by omega) (by omega)) (no4 _ (by omega))
      · rw [hgE]; exact EF _ (by omega) (by omega) (no3' _ (by omega) (by omega) (by omega)) (no4 _ (by omega))
      · show σb.2.2.2 = _
        rw [m5.1.2.2.2, f1.2.2.2]
    · refine ⟨0, by omega, ?_, ?_, fun i hi => by omega⟩
      · rw [F2 2 (by decide) (by decide), m5.1.2.2.1 2 (no4 _ (by omega)), sF3, if_neg (show ¬ 2 = 0 by decide), sF3, if_pos rfl]; rfl
      · rw [sF3, if_neg (show ¬ 41 = 42 by decide), sF3, if_pos rfl]; rfl
    · rw [sF3, if_neg (show ¬ 0 = 42 by decide), sF3, if_neg (show ¬ 0 = 41 by decide), m5.1.2.2.1 0 (no4 _ (by omega)), sF3, if_pos rfl, sF3, if_pos rfl]
  | inr s =>
    rw [hrd] at ct
    obtain ⟨σa, c1, c2, c3, c4⟩ := ct
    have m0 := m_all ht.m
    rw [hrd] at m0
    obtain ⟨hW, hn⟩ := pl_all (rd_ok hrd) m0.1
    have iG : isG g' = true := by rcases gg.2 with h | h <;> rw [h] <;> rfl
    obtain ⟨σc, d1, d2, d3⟩ := c_finish iG hW hn c2 c3
    have no5 : ∀ k, (k ≤ g' ∨ g' + 18 ≤ k) → k ∉ [g' + 10, g' + 11, g' + 17] := fun k hk z => by
      simp only [List.mem_cons, List.mem_nil_iff, or_false] at z; omega
    have CA : ∀ k, (k ≤ g' ∨ g' + 18 ≤ k) → σc.1 k = σ.1 k := fun k hk => by rw [d2.1 k (no5 k hk), c4.1 k (no1 k hk)]
    have CL : ∀ k, k ≠ g' + 12 → σc.2.1 k = σ.2.1 k := fun k hk => by rw [d2.2.1 k (by simpa using hk), c4.2.1 k (by simp)]
    have CF : ∀ k, (k ≤ 2 ∨ (9 ≤ k ∧ k ≠ g' + 10)) → σc.2.2.1 k = σ.2.2.1 k := fun k hk => by rw [d2.2.2.1 k (by simp), c4.2.2.1 k (no3 k hk)]
    have CR : σc.2.2.2 = σ.2.2.2 := by rw [d2.2.2.2, c4.2.2.2]
    obtain ⟨σd, e1, e2, e3⟩ := @q_begin (stR (stR (stF σc 2 0) 0 g') 1 g)
    obtain ⟨σe, f1, f2, f3, f4⟩ := @q_hbegin σd
    have R0 : σe.2.2.2 0 = g' := by
      rw [f2.2.2.2, e2.2.2.2, sR4, if_neg (by decide), sR4, if_pos rfl]
    have R1 : σe.2.2.2 1 = g := by
      rw [f2.2.2.2, e2.2.2.2, sR4, if_pos rfl]
    have PA : ∀ k, k ≠ 51 → σe.1 k = σc.1 k := fun k hk => by rw [f2.1 k (by simp), e2.1 k (by simpa using hk)]; rfl
    have PF : ∀ k, k ≠ 11 → k ≠ 2 → σe.2.2.1 k = σc.2.2.1 k := fun k hk h2 => by
      rw [f2.2.2.1 k (by simpa using hk), e2.2.2.1 k (by simp), sR3, sR3, sF3, if_neg h2]
    have eC : f_HG_game σ = some ((nI s.2.1).toInt64, σe) := by
      unfold f_HG_game
      have q1 : rR (stF σc 2 0) 1 = g' := by show σc.2.2.2 1 = g'; rw [CR]; exact hg'
      have q2 : rR (stF σc 2 0) 0 = g := by show σc.2.2.2 0 = g; rw [CR]; exact hgE
      rw [rR, hg', c1, d1, bv_s, bd_s, lE_d, if_neg (by decide), q1, q2, lE_d, lE_d, e1, bv_s, f1, bv_s, rR, R0, iG, ck_t, rF, PF _ (by omega) (by omega), d3.2.2.2.2.2.2]
    have t1 : tm B L σe := by
      refine ⟨ht.1, trivial, ?_, fun i hi => ⟨(ht.2.2.2 i hi).1, ?_, trivial⟩⟩
      · rw [PF 41 (by decide) (by decide), CF 41 (by omega)]; exact ht.2.2.1
      · rw [PA 66 (by decide), CA 66 (by omega)]; exact (ht.2.2.2 i hi).2.1
    have mm := m_all t1
    rw [hrd] at mm
    obtain ⟨_, σb, m1, m2, m3, m4, m5⟩ := mm
    obtain ⟨s1, x1, x2, x3, x4⟩ := @q_l39 s.2.1 (stF (stF σb 41 0) 43 (nI s.2.1)) hW.2.1 (by rw [sF3, if_pos rfl])
    obtain ⟨s2, y1, y2, y3, y4, y5⟩ := @q_l211 s1
    have s43 : s2.2.2.1 43 = nI s.2.1 := by rw [y2.2.2.1 43 (by simp), x2.2.2.1 43 (by simp), sF3, if_pos rfl]
    have eM : f_HM_game σe = some ((nI s.2.1).toInt64, s2) := by
      unfold f_HM_game
      have q0 : rF (stF σb 41 0) 51 = nI s.2.1 := by rw [rF, sF3, if_neg (by decide)]; exact m3
      rw [m1, bd_s, lE_d, if_pos rfl, q0, lE_d, x1, y1, s43]
    have SA : ∀ k, k ∉ kaM → k ∉ [67, 68, 69, 70, 71, 72, 73, 74, 75] → k ∉ [76, 77, 78] → s2.1 k = σe.1 k := fun k x y z => by
      rw [y2.1 k z, x2.1 k y, sF1, sF1, m2.1.1 k x]
    have SA' : ∀ k, (k < 67 ∨ k = 79 ∨ k = 80) → s2.1 k = σe.1 k := fun k hk => SA k (no2 k (by omega)) (by simp only [List.mem_cons, List.mem_nil_iff, or_false]; omega) (by simp only [List.mem_cons, List.mem_nil_iff, or_false]; omega)
    have SF : ∀ k, k < 41 ∨ k = 42 ∨ k = 45 → s2.2.2.1 k = σe.2.2.1 k := fun k hk => by
      rw [y2.2.2.1 k (by simp; omega), x2.2.2.1 k (by simp), sF3, if_neg (by omega), sF3, if_neg (by omega), m2.1.2.2.1 k (no4 k (by omega))]
    have SL : ∀ k, s2.2.1 k = σe.2.1 k := fun k => by
      rw [y2.2.1 k (by simp), x2.2.1 k (by simp), sF2, sF2, m2.1.2.1 k (by simp)]
    have SR : s2.2.2.2 = σe.2.2.2 := by rw [y2.2.2.2, x2.2.2.2, sF4, sF4, m2.1.2.2.2]
    refine ⟨_, σe, s2, eC, eM, ⟨⟨?_, ?_, ⟨?_, ?_⟩, ?_, ?_⟩, ?_, ?_⟩⟩
    · refine a1.cg (fun k hk => ?_)
      simp only [List.mem_cons, List.mem_nil_iff, or_false] at hk
      rw [SA' k (by omega), PA k (by omega), CA k (by omega)]
    · unfold iFnd at a2 ⊢
      rw [SF 1 (by omega), SF 40 (by omega), PF 1 (by decide) (by decide), PF 40 (by decide) (by decide), CF 1 (by omega), CF 40 (by omega)]
      exact a2
    · rw [SF 9 (by omega), PF 9 (by decide) (by decide), CF 9 (by omega)]; exact a3.1
    · rw [SF 10 (by omega), PF 10 (by decide) (by decide), CF 10 (by omega)]; exact a3.2
    · exact a4.cg (by rw [SF 12 (by omega), PF 12 (by decide) (by decide), CF 12 (by omega)]) (by rw [SF 45 (by omega), PF 45 (by decide) (by decide), CF 45 (by omega)]) (by rw [SA' 62 (by omega), PA 62 (by decide), CA 62 (by omega)]) (by rw [SA' 80 (by omega), PA 80 (by decide), CA 80 (by omega)])
    · refine ⟨s.2.1, s.2.2, fun _ a => if a = 0 then 12 else 0, 0, fun _ _ => 0, ⟨hW, ?_, ?_, ?_⟩, ?_, ?_⟩
      · rw [SR, R0, R1]; omega
      · rw [SR, R0]
        refine d3.cg (fun j j1 j2 => ?_) ?_
        · rw [SA' _ (by omega), PA _ (by omega)]
        · rw [SF _ (by omega), PF _ (by omega) (by omega)]
      · obtain ⟨r1, r2, r3, r4⟩ := m4
        have lowS : ∀ k p, k ∈ k8 → p < s.2.1 → s2.1 k p = σb.1 k (60 + p) := fun k p hk hp => by
          have : k ∉ [76, 77, 78] := by
            simp only [k8, List.mem_cons, List.mem_nil_iff, or_false] at hk
            simp only [List.mem_cons, List.mem_nil_iff, or_false]
            omega
          rw [y2.1 k this, x3 k p hk hp, sF1, sF1]
        refine ⟨fun j p x y z => ?_, fun p k x y => ?_, fun m x => ?_, fun m x => ?_, fun p x y z => ?_, s43⟩
        · have : mr j ∈ k8 := by
            have : j = 1 ∨ j = 2 ∨ j = 3 ∨ j = 4 ∨ j = 5 ∨ j = 6 ∨ j = 7 := by omega
            rcases this with rfl | rfl | rfl | rfl | rfl | rfl | rfl <;> decide
          rw [lowS _ p this z]; exact r1 j p x y z
        · have c9 := hW.2.2 p k x y
          have k4 := wK4 (hW.K x)
          have n60 := hW.2.1
          rw [y2.1 75 (by simp), x4 _ (by omega), sF1, sF1]
          exact r2 _ (by omega) (by omega)
        · rw [(y4 m x).1, x2.1 76 (by simp), sF1, sF1]; exact r3 m x
        · rw [(y4 m x).2, x2.1 77 (by simp), sF1, sF1]; exact r4 m x
        · rw [lowS 73 p (by decide) y]; exact m5 p x y (hW.A y x).1 z
      · intro q a hq hq2 ha
        have so := hW.1.2.2.2.2 q hq
        have a3 : a < 3 := by omega
        refine ⟨by dsimp only; split <;> omega, ?_, ?_⟩
        · rw [SA' 51 (by omega), f2.1 51 (by simp), e3 q a hq a3]
          dsimp only
          split <;> rfl
        · rw [y5 q a hq a3]
          dsimp only
          split <;> rfl
      · refine ⟨by omega, ?_, y3, fun h => by omega, fun r q h => by omega, fun w p hw hp => ?_⟩
        · rw [SF 11 (by omega)]; exact f3
        · rw [SL]
          exact f4 w p hw (by have := hW.2.1; omega)
    · refine ⟨0, by omega, ?_, ?_, fun i hi => by omega⟩
      · rw [SF 2 (by omega), f2.2.2.1 2 (by simp), e2.2.2.1 2 (by simp), sR3, sR3, sF3, if_pos rfl]; rfl
      · rw [y2.2.2.1 41 (by simp), x2.2.2.1 41 (by simp), sF3, if_neg (by decide), sF3, if_pos rfl]; rfl
    · rw [SF 0 (by omega), SF 42 (by omega), PF 0 (by decide) (by decide), PF 42 (by decide) (by decide), CF 0 (by omega), CF 42 (by omega)]
      exact c
