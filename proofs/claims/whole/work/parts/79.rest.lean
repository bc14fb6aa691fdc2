def tn (D : Nat → Nat → Nat) (q a R : Nat) : Nat := sm (fun r => if D r q = a then 1 else 0) R
theorem st_mean (x1 x2 : Int32) {σ : St} (hI : Inv σ) : stq (f_HG_mean x1 x2) (f_HM_mean x1 x2) σ := by
  obtain ⟨n, T, sh, R, D, hg, hp, hr⟩ := hI.1.2.2.2.2
  obtain ⟨rC0, rM0, rN⟩ := rdI_iff.mp hr
  have R60 := rC0.1
  unfold stq f_HG_mean f_HM_mean
  rcases q_isAct hg x1 x2 with ⟨q, a, hq, rfl, h13, ha, rfl, e1, e2, e3⟩ | ⟨e1, e2⟩
  · have so := hg.so hq
    have b2 : ib (nI q) 20 = true := ib_nI (by omega) (by decide)
    have dd : ∀ r, r < R → D r q < 3 := fun r hr' => (rC0.2.2.1 r q hr' hq).1
    have C : f_History_timesDone (nI q) (nI a) σ = some (nI (tn D q a R), σ) := by
      unfold f_History_timesDone f_History_timesDone_l5
      obtain ⟨t, e, ht⟩ := lp_u0 (z := fun _ _ _ _ _ => none) (body := f_History_timesDone_b5) (fun k r (t : St) => k (nI q) (nI a) (nI (tn D q a r)) (nI r) t) (fun r t => t = σ) R (fun t => some (nI (tn D q a R), t)) (fun k r t hr' hI => by
        rw [hI]
        refine ⟨σ, ?_, rfl⟩
        have := dd r hr'
        have e : (nI (D r q) = nI a) ↔ D r q = a := nI_eq (by omega) (by omega)
        show f_History_timesDone_b5 k (nI q) (nI a) (nI (tn D q a r)) (nI r) σ = k (nI q) (nI a) (nI (tn D q a r + if D r q = a then 1 else 0)) (nI (r + 1)) σ
        rw [f_History_timesDone_b5, rF, rC0.2.1, if_neg (nI_ge hr' (by omega)), show nI r * 10 + nI q = nI (10 * r + q) by rw [show (10 : Int32) = nI 10 from rfl, pk_mul, nI_add, Nat.mul_comm], ck_p (ib_nI (show 10 * r + q < 600 by omega) (by decide)), show rI σ 58 (nI (10 * r + q)) = nI (D r q) by rw [rI, nI_clamp (by omega)]; exact (rC0.2.2.1 r q hr' hq).2.1]
        unfold f_History_timesDone_b33
        by_cases x : D r q = a
        · rw [if_pos (e.mpr x), if_pos x, nI_1, nI_1]
        · rw [if_neg (fun z => x (e.mp z)), if_neg x, nI_1]; rfl) (fun k t hI => by
        rw [hI]
        show f_History_timesDone_b5 k (nI q) (nI a) _ (nI R) σ = _
        rw [f_History_timesDone_b5, rF, rC0.2.1, if_pos (nI_le (Nat.le_refl _) (by omega))]) (i := 0) (s := σ) (by omega) (Nat.zero_le _) rfl
      rw [ht] at e
      exact e
    have M : f_HM_mean_l35 (nI q) (nI a) 0 0 σ = some ((nI (tn D q a R)).toInt64, σ) := by
      unfold f_HM_mean_l35
      obtain ⟨t, e, ht⟩ := lp_u0 (z := fun _ _ _ _ _ => none) (body := f_HM_mean_b35) (fun k r (t : St) => k (nI q) (nI a) (nI (tn D q a r)) (nI r) t) (fun r t => t = σ) R (fun t => some ((nI (tn D q a R)).toInt64, t)) (fun k r t hr' hI => by
        rw [hI]
        refine ⟨σ, ?_, rfl⟩
        have := dd r hr'
        have e : (nI (D r q) = nI a) ↔ D r q = a := nI_eq (by omega) (by omega)
        show f_HM_mean_b35 k (nI q) (nI a) (nI (tn D q a r)) (nI r) σ = k (nI q) (nI a) (nI (tn D q a r + if D r q = a then 1 else 0)) (nI (r + 1)) σ
        rw [f_HM_mean_b35, rF, rM0.1, if_neg (nI_ge hr' (by omega)), show 10 * nI r + nI q = nI (10 * r + q) by rw [show (10 : Int32) = nI 10 from rfl, pk_mul, nI_add], ck_p (ib_nI (show 10 * r + q < 600 by omega) (by decide)), show rI σ 79 (nI (10 * r + q)) = nI (D r q) by rw [rI, nI_clamp (by omega)]; exact rM0.2 r q hr' hq (by omega)]
        unfold f_HM_mean_b66
        by_cases x : D r q = a
        · rw [if_pos (e.mpr x), if_pos x, nI_1, nI_1]
        · rw [if_neg (fun z => x (e.mp z)), if_neg x, show (0 : Int32) = nI 0 from rfl, nI_add, nI_1]) (fun k t hI => by
        rw [hI]
        show f_HM_mean_b35 k (nI q) (nI a) _ (nI R) σ = _
        rw [f_HM_mean_b35, rF, rM0.1, if_pos (nI_le (Nat.le_refl _) (by omega))]) (i := 0) (s := σ) (by omega) (Nat.zero_le _) rfl
      rw [ht] at e
      exact e
    rw [e1, bd_s, if_neg i10, C, bd_s]
    refine ⟨_, σ, σ, rfl, ?_, hI⟩
    rw [e2, bd_s, if_neg i10, ck_p b2, e3, bd_s, if_neg i10, M]
  · rw [e1, bd_s, if_pos rfl]
    refine ⟨_, σ, σ, rfl, ?_, hI⟩
    rcases e2 with e2 | ⟨s, hs, rfl, e2, e3⟩
    · rw [e2, bd_s, if_pos rfl]
    · have b2 : ib (nI s) 20 = true := ib_nI (by omega) (by decide)
      rw [e2, bd_s, if_neg i10, ck_p b2, e3, bd_s, if_pos rfl]
theorem st_take (x1 : Int32) {σ : St} (hI : Inv σ) : stq (f_HG_take x1) (f_HM_take x1) σ := by
  have hI0 := hI
  obtain ⟨⟨a1, a2, a3, a4, n, T, sh, R, D, hg, hp, hr⟩, b, c⟩ := hI
  obtain ⟨rC0, rM0, rN⟩ := rdI_iff.mp hr
  have R60 := rC0.1
  unfold stq f_HG_take f_HM_take
  rw [rF, rC0.2.1]
  by_cases d : x1 < 0 ∨ nI R ≤ x1
  · have : ∀ A : Option (Int64 × St), (if x1 < 0 then some ((-9000000000000000001 : Int64), σ) else if x1 < nI R then A else some (-9000000000000000001, σ)) = some (-9000000000000000001, σ) := by
      intro A
      by_cases y : x1 < 0
      · rw [if_pos y]
      · rw [if_neg y, if_neg (fun z => (fa_of_lt z).2.1 (d.resolve_left y))]
    rw [this]
    refine ⟨_, _, σ, rfl, ?_, hI0⟩
    rw [rF, rM0.1, q_inM _ (by omega), bd_s, if_pos d, if_pos rfl]
  · obtain ⟨k, hk, rfl⟩ := ixn (x := x1) (n := R) (by omega) d
    rw [if_neg (fun z => d (Or.inl z)), if_pos (nI_lt hk (by omega))]
    obtain ⟨σ1, b1, b2, b3⟩ := q_putInto (s := σ) (Q := 4) (k := k) (d := D k) rfl (by omega) (fun q hq => ⟨(rC0.2.2.1 k q hk hq).1, (rC0.2.2.1 k q hk hq).2.1⟩)
    have b2' : fr [51] [] [] σ σ1 := b2
    have hg1 : gI σ1 n T := hg.fr b2' (by decide) (by decide)
    rw [b1, bv_s]
    have inner : ∀ (k22 : Int32 → Int32 → St → Option (Int64 × St)) (q : Nat) (t : St), q < 10 → fr [78] [] [] σ1 t → ∃ t', f_HM_take_l30 k22 (nI k) (nI q) 0 t = k22 (nI k) (nI (q + 1)) t' ∧ fr [78] [] [] σ1 t' ∧ (∀ m, (m < 3 * q ∨ 3 * q + 3 ≤ m) → t'.1 78 m = t.1 78 m) ∧ (T 13 q ≠ 1000 → ∀ a, a < 3 → t'.1 78 (3 * q + a) = nI (rsh D k q a)) := by
      intro k22 q t hq ht0
      unfold f_HM_take_l30
      have so := hg.so hq
      have b20 : ib (nI q) 20 = true := ib_nI (by omega) (by decide)
      obtain ⟨t', e, i1, i2, i3⟩ := lp_u0 (z := fun _ _ _ _ => none) (body := f_HM_take_b30 k22) (fun kk a (u : St) => kk (nI k) (nI q) (nI a) u) (fun j u => fr [78] [] [] σ1 u ∧ (∀ m, (m < 3 * q ∨ 3 * q + 3 ≤ m) → u.1 78 m = t.1 78 m) ∧ (T 13 q ≠ 1000 → ∀ a, a < j → u.1 78 (3 * q + a) = nI (rsh D k q a))) 3 (fun u => k22 (nI k) (nI (q + 1)) u) (fun kk a u ha hI => by
        obtain ⟨f1, f2, f3⟩ := hI
        have hu : gI u n T := hg1.fr f1 (by decide) (by decide)
        have ix : 3 * nI q + nI a = nI (3 * q + a) := by rw [show (3 : Int32) = nI 3 from rfl, pk_mul, nI_add]
        have put : ∀ y : Int32, (T 13 q ≠ 1000 → y = nI (rsh D k q a)) → fr [78] [] [] σ1 (stA u 78 (3 * q + a) y) ∧ (∀ m, (m < 3 * q ∨ 3 * q + 3 ≤ m) → (stA u 78 (3 * q + a) y).1 78 m = t.1 78 m) ∧ (T 13 q ≠ 1000 → ∀ a', a' < a + 1 → (stA u 78 (3 * q + a) y).1 78 (3 * q + a') = nI (rsh D k q a')) := by
          intro y hy
          refine ⟨f1.A (by simp) _ _, fun m hm => ?_, fun h13 a' ha' => ?_⟩
          · rw [sA1, if_pos rfl, updD, if_neg (by omega)]; exact f2 m hm
          · rw [sA1, if_pos rfl, updD]
            by_cases x : a' = a
            · rw [if_pos (by omega), hy h13, x]
            · rw [if_neg (by omega)]; exact f3 h13 a' (by omega)
        show ∃ s', f_HM_take_b30 k22 kk (nI k) (nI q) (nI a) u = _ ∧ _
        rw [f_HM_take_b30, if_neg (show ¬ (3 : Int32) ≤ nI a from nI_ge (b := 3) (by omega) (by decide)), ck_p b20, ix, hu.P hq]
        unfold f_HM_take_b73 f_HM_take_b74
        rw [ck_p (ib_nI (show 3 * q + a < 30 by omega) (by decide)), lE_d, ck_p (ib_nI (show 3 * q + a < 30 by omega) (by decide)), lE_d, nI_clamp (show 3 * q + a < 2 ^ 31 by omega), nI_1]
        by_cases x : T 13 q = 1000
        · rw [show (if T 13 q = 1000 then (-1 : Int32) else nI (T 13 q)) = -1 from if_pos x, if_pos (by decide)]
          exact ⟨_, rfl, put 0 (fun z => absurd x z)⟩
        · have d3 := (rC0.2.2.1 k q hk hq).1
          have e : (nI (D k q) = nI a) ↔ D k q = a := nI_eq (by omega) (by omega)
          rw [show (if T 13 q = 1000 then (-1 : Int32) else nI (T 13 q)) = nI (T 13 q) from if_neg x, if_neg (nI_pos (by omega)), show 10 * nI k + nI q = nI (10 * k + q) by rw [show (10 : Int32) = nI 10 from rfl, pk_mul, nI_add], ck_p (ib_nI (show 10 * k + q < 600 by omega) (by decide)), show rI u 79 (nI (10 * k + q)) = nI (D k q) by rw [rI, nI_clamp (by omega), f1.1 79 (by simp), b2'.1 79 (by simp)]; exact rM0.2 k q hk hq x]
          by_cases y : D k q = a
          · rw [if_pos (e.mpr y)]
            exact ⟨_, rfl, put 12 (fun _ => by unfold rsh; rw [if_pos y]; rfl)⟩
          · rw [if_neg (fun z => y (e.mp z))]
            exact ⟨_, rfl, put 0 (fun _ => by unfold rsh; rw [if_neg y]; rfl)⟩) (fun kk u hI => by
        show f_HM_take_b30 k22 kk (nI k) (nI q) (nI 3) u = _
        rw [f_HM_take_b30, if_pos (show (3 : Int32) ≤ nI 3 by decide), nI_1]) (i := 0) (s := t) (by omega) (by omega) ⟨ht0, fun m _ => rfl, fun _ a ha => by omega⟩
      exact ⟨t', e, i1, i2, i3⟩
    obtain ⟨σ2, e2, i1, i2⟩ := lp_u0 (z := fun _ _ _ => none) (body := f_HM_take_b22) (fun kk q (t : St) => kk (nI k) (nI q) t) (fun j t => fr [78] [] [] σ1 t ∧ (∀ q, q < j → T 13 q ≠ 1000 → ∀ a, a < 3 → t.1 78 (3 * q + a) = nI (rsh D k q a))) 10 (fun t => some (1, t)) (fun kk q t hq hI => by
      obtain ⟨f1, f2⟩ := hI
      obtain ⟨t', g1, g2, g3, g4⟩ := inner kk q t hq f1
      refine ⟨t', ?_, g2, fun q' hq' h13 a ha => ?_⟩
      · show f_HM_take_b22 kk (nI k) (nI q) t = _
        rw [f_HM_take_b22, if_neg (show ¬ (10 : Int32) ≤ nI q from nI_ge (b := 10) hq (by decide)), g1]
      · by_cases x : q' = q
        · subst x; exact g4 h13 a ha
        · rw [g3 _ (by omega)]; exact f2 q' (by omega) h13 a ha) (fun kk t hI => by
      show f_HM_take_b22 kk (nI k) (nI 10) t = _
      rw [f_HM_take_b22, if_pos (show (10 : Int32) ≤ nI 10 by decide)]) (i := 0) (s := σ1) (by omega) (by omega) ⟨fr.rf, fun q hq => by omega⟩
    have hf : fr [51, 78] [] [] σ σ2 := (b2'.mo (by decide) (by decide) (by decide)).tr (i1.mo (by decide) (by decide) (by decide))
    refine ⟨1, σ1, σ2, rfl, ?_, ?_⟩
    · rw [rF, b2'.2.2.1 44 (by simp), rM0.1, q_inM _ (by omega), bd_s, if_neg d, if_neg i10]
      unfold f_HM_take_l22
      exact e2
    · have F : ∀ k, σ2.2.2.1 k = σ.2.2.1 k := fun k => hf.2.2.1 k (by simp)
      refine ⟨⟨a1.fr hf (by decide), ?_, ⟨by rw [F 9]; exact a3.1, by rw [F 10]; exact a3.2⟩, a4.fr hf (by decide) (by decide) (by decide) (by decide), n, T, rsh D k, R, D, hg.fr hf (by decide) (by decide), fun q a hq h13 ha => ?_, hr.fr hf (by decide) (by decide) (by decide) (by decide) (by decide) (by decide)⟩, b.fr hf (by decide) (by decide) (by decide) (by decide), ?_⟩
      · unfold iFnd at a2 ⊢
        rw [F 1, F 40]
        exact a2
      · have so := hg.so hq
        refine ⟨rsh_12 D k q a, ?_, i2 q hq h13 a (by omega)⟩
        rw [i1.1 51 (by simp)]
        exact b3 q a hq (by omega)
      · rw [F 0, F 42]; exact c
def kN (T : TT) (p : Nat) : Nat := if T 1 p = 0 then (if T 2 p < 50 then 4 else 5) else if T 1 p = 1 then 1 else if T 15 (T 3 p) ≤ 1 then 2 else 3
section
variable {σ : St} {n : Nat} {T : TT}
theorem kN_5 (T : TT) (p : Nat) : kN T p ≤ 5 ∧ 1 ≤ kN T p := by unfold kN; constructor <;> (repeat' split) <;> omega
theorem q_kindC (h : gI σ n T) {p : Nat} (hp : p < n) : f_Game_kindOf (rR σ 0) (nI p) σ = some (nI (kN T p), σ) := by
  have n60 := h.n60
  have k := (h.1.K hp).2
  have b1 : ib (nI p) 60 = true := ib_nI (by omega) (by decide)
  have e0 : (nI (T 1 p) = 0) ↔ T 1 p = 0 := nI_eq (b := 0) (by omega) (by decide)
  have e1 : (nI (T 1 p) = 1) ↔ T 1 p = 1 := nI_eq (b := 1) (by omega) (by decide)
  unfold f_Game_kindOf kN
  rw [h.g, ck_t, ck_p b1, h.C (by omega) (by omega) hp, nz_lt (by omega), ck_p b1, h.C (by omega) (by omega) hp, ck_p b1, ck_p b1, h.C (by omega) (by omega) hp]
  by_cases x0 : T 1 p = 0
  · rw [if_pos (e0.mpr x0), if_pos x0, nz_lt (show T 2 p < 1000 by omega)]
    have e5 : (nI (T 2 p) < 50) ↔ T 2 p < 50 := nI_ltI (b := 50) (by omega) (by decide)
    by_cases y : T 2 p < 50
    · rw [if_pos (e5.mpr y), if_pos y]; rfl
    · rw [if_neg (fun z => y (e5.mp z)), if_neg y]; rfl
  · rw [if_neg (fun z => x0 (e0.mp z)), if_neg x0]
    by_cases x1 : T 1 p = 1
    · rw [if_pos (e1.mpr x1), if_pos x1]; rfl
    · have t3 : T 3 p < 10 := by omega
      have t15 := t15_e h t3
      have e15 : (nI (T 15 (T 3 p)) ≤ 1) ↔ T 15 (T 3 p) ≤ 1 := nI_leI (b := 1) (by omega) (by decide)
      rw [if_neg (fun z => x1 (e1.mp z)), if_neg x1, nz_lt (show T 3 p < 1000 by omega), ck_p (ib_nI t3 (by decide)), h.S (by omega) (by omega) t3, nz_lt (by omega)]
      by_cases y : T 15 (T 3 p) ≤ 1
      · rw [if_pos (e15.mpr y), if_pos y]; rfl
      · rw [if_neg (fun z => y (e15.mp z)), if_neg y]; rfl
theorem q_kindM (h : gI σ n T) {p : Nat} (hp : p < n) : f_HM_kindOf (nI p) σ = some (nI (kN T p), σ) := by
  have n60 := h.n60
  have k := (h.1.K hp).2
  have b1 : ib (nI p) 120 = true := ib_nI (by omega) (by decide)
  have e0 : (nI (T 1 p) = 0) ↔ T 1 p = 0 := nI_eq (b := 0) (by omega) (by decide)
  have e1 : (nI (T 1 p) = 1) ↔ T 1 p = 1 := nI_eq (b := 1) (by omega) (by decide)
  have r1 : rI σ 67 (nI p) = nI (T 1 p) := by
    have : rI σ 67 (nI p) = nz (T 1 p) := h.M (j := 1) (by omega) (by omega) hp
    rw [this, nz_lt (by omega)]
  have r2 : rI σ 68 (nI p) = nz (T 2 p) := h.M (j := 2) (by omega) (by omega) hp
  have r3 : rI σ 69 (nI p) = nz (T 3 p) := h.M (j := 3) (by omega) (by omega) hp
  unfold f_HM_kindOf kN
  rw [ck_p b1, r1, ck_p b1, r2, ck_p b1, ck_p b1, r3]
  by_cases x0 : T 1 p = 0
  · rw [if_pos (e0.mpr x0), if_pos x0, nz_lt (show T 2 p < 1000 by omega)]
    have e5 : (nI (T 2 p) < 50) ↔ T 2 p < 50 := nI_ltI (b := 50) (by omega) (by decide)
    by_cases y : T 2 p < 50
    · rw [if_pos (e5.mpr y), if_pos y]; rfl
    · rw [if_neg (fun z => y (e5.mp z)), if_neg y]; rfl
  · rw [if_neg (fun z => x0 (e0.mp z)), if_neg x0]
    by_cases x1 : T 1 p = 1
    · rw [if_pos (e1.mpr x1), if_pos x1]; rfl
    · have t3 : T 3 p < 10 := by omega
      have t15 := t15_e h t3
      have e15 : (nI (T 15 (T 3 p)) ≤ 1) ↔ T 15 (T 3 p) ≤ 1 := nI_leI (b := 1) (by omega) (by decide)
      rw [if_neg (fun z => x1 (e1.mp z)), if_neg x1, nz_lt (show T 3 p < 1000 by omega), q_placesIn h t3, bd_s, ← t15.1]
      by_cases y : T 15 (T 3 p) ≤ 1
      · rw [if_pos (e15.mpr y), if_pos y]; rfl
      · rw [if_neg (fun z => y (e15.mp z)), if_neg y]; rfl
end
theorem st_kind (x1 : Int32) {σ : St} (hI : Inv σ) : stq (f_HG_kind x1) (f_HM_kind x1) σ := by
  obtain ⟨n, T, sh, R, D, hg, _, _⟩ := hI.1.2.2.2.2
  have n60 := hg.n60
  unfold stq f_HG_kind f_HM_kind
  rw [q_isPlaceC hg, bd_s]
  by_cases c : x1 < 0 ∨ nI n ≤ x1
  · rw [if_pos c, if_pos rfl]
    refine ⟨_, _, σ, rfl, ?_, hI⟩
    rw [q_isPlaceM hg, bd_s, if_pos c, if_pos rfl]
  · rw [if_neg c, if_neg i10]
    obtain ⟨p, hp, rfl⟩ := ixn (by omega) c
    rw [hg.g, ck_t, q_kindC hg hp, bd_s]
    refine ⟨_, σ, σ, rfl, ?_, hI⟩
    rw [q_isPlaceM hg, bd_s, if_neg c, if_neg i10, q_kindM hg hp, bd_s]
theorem Inv.taken {σ : St} (h : Inv σ) : Inv (stF (stF σ 1 0) 40 0) := h.found 0
theorem st_as (x1 x2 : Int32) {σ : St} (hI : Inv σ) : stq (f_HG_as x1 x2) (f_HM_as x1 x2) σ := by
  obtain ⟨n, T, sh, R, D, hg, _, _⟩ := hI.1.2.2.2.2
  have n60 := hg.n60
  have in05 : ∀ s, f_HM_in x2.toInt64 0 5 s = some (if x2 < 0 ∨ (6 : Int32) ≤ x2 then 0 else 1, s) := fun s => q_HM_inN x2 0 5 (by decide) (by decide) s
  have le5 : x2 ≤ 5 ↔ ¬ (6 : Int32) ≤ x2 := by
    have h3 : (6 : Int32).toInt = 6 := by decide
    have h2 : (5 : Int32).toInt = 5 := by decide
    rw [fa_le, fa_le, h2, h3]
    omega
  unfold stq f_HG_as f_HM_as
  rw [q_isPlaceC hg, bd_s]
  by_cases c : x1 < 0 ∨ nI n ≤ x1
  · rw [if_pos c, if_pos rfl]
    refine ⟨_, _, σ, rfl, ?_, hI⟩
    rw [q_isPlaceM hg, bd_s, if_pos c, if_pos rfl]
  · rw [if_neg c, if_neg i10]
    obtain ⟨p, hp, rfl⟩ := ixn (by omega) c
    have b1 : ib (nI p) 60 = true := ib_nI (by omega) (by decide)
    have b2 : ib (nI p) 120 = true := ib_nI (by omega) (by decide)
    by_cases d : x2 < 0 ∨ (6 : Int32) ≤ x2
    · have : ∀ A : Option (Int64 × St), (if x2 < 0 then some ((-9000000000000000001 : Int64), σ) else if x2 ≤ 5 then A else some (-9000000000000000001, σ)) = some (-9000000000000000001, σ) := by
        intro A
        by_cases y : x2 < 0
        · rw [if_pos y]
        · rw [if_neg y, if_neg (fun z => (le5.mp z) (d.resolve_left y))]
      rw [this]
      refine ⟨_, _, σ, rfl, ?_, hI⟩
      rw [q_isPlaceM hg, bd_s, if_neg c, if_neg i10, in05, bd_s, if_pos d, if_pos rfl]
    · rw [if_neg (fun z => d (Or.inl z)), if_pos (le5.mpr (fun z => d (Or.inr z)))]
      obtain ⟨k, hk, rfl⟩ := ixn (x := x2) (n := 6) (by decide) d
      have k5 := kN_5 T p
      obtain ⟨t, ht⟩ : ∃ t, kN T p = t := ⟨_, rfl⟩
      rw [ht] at k5
      have ek : ∀ j, j < 10 → ∀ i, i < 10 → ((nI i = nI j) ↔ i = j) := fun j hj i hi => nI_eq (by omega) (by omega)
      obtain ⟨ok, hok⟩ : ∃ ok : Prop, ok = (k = t ∨ k = 0 ∨ (k = 2 ∧ t = 3) ∨ (k = 4 ∧ t = 5)) := ⟨_, rfl⟩
      have d1 : Decidable ok := by rw [hok]; infer_instance
      have C : f_Game_isOfKind (rR σ 0) (nI p) (nI k) σ = some (if ok then 1 else 0, σ) := by
        unfold f_Game_isOfKind f_Game_isOfKind_b25 f_Game_isOfKind_b35
        rw [hg.g, ck_t, q_kindC hg hp, bd_s, ht]
        have kk : k = 0 ∨ k = 1 ∨ k = 2 ∨ k = 3 ∨ k = 4 ∨ k = 5 := by omega
        have tt : t = 1 ∨ t = 2 ∨ t = 3 ∨ t = 4 ∨ t = 5 := by omega
        by_cases o : ok
        · rw [if_pos o]
          rw [hok] at o
          rcases kk with rfl | rfl | rfl | rfl | rfl | rfl <;> rcases tt with rfl | rfl | rfl | rfl | rfl <;> first | (exfalso; omega) | rfl
        · rw [if_neg o]
          rw [hok] at o
          rcases kk with rfl | rfl | rfl | rfl | rfl | rfl <;> rcases tt with rfl | rfl | rfl | rfl | rfl <;> first | (exfalso; omega) | rfl
      have M : ∀ s : St, (if nI k = 0 then (f_HM_as_b59 (nI p) s) else (if nI k = nI t then (f_HM_as_b59 (nI p) s) else (if nI k = 2 then (if nI t = 3 then (f_HM_as_b59 (nI p) s) else (f_HM_as_b49 (nI p) (nI k) (nI t) s)) else (f_HM_as_b49 (nI p) (nI k) (nI t) s)))) = if ok then f_HM_as_b59 (nI p) s else f_HM_as_b63 (nI p) s := by
        intro s
        unfold f_HM_as_b49
        have kk : k = 0 ∨ k = 1 ∨ k = 2 ∨ k = 3 ∨ k = 4 ∨ k = 5 := by omega
        have tt : t = 1 ∨ t = 2 ∨ t = 3 ∨ t = 4 ∨ t = 5 := by omega
        by_cases o : ok
        · rw [if_pos o]
          rw [hok] at o
          rcases kk with rfl | rfl | rfl | rfl | rfl | rfl <;> rcases tt with rfl | rfl | rfl | rfl | rfl <;> first | (exfalso; omega) | rfl
        · rw [if_neg o]
          rw [hok] at o
          rcases kk with rfl | rfl | rfl | rfl | rfl | rfl <;> rcases tt with rfl | rfl | rfl | rfl | rfl <;> first | (exfalso; omega) | rfl
      rw [hg.g, ck_t, C, bd_s]
      have r6 : rI σ (rR σ 0 + 6) (nI p) = nz (T 6 p) := hg.C (by omega) (by omega) hp
      by_cases o : ok
      · rw [if_pos o, if_neg i10, hg.g, ck_t, ck_p b1, r6, q_fine, bd_s]
        refine ⟨_, stF σ 1 0, stF (stF σ 1 0) 40 0, rfl, ?_, hI.taken⟩
        have hg' : gI (stF σ 1 0) n T := hg.fr (fr.rf.F (ka := []) (kl := []) (kf := [1]) (by decide) 0) (by decide) (by decide)
        have r74 : rI (stF σ 1 0) 74 (nI p) = nz (T 6 p) := hg'.M (j := 6) (by omega) (by omega) hp
        rw [q_isPlaceM hg', bd_s, if_neg c, if_neg i10, in05, bd_s, if_neg d, if_neg i10, q_kindM hg' hp, bd_s, ht, M, if_pos o, f_HM_as_b59, f_HM_as_b64, if_neg i10, ck_p b2, r74, q_mtaken, bd_s]
      · rw [if_neg o, if_pos rfl, q_found, bd_s]
        refine ⟨_, stF σ 1 3, stF (stF σ 1 3) 40 3, rfl, ?_, hI.found 3⟩
        have hg' : gI (stF σ 1 3) n T := hg.fr (fr.rf.F (ka := []) (kl := []) (kf := [1]) (by decide) 3) (by decide) (by decide)
        rw [q_isPlaceM hg', bd_s, if_neg c, if_neg i10, in05, bd_s, if_neg d, if_neg i10, q_kindM hg' hp, bd_s, ht, M, if_neg o, f_HM_as_b63, f_HM_as_b64, if_pos rfl, q_mfound, bd_s]
theorem st_fault {σ : St} (hI : Inv σ) : sti f_HG_fault f_HM_fault σ := ⟨_, σ, σ, rfl, by unfold f_HM_fault; rw [rF, rF, hI.2.2], hI⟩
theorem st_status {σ : St} (hI : Inv σ) : sti f_HG_status f_HM_status σ := ⟨_, σ, σ, rfl, by unfold f_HM_status; rw [rF, rF, hI.1.2.1], hI⟩
theorem st_trace (x1 : Int32) {σ : St} (hI : Inv σ) : sti (f_HG_trace x1) (f_HM_trace x1) σ := by
  obtain ⟨m, m16, e1, e2, e3⟩ := hI.1.2.2.2.1
  unfold sti f_HG_trace f_HM_trace f_HG_trace_b15
  rw [rF, e1]
  by_cases d : x1 < 0 ∨ nI m ≤ x1
  · have : ∀ A : Option (Int32 × St), (if x1 < 0 then some ((-1000000 : Int32), σ) else if x1 < nI m then A else some (-1000000, σ)) = some (-1000000, σ) := by
      intro A
      by_cases y : x1 < 0
      · rw [if_pos y]
      · rw [if_neg y, if_neg (fun z => (fa_of_lt z).2.1 (d.resolve_left y))]
    rw [this]
    refine ⟨_, σ, σ, rfl, ?_, hI⟩
    rw [rF, e2, q_inM _ (by omega), bd_s, if_pos d, if_pos rfl]
  · obtain ⟨i, hi, rfl⟩ := ixn (x := x1) (n := m) (by omega) d
    have b1 : ib (nI i) 16 = true := ib_nI (by omega) (by decide)
    rw [if_neg (fun z => d (Or.inl z)), if_pos (nI_lt hi (by omega)), ck_p b1]
    refine ⟨_, σ, σ, rfl, ?_, hI⟩
    rw [rF, e2, q_inM _ (by omega), bd_s, if_neg d, if_neg i10, ck_p b1, rI, rI, nI_clamp (by omega), e3 i hi]
