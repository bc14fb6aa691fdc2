theorem hxN : ∀ k, k < 2 → ((nI k = (-1000000 : Int32)) ↔ k = 5) := by
  intro k hk
  exact ⟨fun z => absurd z (nz_neg k (by omega)), fun z => by omega⟩
theorem hxM : ∀ k, k < 2 → ((nI k = (-1 : Int32)) ↔ k = 5) := by
  intro k hk
  have : k = 0 ∨ k = 1 := by omega
  rcases this with rfl | rfl <;> decide
theorem hxw {w : Nat} (hw : w < 2) : ∀ k, k < 2 → ((nI k = nI w) ↔ k = w) := fun k hk => nI_eq (by omega) (by omega)
def vl (T : TT) (c : Nat → Int64) (n : Nat) : Int64 := sL (fun p => if T 1 p = 0 then (nz (T 2 p)).toInt64 * c p else 0) n
theorem sL_cg {f g : Nat → Int64} : ∀ n, (∀ i, i < n → f i = g i) → sL f n = sL g n
  | 0, _ => rfl
  | n + 1, h => by
    unfold sL
    rw [sL_cg n (fun i hi => h i (by omega)), h n (by omega)]
section
variable {σ : St} {n : Nat} {T : TT} {sh : Nat → Nat → Nat}
theorem fr_46 {σ σ' : St} (h : fr [] [46] [] σ σ') : fr scA scL scF σ σ' := h.mo (by simp) (by decide) (by simp)
theorem fr_84 {σ σ' : St} (h : fr [] [84] [] σ σ') : fr scA scL scF σ σ' := h.mo (by simp) (by decide) (by simp)
theorem q_plan4 (h : gI σ n T) (hp : pI σ T sh) {lo : Nat} {x2 : Int32} (hx : ∀ k, k < 2 → ((nI k = x2) ↔ k = lo)) : ∃ σ', f_Plan_workOut 4 (rR σ 0) x2 46 σ = some σ' ∧ fr [] [46] [] σ σ' ∧ ∀ p, p < n → σ'.2.1 46 p = rc T (prt T sh lo) p := q_workOut h rfl rfl hx (fun s c x y z => (hp s c x y z).2.1)
theorem q_planM (h : gI σ n T) (hp : pI σ T sh) {lo : Nat} {x1 : Int32} (hx : ∀ k, k < 2 → ((nI k = x1) ↔ k = lo)) : ∃ σ', f_HM_layReach x1 (-1) σ = some σ' ∧ fr [] [84] [] σ σ' ∧ ∀ p, p < n → σ'.2.1 84 p = rc T (prt T sh lo) p := q_layReach h (fun t e1 e2 p p0 hpn => q_shareTo (h.L e1 e2) hx (Or.inl ⟨rfl, fun s c x y z => by rw [e1]; exact (hp s c x y z).2.2⟩) p0 hpn)
theorem q_valC (h : gI σ n T) (hp : pI σ T sh) : ∃ σ', f_HG_valueOfPlan σ = some (vl T (rc T (prt T sh 5)) n, σ') ∧ fr [] [46] [] σ σ' := by
  have n60 := h.n60
  obtain ⟨σ1, a1, a2, a3⟩ := q_plan4 h hp hxN
  obtain ⟨e1, e2⟩ := frL_tt a2
  have h1 := h.L e1 e2
  unfold f_HG_valueOfPlan f_HG_valueOfPlan_l21
  rw [a1, bv_s]
  have key : ∀ (k : Int64 → Int32 → St → Option (Int64 × St)) (i : Nat), i < n → f_HG_valueOfPlan_b21 k (vl T (rc T (prt T sh 5)) i) (nI i) σ1 = k (vl T (rc T (prt T sh 5)) (i + 1)) (nI (i + 1)) σ1 := by
    intro k i hi
    have b1 : ib (nI i) 60 = true := ib_nI (by omega) (by decide)
    have kk := (h.1.K hi).2
    have r1 : rI σ1 (rR σ1 0 + 1) (nI i) = nI (T 1 i) := by rw [h1.C (by omega) (by omega) hi, nz_lt (by omega)]
    have r2 : rI σ1 (rR σ1 0 + 2) (nI i) = nz (T 2 i) := h1.C (by omega) (by omega) hi
    have i0 : (nI (T 1 i) = 0) ↔ T 1 i = 0 := nI_eq (b := 0) (by omega) (by decide)
    have vv : rL σ1 46 (nI i) = rc T (prt T sh 5) i := by rw [rL, nI_clamp (by omega)]; exact a3 i hi
    unfold f_HG_valueOfPlan_b21 f_HG_valueOfPlan_b64
    rw [h1.g, ck_t, h1.c1, if_neg (nI_ge hi (by omega)), ck_p b1, r1, r2, vv, nI_1]
    show _ = k (vl T (rc T (prt T sh 5)) i + if T 1 i = 0 then (nz (T 2 i)).toInt64 * rc T (prt T sh 5) i else 0) (nI (i + 1)) σ1
    by_cases c : T 1 i = 0
    · rw [if_pos (i0.mpr c), if_pos c, ck_p b1, ck_p b1]
    · rw [if_neg (fun z => c (i0.mp z)), if_neg c, Int64.add_zero]
  obtain ⟨t, e, ht⟩ := lp_u0 (z := fun _ _ _ => none) (body := f_HG_valueOfPlan_b21) (fun k i (t : St) => k (vl T (rc T (prt T sh 5)) i) (nI i) t) (fun i t => t = σ1) n (fun t => some (vl T (rc T (prt T sh 5)) n, t)) (fun k i t hi hI => by
    subst hI
    exact ⟨t, key k i hi, rfl⟩) (fun k t hI => by
    subst hI
    show f_HG_valueOfPlan_b21 k _ (nI n) t = _
    unfold f_HG_valueOfPlan_b21
    rw [h1.g, ck_t, h1.c1, if_pos (nI_le (Nat.le_refl _) (by omega))]) (i := 0) (s := σ1) (by omega) (Nat.zero_le _) rfl
  rw [ht] at e
  exact ⟨σ1, e, a2⟩
theorem q_valM (h : gI σ n T) (hp : pI σ T sh) : ∃ σ', f_HM_valueNow σ = some (vl T (rc T (prt T sh 5)) n, σ') ∧ fr [] [84] [] σ σ' := by
  have n60 := h.n60
  obtain ⟨σ1, a1, a2, a3⟩ := q_planM h hp hxM
  obtain ⟨e1, e2⟩ := frL_tt a2
  have h1 := h.L e1 e2
  unfold f_HM_valueNow f_HM_valueNow_l10
  rw [a1, bv_s]
  have key : ∀ (k : Int64 → Int32 → St → Option (Int64 × St)) (i : Nat), i < n → f_HM_valueNow_b10 k (vl T (rc T (prt T sh 5)) i) (nI i) σ1 = k (vl T (rc T (prt T sh 5)) (i + 1)) (nI (i + 1)) σ1 := by
    intro k i hi
    have b1 : ib (nI i) 60 = true := ib_nI (by omega) (by decide)
    have b2 : ib (nI i) 120 = true := ib_nI (by omega) (by decide)
    have kk := (h.1.K hi).2
    have r1 : rI σ1 67 (nI i) = nI (T 1 i) := by
      have : rI σ1 67 (nI i) = nz (T 1 i) := h1.M (j := 1) (by omega) (by omega) hi
      rw [this, nz_lt (by omega)]
    have r2 : rI σ1 68 (nI i) = nz (T 2 i) := h1.M (j := 2) (by omega) (by omega) hi
    have i0 : (nI (T 1 i) = 0) ↔ T 1 i = 0 := nI_eq (b := 0) (by omega) (by decide)
    have vv : rL σ1 84 (nI i) = rc T (prt T sh 5) i := by rw [rL, nI_clamp (by omega)]; exact a3 i hi
    unfold f_HM_valueNow_b10 f_HM_valueNow_b46
    rw [h1.c2, if_neg (nI_ge hi (by omega)), ck_p b2, r1, r2, vv, nI_1]
    show _ = k (vl T (rc T (prt T sh 5)) i + if T 1 i = 0 then (nz (T 2 i)).toInt64 * rc T (prt T sh 5) i else 0) (nI (i + 1)) σ1
    by_cases c : T 1 i = 0
    · rw [if_pos (i0.mpr c), if_pos c, ck_p b2, ck_p b1]
    · rw [if_neg (fun z => c (i0.mp z)), if_neg c]
  obtain ⟨t, e, ht⟩ := lp_u0 (z := fun _ _ _ => none) (body := f_HM_valueNow_b10) (fun k i (t : St) => k (vl T (rc T (prt T sh 5)) i) (nI i) t) (fun i t => t = σ1) n (fun t => some (vl T (rc T (prt T sh 5)) n, t)) (fun k i t hi hI => by
    subst hI
    exact ⟨t, key k i hi, rfl⟩) (fun k t hI => by
    subst hI
    show f_HM_valueNow_b10 k _ (nI n) t = _
    unfold f_HM_valueNow_b10
    rw [h1.c2, if_pos (nI_le (Nat.le_refl _) (by omega))]) (i := 0) (s := σ1) (by omega) (Nat.zero_le _) rfl
  rw [ht] at e
  exact ⟨σ1, e, a2⟩
theorem q_hasGame (h : gI σ n T) : f_HG_hasGame σ = some (if n = 0 then 0 else 1, σ) := by
  have n60 := h.n60
  unfold f_HG_hasGame
  rw [h.g, ck_t, h.c1]
  by_cases c : n = 0
  · rw [if_pos c, c, if_pos (by decide)]
  · rw [if_neg c, if_neg (nI_nle (by omega) (by omega))]
theorem n0_M (h : gI σ n T) : (rF σ 43 = 0) ↔ n = 0 := by
  have n60 := h.n60
  rw [h.c2]
  exact nI_eq (b := 0) (by omega) (by decide)
end
theorem st_value {σ : St} (hI : Inv σ) : stq f_HG_value f_HM_value σ := by
  obtain ⟨n, T, sh, R, D, hg, hp, _⟩ := hI.1.2.2.2.2
  unfold stq f_HG_value f_HM_value
  rw [q_hasGame hg, bd_s]
  by_cases c : n = 0
  · rw [if_pos c, if_pos rfl]
    refine ⟨_, σ, σ, rfl, ?_, hI⟩
    rw [if_pos ((n0_M hg).mpr c)]
  · rw [if_neg c, if_neg i10]
    obtain ⟨σ1, a1, a2⟩ := q_valC hg hp
    have f1 := fr_46 a2
    obtain ⟨σ2, b1, b2⟩ := q_valM (hg.sc f1) (hp.sc f1)
    rw [a1, bd_s]
    refine ⟨_, σ1, σ2, rfl, ?_, (hI.sc f1).sc (fr_84 b2)⟩
    rw [if_neg (fun z => c ((n0_M (hg.sc f1)).mp z)), b1, bd_s]
theorem in02 (x : Int32) (σ : St) : f_HM_in x.toInt64 0 2 σ = some (if x < 0 ∨ (3 : Int32) ≤ x then 0 else 1, σ) := q_HM_inN x 0 2 (by decide) (by decide) σ
theorem in01 (x : Int32) (σ : St) : f_HM_in x.toInt64 0 1 σ = some (if x < 0 ∨ (2 : Int32) ≤ x then 0 else 1, σ) := q_HM_inN x 0 1 (by decide) (by decide) σ
theorem le_lt2 {x : Int32} : x ≤ 2 ↔ ¬ (3 : Int32) ≤ x := by
  have h3 : (3 : Int32).toInt = 3 := by decide
  have h2 : (2 : Int32).toInt = 2 := by decide
  rw [fa_le, fa_le, h2, h3]
  omega
theorem le_lt1 {x : Int32} : x ≤ 1 ↔ ¬ (2 : Int32) ≤ x := by
  have h3 : (1 : Int32).toInt = 1 := by decide
  have h2 : (2 : Int32).toInt = 2 := by decide
  rw [fa_le, fa_le, h2, h3]
  omega
theorem st_reach (x1 x2 : Int32) {σ : St} (hI : Inv σ) : stq (f_HG_reach x1 x2) (f_HM_reach x1 x2) σ := by
  obtain ⟨n, T, sh, R, D, hg, hp, _⟩ := hI.1.2.2.2.2
  have n60 := hg.n60
  unfold stq f_HG_reach f_HM_reach
  rw [q_isPlaceC hg, bd_s]
  by_cases c : x1 < 0 ∨ nI n ≤ x1
  · rw [if_pos c, if_pos rfl]
    refine ⟨_, _, σ, rfl, ?_, hI⟩
    rw [q_isPlaceM hg, bd_s, if_pos c, if_pos rfl]
  · rw [if_neg c, if_neg i10]
    by_cases d : x2 < 0 ∨ (3 : Int32) ≤ x2
    · have : (if x2 < 0 then some ((-9000000000000000001 : Int64), σ) else if x2 ≤ 2 then if x2 = 0 then ck (isG (rR σ 0)) (f_HG_reach_b41 x1 (rR σ 0) (-1000000) σ) else ck (isG (rR σ 0)) (f_HG_reach_b41 x1 (rR σ 0) (x2 - 1) σ) else some (-9000000000000000001, σ)) = some (-9000000000000000001, σ) := by
        by_cases y : x2 < 0
        · rw [if_pos y]
        · rw [if_neg y, if_neg (fun z => (le_lt2.mp z) (d.resolve_left y))]
      rw [this]
      refine ⟨_, _, σ, rfl, ?_, hI⟩
      rw [q_isPlaceM hg, bd_s, if_neg c, if_neg i10, in02, bd_s, if_pos d, if_pos rfl]
    · obtain ⟨p, hpn, rfl⟩ := ixn (by omega) c
      have b1 : ib (nI p) 60 = true := ib_nI (by omega) (by decide)
      rw [if_neg (fun z => d (Or.inl z)), if_pos (le_lt2.mpr (fun z => d (Or.inr z))), hg.g, ck_t, ck_t]
      obtain ⟨k, hk, rfl⟩ := ixn (x := x2) (n := 3) (by decide) d
      have main : ∀ (xa xb : Int32) (lo : Nat), (∀ k, k < 2 → ((nI k = xa) ↔ k = lo)) → (∀ k, k < 2 → ((nI k = xb) ↔ k = lo)) → nI k - 1 = xb → ∃ r σ1 σ2, f_HG_reach_b41 (nI p) (rR σ 0) xa σ = some (r, σ1) ∧ (bd (f_HM_isPlace (nI p) σ1) fun r3 σ2 => if r3 = 0 then (some ((-9000000000000000001), σ2)) else (bd (f_HM_in (nI k).toInt64 0 2 σ2) fun r7 σ6 => if r7 = 0 then (some ((-9000000000000000001), σ6)) else (bv (f_HM_layReach (nI k - 1) ((-1)) σ6) fun σ10 => ck (ib (nI p) 60) <| some (rL σ10 84 (nI p), σ10)))) = some (r, σ2) ∧ Inv σ2 := by
        intro xa xb lo ha hb hk1
        obtain ⟨σ1, a1, a2, a3⟩ := q_plan4 hg hp ha
        have f1 := fr_46 a2
        obtain ⟨σ2, m1, m2, m3⟩ := q_planM (hg.sc f1) (hp.sc f1) hb
        refine ⟨rc T (prt T sh lo) p, σ1, σ2, ?_, ?_, (hI.sc f1).sc (fr_84 m2)⟩
        · unfold f_HG_reach_b41
          rw [a1, bv_s, ck_p b1, rL, nI_clamp (by omega), a3 p hpn]
        · rw [q_isPlaceM (hg.sc f1), bd_s, if_neg c, if_neg i10, in02, bd_s, if_neg d, if_neg i10, hk1, m1, bv_s, ck_p b1, rL, nI_clamp (by omega), m3 p hpn]
      have : k = 0 ∨ k = 1 ∨ k = 2 := by omega
      rcases this with rfl | rfl | rfl
      · rw [if_pos (show nI 0 = (0 : Int32) from rfl)]
        exact main _ _ 5 hxN hxM (by decide)
      · rw [if_neg (by decide)]
        exact main _ _ 0 (hxw (w := 0) (by omega)) (hxw (w := 0) (by omega)) (by decide)
      · rw [if_neg (by decide)]
        exact main _ _ 1 (hxw (w := 1) (by omega)) (hxw (w := 1) (by omega)) (by decide)
theorem st_share (x1 x2 : Int32) {σ : St} (hI : Inv σ) : stq (f_HG_share x1 x2) (f_HM_share x1 x2) σ := by
  obtain ⟨n, T, sh, R, D, hg, hp, _⟩ := hI.1.2.2.2.2
  unfold stq f_HG_share f_HM_share
  rcases q_isAct hg x1 x2 with ⟨s, a, hs, rfl, h13, ha, rfl, e1, e2, e3⟩ | ⟨e1, e2⟩
  · have so := hg.so hs
    obtain ⟨p1, p2, p3⟩ := hp s a hs (by omega) ha
    have b2 : ib (nI s) 20 = true := ib_nI (by omega) (by decide)
    have b3 : ib (nI (3 * s + a)) 30 = true := ib_nI (by omega) (by decide)
    rw [e1, bd_s, if_neg i10]
    unfold f_Plan_shareOf
    rw [show isP 4 = true from rfl, ck_t, show nI s * 3 + nI a = nI (3 * s + a) by rw [show (3 : Int32) = nI 3 from rfl, pk_mul, nI_add, Nat.mul_comm], ck_p b3, bd_s, rI, nI_clamp (by omega)]
    refine ⟨_, σ, σ, rfl, ?_, hI⟩
    rw [e2, bd_s, if_neg i10, ck_p b2, e3, bd_s, if_neg i10, show 3 * nI s + nI a = nI (3 * s + a) by rw [show (3 : Int32) = nI 3 from rfl, pk_mul, nI_add], ck_p b3, rI, nI_clamp (by omega), p3]
    show _ = some ((σ.1 51 (3 * s + a)).toInt64, σ)
    rw [p2]
  · rw [e1, bd_s, if_pos rfl]
    refine ⟨_, σ, σ, rfl, ?_, hI⟩
    rcases e2 with e2 | ⟨s, hs, rfl, e2, e3⟩
    · rw [e2, bd_s, if_pos rfl]
    · have b2 : ib (nI s) 20 = true := ib_nI (by omega) (by decide)
      rw [e2, bd_s, if_neg i10, ck_p b2, e3, bd_s, if_pos rfl]
