/-! reach -/
theorem gI.sc {σ σ' : St} {n : Nat} {T : TT} (h : gI σ n T) (hf : fr scA scL scF σ σ') : gI σ' n T := by
  obtain ⟨k1, k2, k3, k4, k5, k6, k7⟩ := kp_sc h hf
  obtain ⟨g1, g2, g3, g4⟩ := h
  exact ⟨g1, by rw [k7]; exact g2, by rw [k7]; exact g3.cg k3 k6, g4.kp g1 k2 (k5 43 (by decide))⟩
theorem pI.sc {σ σ' : St} {T : TT} {sh : Nat → Nat → Nat} (h : pI σ T sh) (hf : fr scA scL scF σ σ') : pI σ' T sh := fun s a x y z => by
  rw [hf.1 51 (by decide), hf.1 78 (by decide)]; exact h s a x y z
theorem rdI.sc {σ σ' : St} {n : Nat} {T : TT} {R : Nat} {D : Nat → Nat → Nat} (h : rdI σ n T R D) (hf : fr scA scL scF σ σ') : rdI σ' n T R D := by
  obtain ⟨r1, r2, r3, r4, r5, r6⟩ := h
  refine ⟨r1, by rw [hf.2.2.1 11 (by decide)]; exact r2, by rw [hf.2.2.1 44 (by decide)]; exact r3, r4, fun r s x y => ?_, fun w p x y => ?_⟩
  · rw [hf.1 58 (by decide), hf.1 79 (by decide)]; exact r5 r s x y
  · have : w = 0 ∨ w = 1 := by omega
    rcases this with rfl | rfl
    · rw [hf.2.1 59 (by decide)]; exact r6 0 p x y
    · rw [hf.2.1 60 (by decide)]; exact r6 1 p x y
theorem gI.L {σ t : St} {n : Nat} {T : TT} (h : gI σ n T) (h1 : t.1 = σ.1) (h2 : t.2.2 = σ.2.2) : gI t n T := by
  obtain ⟨a, b, c⟩ := t
  simp only at h1 h2
  subst h1 h2
  exact h
theorem rc_s {T : TT} {pt : Nat → Nat} {p : Nat} (h : T 5 p < p) : rc T pt p = rc T pt (T 5 p) / 12 * (nI (pt p)).toInt64 := by rw [rc, dif_pos h]
theorem rc_0 (T : TT) (pt : Nat → Nat) : rc T pt 0 = 429981696 := by rw [rc, dif_neg (by omega)]
theorem frL_tt {a : Nat} {σ t : St} (h : fr [] [a] [] σ t) : t.1 = σ.1 ∧ t.2.2 = σ.2.2 := by
  refine ⟨funext fun k => h.1 k (by simp), Prod.ext (funext fun k => h.2.2.1 k (by simp)) h.2.2.2⟩
section
variable {σ : St} {n : Nat} {T : TT}
/-- what is above a place isn't an end -/
theorem ab_ok (h : wf n T) {p : Nat} (hp : p < n) (p0 : 0 < p) : T 5 p < p ∧ T 7 p < 4 ∧ (T 1 (T 5 p) = 1 ∨ ((T 1 (T 5 p) = 2 ∨ T 1 (T 5 p) = 3) ∧ T 3 (T 5 p) < 10 ∧ T 13 (T 3 (T 5 p)) = T 1 (T 5 p) - 2 ∧ T 7 p < T 14 (T 3 (T 5 p)) ∧ T 14 (T 3 (T 5 p)) ≤ 3)) ∧ (T 1 (T 5 p) = 1 → T 8 p ≤ 11) := by
  obtain ⟨a1, a2, a3, a4, _⟩ := h.A hp p0
  have k := (h.K (show T 5 p < n by omega)).2
  have k4 := wK4 (h.K (show T 5 p < n by omega))
  refine ⟨a1, by omega, by omega, fun e => (a4 e).2⟩
theorem q_workOut {q lo a : Nat} {x2 : Int32} {sh : Nat → Nat → Nat} (h : gI σ n T) (hq : isP q = true) (ha : isL a = true) (hx : ∀ k, k < 2 → ((nI k = x2) ↔ k = lo)) (hp : ∀ s c, s < 10 → T 13 s ≠ 1000 → c < T 14 s → σ.1 (q + 47) (3 * s + c) = nI (sh s c)) : ∃ σ', f_Plan_workOut q (rR σ 0) x2 a σ = some σ' ∧ fr [] [a] [] σ σ' ∧ ∀ p, p < n → σ'.2.1 a p = rc T (prt T sh lo) p := by
  have n60 := h.n60
  unfold f_Plan_workOut f_Plan_workOut_l9
  rw [hq, ck_t, h.g, ck_t, ha, ck_t, ck_p (show ib 0 60 = true by decide), lE_d]
  generalize hgE : rR σ 0 = g
  have key : ∀ (k : Int32 → Int32 → St → Option St) (i : Nat) (t : St), 0 < i → i < n → fr [] [a] [] σ t → (∀ p, p < i → t.2.1 a p = rc T (prt T sh lo) p) → f_Plan_workOut_b9 q g a k x2 (nI i) t = k x2 (nI (i + 1)) (stL t a i (rc T (prt T sh lo) i)) := by
    intro k i t i0 hi hf hv
    obtain ⟨e1, e2⟩ := frL_tt hf
    have ht := h.L e1 e2
    have hgt : rR t 0 = g := by rw [← hgE]; show t.2.2.2 0 = _; rw [e2]
    obtain ⟨a1, a7, ac, a8⟩ := ab_ok h.1 hi i0
    have an : T 5 i < n := by omega
    have r5 : rI t (g + 5) (nI i) = nI (T 5 i) := by
      have := ht.C (j := 5) (by omega) (by omega) hi
      rw [hgt, nz_lt (by omega)] at this
      exact this
    have r1 : rI t (g + 1) (nI (T 5 i)) = nI (T 1 (T 5 i)) := by
      have := ht.C (j := 1) (by omega) (by omega) an
      rw [hgt, nz_lt (by omega)] at this
      exact this
    have b1 : ib (nI i) 60 = true := ib_nI (by omega) (by decide)
    have b2 : ib (nI (T 5 i)) 60 = true := ib_nI (by omega) (by decide)
    have cc : rF t (g + 10) = nI n := by
      have := ht.c1
      rw [hgt] at this
      exact this
    have vv : rL t a (nI (T 5 i)) = rc T (prt T sh lo) (T 5 i) := by rw [rL, nI_clamp (by omega)]; exact hv _ a1
    have fin : ∀ x, x = nI (prt T sh lo i) → f_Plan_workOut_b87 q g a k x2 (nI i) (nI (T 5 i)) x t = k x2 (nI (i + 1)) (stL t a i (rc T (prt T sh lo) i)) := by
      intro x hx
      unfold f_Plan_workOut_b87
      rw [ck_p b2, ck_p b1, vv, lE_d, nI_clamp (by omega), nI_1, hx, ← rc_s a1]
    unfold f_Plan_workOut_b9
    rw [if_neg (by rw [cc]; exact nI_ge hi (by omega)), ck_p b1, r5, ck_p b2, r1]
    have i1 : (nI (T 1 (T 5 i)) = 1) ↔ T 1 (T 5 i) = 1 := nI_eq (b := 1) (by omega) (by decide)
    by_cases c1 : T 1 (T 5 i) = 1
    · have r8 : rI t (g + 8) (nI i) = nI (T 8 i) := by
        have := ht.C (j := 8) (by omega) (by omega) hi
        have := a8 c1
        rw [hgt, nz_lt (by omega)] at *
        assumption
      rw [if_pos (i1.mpr c1), ck_p b1, r8]
      exact fin _ (by unfold prt; rw [if_pos c1])
    · rw [if_neg (fun z => c1 (i1.mp z)), ck_p b2, show nI (T 1 (T 5 i)) - 2 = nI (T 1 (T 5 i) - 2) from pk_sub (b := 2) (by omega)]
      have hx2 := hx (T 1 (T 5 i) - 2) (by omega)
      by_cases c2 : T 1 (T 5 i) = 2 + lo
      · rw [if_pos (hx2.mpr (by omega))]
        exact fin _ (by unfold prt; rw [if_neg c1, if_pos c2]; rfl)
      · rw [if_neg (fun z => c2 (by have := hx2.mp z; omega)), ck_p b2, ck_p b1]
        have hs : T 3 (T 5 i) < 10 := by omega
        have r3 : rI t (g + 3) (nI (T 5 i)) = nI (T 3 (T 5 i)) := by
          have := ht.C (j := 3) (by omega) (by omega) an
          rw [hgt, nz_lt (by omega)] at this
          exact this
        have r7 : rI t (g + 7) (nI i) = nI (T 7 i) := by
          have := ht.C (j := 7) (by omega) (by omega) hi
          rw [hgt, nz_lt (by omega)] at this
          exact this
        have es : f_Plan_shareOf q (nI (T 3 (T 5 i))) (nI (T 7 i)) t = some (nI (sh (T 3 (T 5 i)) (T 7 i)), t) := by
          unfold f_Plan_shareOf
          rw [hq, ck_t, show nI (T 3 (T 5 i)) * 3 + nI (T 7 i) = nI (3 * T 3 (T 5 i) + T 7 i) by rw [show (3 : Int32) = nI 3 from rfl, pk_mul, nI_add, Nat.mul_comm], ck_p (ib_nI (show 3 * T 3 (T 5 i) + T 7 i < 30 by omega) (by decide)), rI, nI_clamp (by omega), e1, hp _ _ hs (by omega) (by omega)]
        rw [r3, r7, es, bd_s]
        exact fin _ (by unfold prt; rw [if_neg c1, if_neg c2])
  obtain ⟨σ', e, i1, i2⟩ := lp_u0 (z := fun _ _ _ => none) (body := f_Plan_workOut_b9 q g a) (fun k i (t : St) => k x2 (nI i) t) (fun i t => fr [] [a] [] σ t ∧ (∀ p, p < i → t.2.1 a p = rc T (prt T sh lo) p) ∧ 0 < i) (max n 1) (fun t => some t) (fun k i t hi hI => by
    obtain ⟨f1, f2, f3⟩ := hI
    refine ⟨_, key k i t f3 (by omega) f1 f2, f1.L (by simp) _ _, fun p hp => ?_, by omega⟩
    rw [sL2, if_pos rfl, updLD]
    by_cases c : p = i
    · rw [if_pos c, c]
    · rw [if_neg c]; exact f2 p (by omega)) (fun k t hI => by
    have cc : rF t (g + 10) = nI n := by
      obtain ⟨e1, e2⟩ := frL_tt hI.1
      have := (h.L e1 e2).c1
      rw [show rR t 0 = g by rw [← hgE]; show t.2.2.2 0 = _; rw [e2]] at this
      exact this
    show f_Plan_workOut_b9 q g a k x2 (nI (max n 1)) t = some t
    unfold f_Plan_workOut_b9
    rw [if_pos (by rw [cc]; exact nI_le (by omega) (by omega))]) (i := 1) (s := stL σ a (0 : Int32).toNatClampNeg 429981696) (by omega) (by omega) ⟨fr.rf.L (by simp) _ _, fun p hp => by
      have : p = 0 := by omega
      subst this
      rw [sL2, if_pos rfl, updLD, if_pos (show 0 = Int32.toNatClampNeg 0 from rfl), rc_0], by omega⟩
  exact ⟨σ', e, i1, fun p hp => i2.1 p (by omega)⟩
theorem q_layReach {x1 x3 : Int32} {pt : Nat → Nat} (h : gI σ n T) (hS : ∀ t : St, t.1 = σ.1 → t.2.2 = σ.2.2 → ∀ p, 0 < p → p < n → f_HM_shareTo (nI p) x1 x3 t = some (nI (pt p), t)) : ∃ σ', f_HM_layReach x1 x3 σ = some σ' ∧ fr [] [84] [] σ σ' ∧ ∀ p, p < n → σ'.2.1 84 p = rc T pt p := by
  have n60 := h.n60
  unfold f_HM_layReach f_HM_layReach_l11
  rw [ck_p (show ib 0 60 = true by decide), lE_d]
  have key : ∀ (k : Int32 → Int32 → Int32 → St → Option St) (i : Nat) (t : St), 0 < i → i < n → fr [] [84] [] σ t → (∀ p, p < i → t.2.1 84 p = rc T pt p) → f_HM_layReach_b11 k x1 x3 (nI i) t = k x1 x3 (nI (i + 1)) (stL t 84 i (rc T pt i)) := by
    intro k i t i0 hi hf hv
    obtain ⟨e1, e2⟩ := frL_tt hf
    have ht := h.L e1 e2
    obtain ⟨a1, a7, ac, a8⟩ := ab_ok h.1 hi i0
    have r5 : rI t 71 (nI i) = nI (T 5 i) := by
      have : rI t 71 (nI i) = nz (T 5 i) := ht.M (j := 5) (by omega) (by omega) hi
      rw [this, nz_lt (by omega)]
    have b1 : ib (nI i) 120 = true := ib_nI (by omega) (by decide)
    have b3 : ib (nI i) 60 = true := ib_nI (by omega) (by decide)
    have b2 : ib (nI (T 5 i)) 60 = true := ib_nI (by omega) (by decide)
    have vv : rL t 84 (nI (T 5 i)) = rc T pt (T 5 i) := by rw [rL, nI_clamp (by omega)]; exact hv _ a1
    unfold f_HM_layReach_b11
    rw [if_neg (by rw [ht.c2]; exact nI_ge hi (by omega)), ck_p b1, r5, ck_p b2, hS t e1 e2 i i0 hi, bd_s, ck_p b3, vv, lE_d, nI_clamp (by omega), nI_1, ← rc_s a1]
  obtain ⟨σ', e, i1, i2⟩ := lp_u0 (z := fun _ _ _ _ => none) (body := f_HM_layReach_b11) (fun k i (t : St) => k x1 x3 (nI i) t) (fun i t => fr [] [84] [] σ t ∧ (∀ p, p < i → t.2.1 84 p = rc T pt p) ∧ 0 < i) (max n 1) (fun t => some t) (fun k i t hi hI => by
    obtain ⟨f1, f2, f3⟩ := hI
    refine ⟨_, key k i t f3 (by omega) f1 f2, f1.L (by simp) _ _, fun p hp => ?_, by omega⟩
    rw [sL2, if_pos rfl, updLD]
    by_cases c : p = i
    · rw [if_pos c, c]
    · rw [if_neg c]; exact f2 p (by omega)) (fun k t hI => by
    obtain ⟨e1, e2⟩ := frL_tt hI.1
    show f_HM_layReach_b11 k x1 x3 (nI (max n 1)) t = some t
    unfold f_HM_layReach_b11
    rw [if_pos (by rw [(h.L e1 e2).c2]; exact nI_le (by omega) (by omega))]) (i := 1) (s := stL σ 84 (0 : Int32).toNatClampNeg 429981696) (by omega) (by omega) ⟨fr.rf.L (by simp) _ _, fun p hp => by
      have : p = 0 := by omega
      subst this
      rw [sL2, if_pos rfl, updLD, if_pos (show 0 = Int32.toNatClampNeg 0 from rfl), rc_0], by omega⟩
  exact ⟨σ', e, i1, fun p hp => i2.1 p (by omega)⟩
theorem q_shareTo {lo : Nat} {x1 x3 : Int32} {sh : Nat → Nat → Nat} (h : gI σ n T) (hx : ∀ k, k < 2 → ((nI k = x1) ↔ k = lo)) (hr : (x3 = -1 ∧ ∀ s c, s < 10 → T 13 s ≠ 1000 → c < T 14 s → σ.1 78 (3 * s + c) = nI (sh s c)) ∨ (∃ r D, r < 60 ∧ x3 = nI r ∧ sh = rsh D r ∧ ∀ s, s < 10 → T 13 s ≠ 1000 → D r s < 3 ∧ σ.1 79 (10 * r + s) = nI (D r s))) {p : Nat} (p0 : 0 < p) (hp : p < n) : f_HM_shareTo (nI p) x1 x3 σ = some (nI (prt T sh lo p), σ) := by
  have n60 := h.n60
  obtain ⟨a1, a7, ac, a8⟩ := ab_ok h.1 hp p0
  have an : T 5 p < n := by omega
  have r5 : rI σ 71 (nI p) = nI (T 5 p) := by
    have : rI σ 71 (nI p) = nz (T 5 p) := h.M (j := 5) (by omega) (by omega) hp
    rw [this, nz_lt (by omega)]
  have r1 : rI σ 67 (nI (T 5 p)) = nI (T 1 (T 5 p)) := by
    have : rI σ 67 (nI (T 5 p)) = nz (T 1 (T 5 p)) := h.M (j := 1) (by omega) (by omega) an
    rw [this, nz_lt (by omega)]
  have b1 : ib (nI p) 120 = true := ib_nI (by omega) (by decide)
  have b2 : ib (nI (T 5 p)) 120 = true := ib_nI (by omega) (by decide)
  have i1 : (nI (T 1 (T 5 p)) = 1) ↔ T 1 (T 5 p) = 1 := nI_eq (b := 1) (by omega) (by decide)
  unfold f_HM_shareTo
  rw [ck_p b1, r5, ck_p b2, r1]
  by_cases c1 : T 1 (T 5 p) = 1
  · have r8 : rI σ 73 (nI p) = nI (T 8 p) := by
      rw [rI, nI_clamp (by omega)]
      exact h.2.2.2.2.2.2.2.1 p p0 hp c1
    rw [if_pos (i1.mpr c1), ck_p b1, r8]
    unfold prt
    rw [if_pos c1]
  · have hs : T 3 (T 5 p) < 10 := by omega
    have r3 : rI σ 69 (nI (T 5 p)) = nI (T 3 (T 5 p)) := by
      have : rI σ 69 (nI (T 5 p)) = nz (T 3 (T 5 p)) := h.M (j := 3) (by omega) (by omega) an
      rw [this, nz_lt (by omega)]
    have r7 : rI σ 72 (nI p) = nI (T 7 p) := by
      have : rI σ 72 (nI p) = nz (T 7 p) := h.M (j := 7) (by omega) (by omega) hp
      rw [this, nz_lt (by omega)]
    have b3 : ib (nI (T 3 (T 5 p))) 20 = true := ib_nI (by omega) (by decide)
    have rp : rI σ 76 (nI (T 3 (T 5 p))) = nI (T 13 (T 3 (T 5 p))) := by rw [h.P hs, if_neg (by omega)]
    rw [if_neg (fun z => c1 (i1.mp z)), ck_p b2, r3, ck_p b3, rp]
    have hx2 := hx (T 13 (T 3 (T 5 p))) (by omega)
    unfold prt
    rw [if_neg c1]
    by_cases c2 : T 1 (T 5 p) = 2 + lo
    · rw [if_pos (hx2.mpr (by omega)), if_pos c2]
      rfl
    · rw [if_neg (fun z => c2 (by have := hx2.mp z; omega)), if_neg c2]
      rcases hr with ⟨rfl, hr⟩ | ⟨r, D, hr60, rfl, rfl, hr⟩
      · rw [if_neg (by decide), ck_p b1, r7, show 3 * nI (T 3 (T 5 p)) + nI (T 7 p) = nI (3 * T 3 (T 5 p) + T 7 p) by rw [show (3 : Int32) = nI 3 from rfl, pk_mul, nI_add], ck_p (ib_nI (show 3 * T 3 (T 5 p) + T 7 p < 30 by omega) (by decide)), rI, nI_clamp (by omega), hr _ _ hs (by omega) (by omega)]
      · obtain ⟨d1, d2⟩ := hr (T 3 (T 5 p)) hs (by omega)
        have e : (nI (D r (T 3 (T 5 p))) = nI (T 7 p)) ↔ D r (T 3 (T 5 p)) = T 7 p := nI_eq (by omega) (by omega)
        rw [if_pos (nI_pos' (by omega)), show 10 * nI r + nI (T 3 (T 5 p)) = nI (10 * r + T 3 (T 5 p)) by rw [show (10 : Int32) = nI 10 from rfl, pk_mul, nI_add], ck_p (ib_nI (show 10 * r + T 3 (T 5 p) < 600 by omega) (by decide)), ck_p b1, r7, rI, nI_clamp (by omega), d2]
        unfold rsh
        by_cases c : D r (T 3 (T 5 p)) = T 7 p
        · rw [if_pos (e.mpr c), if_pos c]; rfl
        · rw [if_neg (fun z => c (e.mp z)), if_neg c]; rfl
end
