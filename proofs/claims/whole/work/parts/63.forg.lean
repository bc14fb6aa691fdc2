/-! who forgets, by the reference -/
def oa (T : TT) (w p : Nat) : Nat := if h : T 5 p < p then (if T 1 (T 5 p) = 2 + w then T 5 p else oa T w (T 5 p)) else 1000
termination_by p
decreasing_by all_goals exact h
theorem oa_s {T : TT} {p : Nat} (h : T 5 p < p) (w : Nat) : oa T w p = if T 1 (T 5 p) = 2 + w then T 5 p else oa T w (T 5 p) := by rw [oa, dif_pos h]
theorem oa_0 (T : TT) (w : Nat) : oa T w 0 = 1000 := by rw [oa, dif_neg (by omega)]
theorem oa_ok {n : Nat} {T : TT} (h : wf n T) (w : Nat) : ∀ p, p < n → (oa T w p = 1000 ∧ ps T w p = [] ∧ lv T w p = 0) ∨ (oa T w p < p ∧ T 1 (oa T w p) = 2 + w ∧ 0 < ct T (oa T w p) p ∧ ps T w p = (3 * T 3 (oa T w p) + T 7 (ct T (oa T w p) p) + 1) :: ps T w (oa T w p) ∧ lv T w p = lv T w (oa T w p) + 1) := by
  intro p
  induction p using Nat.strongRecOn with
  | ind p ih =>
    intro hp
    by_cases p0 : 0 < p
    · obtain ⟨a1, a2, a3, _⟩ := h.A hp p0
      rw [oa_s a1, ps_s a1, lv_s a1]
      by_cases c : T 1 (T 5 p) = 2 + w
      · right
        rw [if_pos c, if_pos c, if_pos c, ct_s a1, if_pos rfl]
        exact ⟨a1, c, p0, rfl, rfl⟩
      · rw [if_neg c, if_neg c, if_neg c]
        rcases ih (T 5 p) a1 (by omega) with ⟨i1, i2, i3⟩ | ⟨i1, i2, i3, i4, i5⟩
        · exact Or.inl ⟨i1, i2, by omega⟩
        · right
          have ne : ¬ T 5 p = oa T w (T 5 p) := by omega
          rw [ct_s a1, if_neg ne]
          exact ⟨by omega, i2, i3, i4, by omega⟩
    · have : p = 0 := by omega
      subst this
      exact Or.inl ⟨oa_0 T w, ps_0 T w, lv_0 T w⟩
theorem wf_5 {n : Nat} {T : TT} (h : wf n T) {p : Nat} (hp : p < n) : (p = 0 ∧ T 5 p = 1000) ∨ (0 < p ∧ T 5 p < p) := by
  by_cases p0 : 0 < p
  · exact Or.inr ⟨p0, (h.A hp p0).1⟩
  · have : p = 0 := by omega
    subst this
    exact Or.inl ⟨rfl, (h.R hp).1⟩
section
variable {σ : St} {n : Nat} {T : TT}
theorem q_isOf (h : gI σ n T) {p w : Nat} (hp : p < n) (hw : w < 2) : f_HM_isOf (nI p) (nI w) σ = some (if T 1 p = 2 + w then 1 else 0, σ) := by
  have n60 := h.n60
  have k := (h.1.K hp).2
  have b1 : ib (nI p) 120 = true := ib_nI (by omega) (by decide)
  have r1 : rI σ 67 (nI p) = nz (T 1 p) := h.M (j := 1) (by omega) (by omega) hp
  have e : (nI (T 1 p) = nI (2 + w)) ↔ T 1 p = 2 + w := nI_eq (by omega) (by omega)
  unfold f_HM_isOf
  rw [ck_p b1, r1, nz_lt (by omega), show (2 : Int32) + nI w = nI (2 + w) from nI_add 2 w]
  by_cases c : T 1 p = 2 + w
  · rw [if_pos (e.mpr c), if_pos c]
  · rw [if_neg (fun z => c (e.mp z)), if_neg c]
theorem q_oaL (h : gI σ n T) {w : Nat} (hw : w < 2) : ∀ p f, p < n → p < f → lp (fun _ _ _ => none) f_HM_ownAbove_b7 f (nI w) (nz (T 5 p)) σ = some (nz (oa T w p), σ) := by
  intro p
  induction p using Nat.strongRecOn with
  | ind p ih =>
    intro f hp hf
    obtain ⟨f, rfl⟩ : ∃ f0, f = f0 + 1 := ⟨f - 1, by omega⟩
    have n60 := h.n60
    rw [lp_s]
    rcases wf_5 h.1 hp with ⟨p0, e5⟩ | ⟨p0, a1⟩
    · subst p0
      unfold f_HM_ownAbove_b7
      rw [e5, if_pos nz_none, oa_0]
    · have ne : ¬ nI (T 5 p) = -1000000 := nz_neg _ (by omega)
      have b1 : ib (nI (T 5 p)) 120 = true := ib_nI (by omega) (by decide)
      have r5 : rI σ 71 (nI (T 5 p)) = nz (T 5 (T 5 p)) := h.M (j := 5) (by omega) (by omega) (show T 5 p < n by omega)
      unfold f_HM_ownAbove_b7
      rw [nz_lt (show T 5 p < 1000 by omega), if_neg ne, q_isOf h (show T 5 p < n by omega) hw, bd_s, oa_s a1]
      by_cases c : T 1 (T 5 p) = 2 + w
      · rw [if_pos c, if_neg i10, if_pos c, nz_lt (by omega)]
      · rw [if_neg c, if_pos rfl, if_neg c, ck_p b1, r5]
        exact ih (T 5 p) a1 f (by omega) (by omega)
theorem q_ownAbove (h : gI σ n T) {p w : Nat} (hp : p < n) (hw : w < 2) : f_HM_ownAbove (nI p) (nI w) σ = some (nz (oa T w p), σ) := by
  have n60 := h.n60
  have b1 : ib (nI p) 120 = true := ib_nI (by omega) (by decide)
  have r5 : rI σ 71 (nI p) = nz (T 5 p) := h.M (j := 5) (by omega) (by omega) hp
  unfold f_HM_ownAbove f_HM_ownAbove_l7
  rw [ck_p b1, r5]
  exact q_oaL h hw p FU hp (by unfold FU; omega)
theorem q_wayL (h : gI σ n T) {q : Nat} : ∀ p f, p < n → p < f → 0 < ct T q p → lp (fun _ _ _ => none) f_HM_wayTo_b2 f (nI q) (nI p) σ = some (nI (T 7 (ct T q p)), σ) := by
  intro p
  induction p using Nat.strongRecOn with
  | ind p ih =>
    intro f hp hf hc
    obtain ⟨f, rfl⟩ : ∃ f0, f = f0 + 1 := ⟨f - 1, by omega⟩
    have n60 := h.n60
    rw [lp_s]
    rcases wf_5 h.1 hp with ⟨p0, e5⟩ | ⟨p0, a1⟩
    · rw [ct_z (by omega)] at hc
      omega
    · have b1 : ib (nI p) 120 = true := ib_nI (by omega) (by decide)
      have qn : q < 1000 := by
        have := (ct_ok T q p)
        have := this.2 hc
        omega
      have r5 : rI σ 71 (nI p) = nI (T 5 p) := by
        have : rI σ 71 (nI p) = nz (T 5 p) := h.M (j := 5) (by omega) (by omega) hp
        rw [this, nz_lt (by omega)]
      have a3 := (h.1.A hp p0).2.2.1
      have k4 := wK4 (h.1.K (show T 5 p < n by omega))
      have r7 : rI σ 72 (nI p) = nI (T 7 p) := by
        have : rI σ 72 (nI p) = nz (T 7 p) := h.M (j := 7) (by omega) (by omega) hp
        rw [this, nz_lt (by omega)]
      have e : (nI (T 5 p) = nI q) ↔ T 5 p = q := nI_eq (by omega) (by omega)
      unfold f_HM_wayTo_b2
      rw [ck_p b1, r5]
      rw [ct_s a1] at hc ⊢
      by_cases c : T 5 p = q
      · rw [if_pos (e.mpr c), ck_p b1, r7, if_pos c]
      · rw [if_neg (fun z => c (e.mp z)), ck_p b1]
        rw [if_neg c] at hc ⊢
        exact ih (T 5 p) a1 f (by omega) (by omega) hc
theorem q_wayTo (h : gI σ n T) {p q : Nat} (hp : p < n) (hc : 0 < ct T q p) : f_HM_wayTo (nI p) (nI q) σ = some (nI (T 7 (ct T q p)), σ) := by
  have n60 := h.n60
  unfold f_HM_wayTo f_HM_wayTo_l2
  exact q_wayL h p FU hp (by unfold FU; omega) hc
theorem q_alikeL (h : gI σ n T) {w : Nat} (hw : w < 2) : ∀ x y f, x < n → y < n → x + 1 < f → lp (fun _ _ _ _ _ => none) f_HM_areAlike_b9 f (nI w) (nI x) (nI y) 1 σ = some (if ps T w x = ps T w y then 1 else 0, σ) := by
  intro x
  induction x using Nat.strongRecOn with
  | ind x ih =>
    intro y f hx hy hf
    obtain ⟨f, rfl⟩ : ∃ f0, f = f0 + 1 := ⟨f - 1, by omega⟩
    have n60 := h.n60
    rw [lp_s]
    show f_HM_areAlike_b9 (lp (fun _ _ _ _ _ => none) f_HM_areAlike_b9 f) (nI w) (nI x) (nI y) 1 σ = _
    rw [f_HM_areAlike_b9]
    unfold f_HM_areAlike_b46 f_HM_areAlike_b117
    rw [if_neg i10, q_ownAbove h hx hw, bd_s, q_ownAbove h hy hw, bd_s]
    rcases oa_ok h.1 w x hx with ⟨i1, i2, _⟩ | ⟨i1, i2, i3, i4, _⟩
    · rw [i1, if_pos nz_none, i2]
      rcases oa_ok h.1 w y hy with ⟨j1, j2, _⟩ | ⟨j1, j2, j3, j4, _⟩
      · rw [j1, if_pos rfl, j2, if_pos rfl]
      · rw [nz_lt (show oa T w y < 1000 by omega), nz_none, if_neg (fun z => nz_neg _ (by omega) z.symm), j4, if_neg (by simp)]
    · rw [nz_lt (show oa T w x < 1000 by omega), if_neg (nz_neg _ (by omega))]
      rcases oa_ok h.1 w y hy with ⟨j1, j2, _⟩ | ⟨j1, j2, j3, j4, _⟩
      · rw [j1, if_pos nz_none, nz_none, if_neg (nz_neg _ (by omega)), j2, i4, if_neg (by simp)]
      · rw [nz_lt (show oa T w y < 1000 by omega), if_neg (nz_neg _ (by omega))]
        have px : oa T w x < n := by omega
        have py : oa T w y < n := by omega
        have b1 : ib (nI (oa T w x)) 120 = true := ib_nI (by omega) (by decide)
        have b2 : ib (nI (oa T w y)) 120 = true := ib_nI (by omega) (by decide)
        have kx := (h.1.K px).2
        have ky := (h.1.K py).2
        have s1 : rI σ 69 (nI (oa T w x)) = nI (T 3 (oa T w x)) := by
          have : rI σ 69 (nI (oa T w x)) = nz (T 3 (oa T w x)) := h.M (j := 3) (by omega) (by omega) px
          rw [this, nz_lt (by omega)]
        have s2 : rI σ 69 (nI (oa T w y)) = nI (T 3 (oa T w y)) := by
          have : rI σ 69 (nI (oa T w y)) = nz (T 3 (oa T w y)) := h.M (j := 3) (by omega) (by omega) py
          rw [this, nz_lt (by omega)]
        have cx := ct_ok T (oa T w x) x
        have cy := ct_ok T (oa T w y) y
        have cx2 := cx.2 i3
        have cy2 := cy.2 j3
        have ax := (h.1.A (show ct T (oa T w x) x < n by omega) i3).2.2.1
        have ay := (h.1.A (show ct T (oa T w y) y < n by omega) j3).2.2.1
        rw [cx2.1] at ax
        rw [cy2.1] at ay
        have e3 : (nI (T 3 (oa T w x)) = nI (T 3 (oa T w y))) ↔ T 3 (oa T w x) = T 3 (oa T w y) := nI_eq (by omega) (by omega)
        have e7 : (nI (T 7 (ct T (oa T w x) x)) = nI (T 7 (ct T (oa T w y) y))) ↔ T 7 (ct T (oa T w x) x) = T 7 (ct T (oa T w y) y) := nI_eq (by omega) (by omega)
        have eo : (nI (oa T w x) = nI (oa T w y)) ↔ oa T w x = oa T w y := nI_eq (by omega) (by omega)
        rw [ck_p b1, ck_p b2, s1, s2, q_wayTo h hx i3, bd_s, q_wayTo h hy j3, bd_s, i4, j4]
        by_cases c3 : T 3 (oa T w x) = T 3 (oa T w y)
        · rw [if_pos (e3.mpr c3)]
          by_cases c7 : T 7 (ct T (oa T w x) x) = T 7 (ct T (oa T w y) y)
          · rw [if_pos (e7.mpr c7)]
            by_cases co : oa T w x = oa T w y
            · rw [if_pos (eo.mpr co), if_pos (show _ = _ by rw [c7, ← co])]
              obtain ⟨f, rfl⟩ : ∃ f0, f = f0 + 1 := ⟨f - 1, by omega⟩
              rw [lp_s]
              show f_HM_areAlike_b9 (lp (fun _ _ _ _ _ => none) f_HM_areAlike_b9 f) (nI w) (nI (oa T w x)) (nI (oa T w y)) 0 σ = _
              rw [f_HM_areAlike_b9, if_pos rfl]
            · rw [if_neg (fun z => co (eo.mp z)), ih _ i1 _ f px py (by omega)]
              by_cases cp : ps T w (oa T w x) = ps T w (oa T w y)
              · rw [if_pos cp, if_pos (by rw [c3, c7, cp])]
              · rw [if_neg cp, if_neg (by simp [cp])]
          · rw [if_neg (fun z => c7 (e7.mp z)), if_neg]
            intro z
            have := (List.cons.inj z).1
            omega
        · rw [if_neg (fun z => c3 (e3.mp z)), if_neg]
          intro z
          have := (List.cons.inj z).1
          omega
def bad2 (T : TT) (w p q : Nat) : Prop := T 1 p = 2 + w ∧ T 1 q = 2 + w ∧ T 3 p = T 3 q ∧ ps T w p ≠ ps T w q
theorem q_forI (h : gI σ n T) {w p : Nat} (hw : w < 2) (hp : p < n) (k2 : Int32 → Int32 → St → Option (Int32 × St)) : ∀ m q f, q + m = p → m < f → ((∃ j, q ≤ j ∧ j < p ∧ bad2 T w p j) → lp (fun _ _ _ _ => none) (f_HM_isForgetful_b12 k2) f (nI w) (nI p) (nI q) σ = some (1, σ)) ∧ ((∀ j, q ≤ j → j < p → ¬ bad2 T w p j) → lp (fun _ _ _ _ => none) (f_HM_isForgetful_b12 k2) f (nI w) (nI p) (nI q) σ = k2 (nI w) (nI (p + 1)) σ)
  | 0, q, f + 1, hq, _ => by
    refine ⟨fun ⟨j, j1, j2, _⟩ => by omega, fun _ => ?_⟩
    have n60 := h.n60
    rw [lp_s]
    show f_HM_isForgetful_b12 k2 (lp (fun _ _ _ _ => none) (f_HM_isForgetful_b12 k2) f) (nI w) (nI p) (nI q) σ = _
    unfold f_HM_isForgetful_b12
    rw [if_pos (nI_le (by omega) (by omega)), nI_1]
  | m + 1, q, f + 1, hq, hf => by
    have n60 := h.n60
    obtain ⟨r1, r2⟩ := q_forI h hw hp k2 m (q + 1) f (by omega) (by omega)
    have hqn : q < n := by omega
    have kp := (h.1.K hp).2
    have kq := (h.1.K hqn).2
    have b1 : ib (nI p) 120 = true := ib_nI (by omega) (by decide)
    have b2 : ib (nI q) 120 = true := ib_nI (by omega) (by decide)
    have s1 : rI σ 69 (nI p) = nz (T 3 p) := h.M (j := 3) (by omega) (by omega) hp
    have s2 : rI σ 69 (nI q) = nz (T 3 q) := h.M (j := 3) (by omega) (by omega) hqn
    have e3 := nz_eq (a := T 3 p) (b := T 3 q) (by omega) (by omega)
    have al : f_HM_areAlike (nI p) (nI q) (nI w) σ = some (if ps T w p = ps T w q then 1 else 0, σ) := by
      unfold f_HM_areAlike f_HM_areAlike_l9
      exact q_alikeL h hw p q FU hp hqn (by unfold FU; omega)
    have step : lp (fun _ _ _ _ => none) (f_HM_isForgetful_b12 k2) (f + 1) (nI w) (nI p) (nI q) σ = (if T 1 p = 2 + w ∧ T 1 q = 2 + w ∧ T 3 p = T 3 q ∧ ps T w p ≠ ps T w q then some (1, σ) else lp (fun _ _ _ _ => none) (f_HM_isForgetful_b12 k2) f (nI w) (nI p) (nI (q + 1)) σ) := by
      rw [lp_s]
      show f_HM_isForgetful_b12 k2 (lp (fun _ _ _ _ => none) (f_HM_isForgetful_b12 k2) f) (nI w) (nI p) (nI q) σ = _
      unfold f_HM_isForgetful_b12 f_HM_isForgetful_b62
      rw [if_neg (nI_ge (by omega) (by omega)), q_isOf h hp hw, bd_s, nI_1]
      by_cases c1 : T 1 p = 2 + w
      · rw [if_pos c1, if_neg i10, q_isOf h hqn hw, bd_s]
        by_cases c2 : T 1 q = 2 + w
        · rw [if_pos c2, if_neg i10, ck_p b1, ck_p b2, s1, s2]
          by_cases c3 : T 3 p = T 3 q
          · rw [if_pos (e3.mpr c3), al, bd_s]
            by_cases c4 : ps T w p = ps T w q
            · rw [if_pos c4, if_neg i10, if_neg (fun z => z.2.2.2 c4)]
            · rw [if_neg c4, if_pos rfl, if_pos ⟨c1, c2, c3, c4⟩]
          · rw [if_neg (fun z => c3 (e3.mp z)), if_neg (fun z => c3 z.2.2.1)]
        · rw [if_neg c2, if_pos rfl, if_neg (fun z => c2 z.2.1)]
      · rw [if_neg c1, if_pos rfl, if_neg (fun z => c1 z.1)]
    rw [step]
    refine ⟨fun ⟨j, j1, j2, j3⟩ => ?_, fun hn => ?_⟩
    · by_cases c : T 1 p = 2 + w ∧ T 1 q = 2 + w ∧ T 3 p = T 3 q ∧ ps T w p ≠ ps T w q
      · rw [if_pos c]
      · rw [if_neg c]
        have : j ≠ q := fun e => c (by rw [← e]; exact j3)
        exact r1 ⟨j, by omega, j2, j3⟩
    · rw [if_neg (show ¬ (T 1 p = 2 + w ∧ T 1 q = 2 + w ∧ T 3 p = T 3 q ∧ ps T w p ≠ ps T w q) from hn q (Nat.le_refl _) (by omega))]
      exact r2 (fun j a b => hn j (by omega) b)
theorem q_forO (h : gI σ n T) {w : Nat} (hw : w < 2) : ∀ m p f, p + m = n → m < f → ((∃ i j, p ≤ i ∧ i < n ∧ j < i ∧ bad2 T w i j) → lp (fun _ _ _ => none) f_HM_isForgetful_b2 f (nI w) (nI p) σ = some (1, σ)) ∧ ((∀ i j, p ≤ i → i < n → j < i → ¬ bad2 T w i j) → lp (fun _ _ _ => none) f_HM_isForgetful_b2 f (nI w) (nI p) σ = some (0, σ))
  | 0, p, f + 1, hq, _ => by
    refine ⟨fun ⟨i, j, j1, j2, _⟩ => by omega, fun _ => ?_⟩
    have n60 := h.n60
    rw [lp_s]
    unfold f_HM_isForgetful_b2
    rw [if_pos (by rw [h.c2]; exact nI_le (by omega) (by omega))]
  | m + 1, p, f + 1, hq, hf => by
    have n60 := h.n60
    obtain ⟨r1, r2⟩ := q_forO h hw m (p + 1) f (by omega) (by omega)
    obtain ⟨i1, i2⟩ := q_forI h hw (show p < n by omega) (lp (fun _ _ _ => none) f_HM_isForgetful_b2 f) p 0 FU (by omega) (by unfold FU; omega)
    have step : lp (fun _ _ _ => none) f_HM_isForgetful_b2 (f + 1) (nI w) (nI p) σ = lp (fun _ _ _ _ => none) (f_HM_isForgetful_b12 (lp (fun _ _ _ => none) f_HM_isForgetful_b2 f)) FU (nI w) (nI p) (nI 0) σ := by
      rw [lp_s]
      show f_HM_isForgetful_b2 (lp (fun _ _ _ => none) f_HM_isForgetful_b2 f) (nI w) (nI p) σ = _
      unfold f_HM_isForgetful_b2 f_HM_isForgetful_l12
      rw [if_neg (by rw [h.c2]; exact nI_ge (by omega) (by omega))]
      rfl
    rw [step]
    refine ⟨fun ⟨i, j, j1, j2, j3, j4⟩ => ?_, fun hn => ?_⟩
    · rcases Classical.em (∃ j, 0 ≤ j ∧ j < p ∧ bad2 T w p j) with e | e
      · exact i1 e
      · rw [i2 (fun j a b c => e ⟨j, a, b, c⟩)]
        have : i ≠ p := fun x => e ⟨j, Nat.zero_le _, by omega, by rw [← x]; exact j4⟩
        exact r1 ⟨i, j, by omega, j2, j3, j4⟩
    · rw [i2 (fun j a b => hn p j (Nat.le_refl _) (by omega) b)]
      exact r2 (fun i j a b c => hn i j (by omega) b c)
theorem fgt_2 (h : wf n T) (w : Nat) : fgt T n w ↔ ∃ i j, 0 ≤ i ∧ i < n ∧ j < i ∧ bad2 T w i j := by
  have first : ∀ p, p < n → T 1 p = 2 + w → w < 2 → T 16 (T 3 p) ≤ p ∧ T 16 (T 3 p) < n ∧ T 3 (T 16 (T 3 p)) = T 3 p ∧ T 1 (T 16 (T 3 p)) = 2 + w := by
    intro p hp h1 hw
    have k := (h.K hp).2
    have t3 : T 3 p < 10 := by omega
    obtain ⟨s1, s2, s3⟩ := h.1.2.2.2.1 (T 3 p) t3
    obtain ⟨x1, x2⟩ := s3 p hp rfl
    obtain ⟨y1, y2⟩ := s2 x2
    have k2 := (h.K y1).2
    rw [y2] at k2
    exact ⟨x1, y1, y2, by omega⟩
  have w2 : ∀ p, p < n → T 1 p = 2 + w → w < 2 := fun p hp h1 => by
    have k := (h.K hp).2
    omega
  constructor
  · rintro ⟨p, hp, h1, h2⟩
    obtain ⟨a, b, c, d⟩ := first p hp h1 (w2 p hp h1)
    have ne : T 16 (T 3 p) ≠ p := fun e => h2 (by rw [e])
    exact ⟨p, T 16 (T 3 p), Nat.zero_le _, hp, by omega, h1, d, c.symm, h2⟩
  · rintro ⟨i, j, _, hi, hj, h1, h2, h3, h4⟩
    rcases Classical.em (ps T w i = ps T w (T 16 (T 3 i))) with e | e
    · refine ⟨j, by omega, h2, fun z => h4 ?_⟩
      rw [e, z, h3]
    · exact ⟨i, hi, h1, e⟩
theorem q_forM (h : gI σ n T) {w : Nat} (hw : w < 2) : (fgt T n w → f_HM_isForgetful (nI w) σ = some (1, σ)) ∧ (¬ fgt T n w → f_HM_isForgetful (nI w) σ = some (0, σ)) := by
  have n60 := h.n60
  obtain ⟨r1, r2⟩ := q_forO h hw n 0 FU (by omega) (by unfold FU; omega)
  unfold f_HM_isForgetful f_HM_isForgetful_l2
  refine ⟨fun hf => r1 ((fgt_2 h.1 w).mp hf), fun hf => r2 (fun i j a b c d => hf ((fgt_2 h.1 w).mpr ⟨i, j, a, b, c, d⟩))⟩
theorem q_forC (h : gI σ n T) {w : Nat} (hw : w < 2) : (fgt T n w ∧ rI σ (rR σ 0 + 17) (nI w) = 1) ∨ (¬ fgt T n w ∧ rI σ (rR σ 0 + 17) (nI w) = 0) := by
  rw [rI, nI_clamp (by omega)]
  rcases h.2.2.1.2.2.2.2.2.1 w hw with ⟨a, b⟩ | ⟨a, b⟩
  · exact Or.inl ⟨b, a⟩
  · exact Or.inr ⟨b, a⟩
end
theorem q_isPlayer (x : Int32) (σ : St) : f_HG_isPlayer x σ = some (if x < 0 ∨ (2 : Int32) ≤ x then 0 else 1, σ) := by
  unfold f_HG_isPlayer f_HG_isPlayer_b9
  by_cases c : x < 0 ∨ (2 : Int32) ≤ x
  · rw [if_pos c, if_neg, if_neg]
    · intro e; subst e; revert c; decide
    · intro e; subst e; revert c; decide
  · obtain ⟨k, hk, rfl⟩ := ixn (x := x) (n := 2) (by decide) c
    rw [if_neg c]
    have : k = 0 ∨ k = 1 := by omega
    rcases this with rfl | rfl
    · rw [if_pos (show nI 0 = (0 : Int32) from rfl)]
    · rw [if_neg (by decide), if_pos (show nI 1 = (1 : Int32) from rfl)]
theorem st_forgets (x1 : Int32) {σ : St} (hI : Inv σ) : stq (f_HG_forgets x1) (f_HM_forgets x1) σ := by
  obtain ⟨n, T, sh, R, D, hg, _, _⟩ := hI.1.2.2.2.2
  have e0 : f_HM_in x1.toInt64 0 1 σ = some (if x1 < 0 ∨ (2 : Int32) ≤ x1 then 0 else 1, σ) := q_HM_inN x1 0 1 (by decide) (by decide) σ
  unfold stq f_HG_forgets f_HM_forgets
  rw [q_isPlayer, bd_s]
  by_cases c : x1 < 0 ∨ (2 : Int32) ≤ x1
  · rw [if_pos c, if_pos rfl]
    refine ⟨_, σ, σ, rfl, ?_, hI⟩
    rw [e0, bd_s, if_pos c, if_pos rfl]
  · rw [if_neg c, if_neg i10]
    obtain ⟨w, hw, rfl⟩ := ixn (x := x1) (n := 2) (by decide) c
    have b1 : ib (nI w) 2 = true := ib_nI hw (by decide)
    rw [hg.g, ck_t, ck_p b1]
    obtain ⟨m1, m2⟩ := q_forM hg hw
    rcases q_forC hg hw with ⟨a, b⟩ | ⟨a, b⟩
    · rw [b, if_neg i10]
      refine ⟨_, σ, σ, rfl, ?_, hI⟩
      rw [e0, bd_s, if_neg c, if_neg i10, m1 a, bd_s, if_neg i10]
    · rw [b, if_pos rfl]
      refine ⟨_, σ, σ, rfl, ?_, hI⟩
      rw [e0, bd_s, if_neg c, if_neg i10, m2 a, bd_s, if_pos rfl]
