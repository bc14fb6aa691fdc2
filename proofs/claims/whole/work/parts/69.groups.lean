/-! the class's groups -/
def th (T : TT) (ap p : Nat) : Nat := if ap < 1000 ∧ T 3 p = ap then p else if h : T 5 p < p then th T ap (T 5 p) else 1000
termination_by p
decreasing_by all_goals exact h
theorem th_le {n : Nat} {T : TT} (h : wf n T) (ap : Nat) : ∀ p, p < n → th T ap p ≤ p ∨ th T ap p = 1000 := by
  intro p
  induction p using Nat.strongRecOn with
  | ind p ih =>
    intro hp
    rw [th]
    by_cases c : ap < 1000 ∧ T 3 p = ap
    · rw [if_pos c]; exact Or.inl (Nat.le_refl _)
    · rw [if_neg c]
      by_cases d : T 5 p < p
      · rw [dif_pos d]
        rcases ih _ d (by omega) with e | e
        · exact Or.inl (by omega)
        · exact Or.inr e
      · rw [dif_neg d]; exact Or.inr rfl
theorem th_none (T : TT) : ∀ p, th T 1000 p = 1000 := by
  intro p
  induction p using Nat.strongRecOn with
  | ind p ih =>
    rw [th, if_neg (by omega)]
    by_cases d : T 5 p < p
    · rw [dif_pos d]; exact ih _ d
    · rw [dif_neg d]
def lst (P : Nat → Bool) : Nat → Nat → Nat
  | 0, i => i
  | m + 1, i => if P i = true then i else lst P m (i + 1)
theorem lst_ok (P : Nat → Bool) : ∀ m i, (∀ k, k < i → P k = false) → lst P m i ≤ i + m ∧ (∀ k, k < lst P m i → P k = false) ∧ (lst P m i < i + m → P (lst P m i) = true)
  | 0, i, h => ⟨Nat.le_refl _, h, fun z => by simp only [lst] at z; omega⟩
  | m + 1, i, h => by
    unfold lst
    by_cases c : P i = true
    · rw [if_pos c]
      exact ⟨by omega, h, fun _ => c⟩
    · rw [if_neg c]
      obtain ⟨a, b, d⟩ := lst_ok P m (i + 1) (fun k hk => by
        by_cases e : k = i
        · rw [e]; simpa using c
        · exact h k (by omega))
      exact ⟨by omega, b, fun z => d (by omega)⟩
def gpr (T : TT) (ap p q : Nat) : Bool := decide (T 3 q = T 3 p ∧ th T ap q = th T ap p)
def gr (T : TT) (ap p : Nat) : Nat := if T 1 p = 2 ∨ T 1 p = 3 then lst (gpr T ap p) p 0 else p
theorem grp_ok (T : TT) (ap p : Nat) : gr T ap p ≤ p ∧ T 3 (gr T ap p) = T 3 p ∧ th T ap (gr T ap p) = th T ap p ∧ ((T 1 p = 2 ∨ T 1 p = 3) → ∀ k, k < gr T ap p → gpr T ap p k = false) := by
  unfold gr
  by_cases c : T 1 p = 2 ∨ T 1 p = 3
  · rw [if_pos c]
    obtain ⟨a, b, d⟩ := lst_ok (gpr T ap p) p 0 (fun k hk => by omega)
    refine ⟨by omega, ?_, ?_, fun _ => b⟩
    · by_cases e : lst (gpr T ap p) p 0 < 0 + p
      · have := d e
        exact (of_decide_eq_true this).1
      · rw [show lst (gpr T ap p) p 0 = p by omega]
    · by_cases e : lst (gpr T ap p) p 0 < 0 + p
      · have := d e
        exact (of_decide_eq_true this).2
      · rw [show lst (gpr T ap p) p 0 = p by omega]
  · rw [if_neg c]
    exact ⟨Nat.le_refl _, rfl, rfl, fun z => absurd z c⟩
theorem gr_eq (T : TT) (ap : Nat) {p q : Nat} (hp : T 1 p = 2 ∨ T 1 p = 3) (hq : T 1 q = 2 ∨ T 1 q = 3) : gr T ap p = gr T ap q ↔ T 3 p = T 3 q ∧ th T ap p = th T ap q := by
  obtain ⟨a1, a2, a3, a4⟩ := grp_ok T ap p
  obtain ⟨b1, b2, b3, b4⟩ := grp_ok T ap q
  constructor
  · intro e
    rw [← a2, ← a3, ← b2, ← b3, e]
    exact ⟨rfl, rfl⟩
  · rintro ⟨e1, e2⟩
    rcases Nat.lt_trichotomy (gr T ap p) (gr T ap q) with c | c | c
    · exfalso
      have := b4 hq _ c
      have t : gpr T ap q (gr T ap p) = true := decide_eq_true ⟨by rw [a2, e1], by rw [a3, e2]⟩
      rw [t] at this
      cases this
    · exact c
    · exfalso
      have := a4 hp _ c
      have t : gpr T ap p (gr T ap q) = true := decide_eq_true ⟨by rw [b2, e1], by rw [b3, e2]⟩
      rw [t] at this
      cases this
theorem own_h {T : TT} {w p : Nat} (hw : w < 2) (h : T 1 p = 2 + w) : T 1 p = 2 ∨ T 1 p = 3 := by omega
theorem nf_lv {n : Nat} {T : TT} (h : wf n T) {w : Nat} (hf : ¬ fgt T n w) {p q : Nat} (hp : p < n) (hq : q < n) (h1 : T 1 p = 2 + w) (h2 : T 1 q = 2 + w) (h3 : T 3 p = T 3 q) : lv T w p = lv T w q := by
  have e1 : ps T w p = ps T w (T 16 (T 3 p)) := Classical.byContradiction fun z => hf ⟨p, hp, h1, z⟩
  have e2 : ps T w q = ps T w (T 16 (T 3 q)) := Classical.byContradiction fun z => hf ⟨q, hq, h2, z⟩
  rw [← (ps_len h w p hp).1, ← (ps_len h w q hq).1, e1, e2, h3]
theorem gr_grOk {n : Nat} {T : TT} (h : wf n T) {w ap : Nat} (hw : w < 2) (hf : ¬ fgt T n w) : grOk T n w (gr T ap) := by
  intro p q hp hq h1 h2 e
  have := ((gr_eq T ap (own_h hw h1) (own_h hw h2)).mp e).1
  exact ⟨nf_lv h hf hp hq h1 h2 this, this⟩
section
variable {σ : St} {n : Nat} {T : TT}
theorem q_least {ap p : Nat} (h : gI σ n T) (hp : p < n) (hh : T 1 p = 2 ∨ T 1 p = 3) (h57 : ∀ q, q ≤ p → σ.1 57 q = nz (th T ap q)) : f_Solver_leastAlike (rR σ 0) (nI p) σ = some (nI (gr T ap p), σ) := by
  have n60 := h.n60
  have k := (h.1.K hp).2
  have t3 : T 3 p < 10 := by omega
  have ss := h.1.1.2.2.2.1 (T 3 p) t3
  have s16 := ss.2.2 p hp rfl
  have b1 : ib (nI p) 60 = true := ib_nI (by omega) (by decide)
  have b3 : ib (nI (T 3 p)) 10 = true := ib_nI t3 (by decide)
  have r3 : rI σ (rR σ 0 + 3) (nI p) = nI (T 3 p) := by rw [h.C (by omega) (by omega) hp, nz_lt (by omega)]
  have r16 : rI σ (rR σ 0 + 16) (nI (T 3 p)) = nI (T 16 (T 3 p)) := by rw [h.S (by omega) (by omega) t3, nz_lt (by omega)]
  have key : ∀ m i f, i + m = p → m < f → (∀ q, q < i → gpr T ap p q = false) → lp (fun _ _ _ => none) (f_Solver_leastAlike_b12 (rR σ 0)) f (nI p) (nI i) σ = some (nI (lst (gpr T ap p) m i), σ) := by
    intro m
    induction m with
    | zero =>
      intro i f hi hf hq
      obtain ⟨f, rfl⟩ : ∃ f0, f = f0 + 1 := ⟨f - 1, by omega⟩
      rw [lp_s, f_Solver_leastAlike_b12, if_pos (nI_le (by omega) (by omega))]
      show some (nI p, σ) = some (nI i, σ)
      rw [show i = p by omega]
    | succ m ih =>
      intro i f hi hf hq
      obtain ⟨f, rfl⟩ : ∃ f0, f = f0 + 1 := ⟨f - 1, by omega⟩
      have hin : i < n := by omega
      have b2 : ib (nI i) 60 = true := ib_nI (by omega) (by decide)
      have ki := (h.1.K hin).2
      have e3 := nz_eq (a := T 3 i) (b := T 3 p) (by omega) (by omega)
      have ti := th_le h.1 ap i hin
      have tp' := th_le h.1 ap p hp
      have et := nz_eq (a := th T ap i) (b := th T ap p) (by omega) (by omega)
      have r57 : ∀ q, q ≤ p → rI σ 57 (nI q) = nz (th T ap q) := fun q hq => by rw [rI, nI_clamp (by omega)]; exact h57 q hq
      rw [lp_s, f_Solver_leastAlike_b12, if_neg (nI_ge (by omega) (by omega)), ck_p b2, ck_p b1, h.C (by omega) (by omega) hin, h.C (by omega) (by omega) hp, ck_p b2, ck_p b1, r57 i (by omega), r57 p (Nat.le_refl _), f_Solver_leastAlike_b49, nI_1]
      unfold lst
      by_cases c : T 3 i = T 3 p
      · rw [if_pos (e3.mpr c)]
        by_cases d : th T ap i = th T ap p
        · rw [if_pos (et.mpr d), if_pos (show gpr T ap p i = true from decide_eq_true ⟨c, d⟩)]
        · have z : gpr T ap p i = false := decide_eq_false (fun z => d z.2)
          rw [if_neg (fun z => d (et.mp z)), if_neg (by rw [z]; decide)]
          exact ih (i + 1) f (by omega) (by omega) (fun q hq2 => by
            by_cases e : q = i
            · rw [e]; exact z
            · exact hq q (by omega))
      · have z : gpr T ap p i = false := decide_eq_false (fun z => c z.1)
        rw [if_neg (fun z => c (e3.mp z)), if_neg (by rw [z]; decide)]
        exact ih (i + 1) f (by omega) (by omega) (fun q hq2 => by
          by_cases e : q = i
          · rw [e]; exact z
          · exact hq q (by omega))
  have nof : ∀ q, q < T 16 (T 3 p) → gpr T ap p q = false := fun q hq => decide_eq_false (fun z => by
    have := (ss.2.2 q (by omega) z.1).1
    omega)
  unfold f_Solver_leastAlike f_Solver_leastAlike_l12
  rw [h.g, ck_t, ck_p b1, r3, ck_p b3, r16, key (p - T 16 (T 3 p)) (T 16 (T 3 p)) FU (by omega) (by unfold FU; omega) nof]
  unfold gr
  rw [if_pos hh]
  obtain ⟨x1, x2, x3⟩ := lst_ok (gpr T ap p) (p - T 16 (T 3 p)) (T 16 (T 3 p)) nof
  obtain ⟨y1, y2, y3⟩ := lst_ok (gpr T ap p) p 0 (fun k hk => by omega)
  have : lst (gpr T ap p) (p - T 16 (T 3 p)) (T 16 (T 3 p)) = lst (gpr T ap p) p 0 := by
    rcases Nat.lt_trichotomy (lst (gpr T ap p) (p - T 16 (T 3 p)) (T 16 (T 3 p))) (lst (gpr T ap p) p 0) with c | c | c
    · have := y2 _ c
      rw [x3 (by omega)] at this
      cases this
    · exact c
    · have := x2 _ c
      rw [y3 (by omega)] at this
      cases this
  rw [this]
theorem q_tellGroups {ap : Nat} (h : gI σ n T) (ha : ap < 10 ∨ ap = 1000) : ∃ σ', f_Solver_tellGroups (rR σ 0) (nz ap) σ = some σ' ∧ fr [54, 57] [] [] σ σ' ∧ ∀ p, p < n → σ'.1 54 p = nI (gr T ap p) := by
  have n60 := h.n60
  unfold f_Solver_tellGroups f_Solver_tellGroups_l2
  rw [h.g, ck_t]
  generalize hgE : rR σ 0 = g
  have key : ∀ (k : Int32 → Int32 → St → Option St) (i : Nat) (t : St), i < n → fr [54, 57] [] [] σ t → (∀ q, q < i → t.1 57 q = nz (th T ap q)) → ∃ t', f_Solver_tellGroups_b2 g k (nz ap) (nI i) t = k (nz ap) (nI (i + 1)) t' ∧ fr [54, 57] [] [] t t' ∧ t'.1 57 i = nz (th T ap i) ∧ t'.1 54 i = nI (gr T ap i) ∧ (∀ q, q ≠ i → t'.1 57 q = t.1 57 q ∧ t'.1 54 q = t.1 54 q) := by
    intro k i t hi hf hq
    have ht : gI t n T := h.fr hf (by decide) (by decide)
    have hgt : rR t 0 = g := by rw [← hgE]; show t.2.2.2 0 = _; rw [hf.2.2.2]
    have b1 : ib (nI i) 60 = true := ib_nI (by omega) (by decide)
    have ki := (h.1.K hi).2
    -- through
    have fin : ∀ t1 : St, fr [54, 57] [] [] t t1 → (∀ q, q ≤ i → t1.1 57 q = nz (th T ap q)) → t1.1 54 = t.1 54 → (∀ q, q ≠ i → t1.1 57 q = t.1 57 q) → ∃ t', f_Solver_tellGroups_b59 g k (nz ap) (nI i) t1 = k (nz ap) (nI (i + 1)) t' ∧ fr [54, 57] [] [] t t' ∧ t'.1 57 i = nz (th T ap i) ∧ t'.1 54 i = nI (gr T ap i) ∧ (∀ q, q ≠ i → t'.1 57 q = t.1 57 q ∧ t'.1 54 q = t.1 54 q) := by
      intro t1 f1 h57 h54 ho
      have ht1 : gI t1 n T := ht.fr f1 (by decide) (by decide)
      have hg1 : rR t1 0 = g := by rw [← hgt]; show t1.2.2.2 0 = _; rw [f1.2.2.2]
      refine ⟨stA t1 54 i (nI (gr T ap i)), ?_, f1.A (by decide) _ _, ?_, ?_, fun q hq => ?_⟩
      · unfold f_Solver_tellGroups_b59 f_Solver_tellGroups_b82
        have hh := q_isHeld (σ := t1) ht1.g h.1 hi (ht1.2.2.1.1 1 i (by omega) (by omega) hi)
        rw [hg1] at hh
        rw [hh, bd_s]
        by_cases c : T 1 i = 2 ∨ T 1 i = 3
        · have hl := q_least (ap := ap) ht1 hi c h57
          rw [hg1] at hl
          rw [if_pos c, if_neg i10, hl, bd_s, ck_p b1, lE_d, nI_clamp (by omega), nI_1]
        · rw [if_neg c, if_pos rfl, ck_p b1, lE_d, nI_clamp (by omega), nI_1]
          unfold gr
          rw [if_neg c]
      · rw [sA1, if_neg (by decide)]; exact h57 i (Nat.le_refl _)
      · rw [sA1, if_pos rfl, updD, if_pos rfl]
      · rw [sA1, if_neg (show ¬ 57 = 54 by decide), sA1, if_pos rfl, updD, if_neg hq, h54]
        exact ⟨ho q hq, rfl⟩
    have thE : th T ap i = if ap < 1000 ∧ T 3 i = ap then i else if T 5 i < i then th T ap (T 5 i) else 1000 := by
      rw [th]
      by_cases c : ap < 1000 ∧ T 3 i = ap
      · rw [if_pos c, if_pos c]
      · rw [if_neg c, if_neg c]
        by_cases d : T 5 i < i
        · rw [dif_pos d, if_pos d]
        · rw [dif_neg d, if_neg d]
    have mid : ∀ x : Int32, x = nz (if T 5 i < i then th T ap (T 5 i) else 1000) → ∃ t', f_Solver_tellGroups_b35 g k (nz ap) (nI i) (nI i) x t = k (nz ap) (nI (i + 1)) t' ∧ fr [54, 57] [] [] t t' ∧ t'.1 57 i = nz (th T ap i) ∧ t'.1 54 i = nI (gr T ap i) ∧ (∀ q, q ≠ i → t'.1 57 q = t.1 57 q ∧ t'.1 54 q = t.1 54 q) := by
      intro x hx
      unfold f_Solver_tellGroups_b35
      rw [ck_p b1, lE_d, nI_clamp (by omega)]
      have f1 : fr [54, 57] [] [] t (stA t 57 i x) := fr.rf.A (by decide) _ _
      have ht1 : gI (stA t 57 i x) n T := ht.fr f1 (by decide) (by decide)
      have hg1 : rR (stA t 57 i x) 0 = g := by rw [← hgt]; rfl
      have w57 : (∀ q, q ≤ i → (stA t 57 i x).1 57 q = if q = i then x else nz (th T ap q)) := fun q hqi => by
        rw [sA1, if_pos rfl, updD]
        by_cases e : q = i
        · rw [if_pos e, if_pos e]
        · rw [if_neg e, if_neg e]; exact hq q (by omega)
      by_cases c1 : ap = 1000
      · rw [if_pos ((nz_eq0 (by omega)).mpr c1)]
        refine fin _ f1 (fun q hqi => ?_) ?_ (fun q hq => ?_)
        · rw [w57 q hqi]
          by_cases e : q = i
          · rw [if_pos e, e, thE, if_neg (by omega), hx]
          · rw [if_neg e]
        · rw [sA1, if_neg (by decide)]
        · rw [sA1, if_pos rfl, updD, if_neg hq]
      · rw [if_neg (fun z => c1 ((nz_eq0 (by omega)).mp z)), ck_p b1]
        have r3 : rI (stA t 57 i x) (g + 3) (nI i) = nz (T 3 i) := by
          have := ht1.C (j := 3) (by omega) (by omega) hi
          rw [hg1] at this
          exact this
        have e3 := nz_eq (a := T 3 i) (b := ap) (by omega) (by omega)
        rw [r3, ck_p b1]
        by_cases c2 : T 3 i = ap
        · rw [if_pos (e3.mpr c2), lE_d]
          refine fin _ (f1.A (by decide) _ _) (fun q hqi => ?_) ?_ (fun q hq => ?_)
          · rw [sA1, if_pos rfl, updD]
            by_cases e : q = i
            · rw [if_pos e, e, thE, if_pos ⟨by omega, c2⟩, nz_lt (by omega)]
            · rw [if_neg e, w57 q hqi, if_neg e]
          · rw [sA1, if_neg (by decide), sA1, if_neg (by decide)]
          · rw [sA1, if_pos rfl, updD, if_neg hq, sA1, if_pos rfl, updD, if_neg hq]
        · rw [if_neg (fun z => c2 (e3.mp z))]
          refine fin _ f1 (fun q hqi => ?_) ?_ (fun q hq => ?_)
          · rw [w57 q hqi]
            by_cases e : q = i
            · rw [if_pos e, e, thE, if_neg (fun z => c2 z.2), hx]
            · rw [if_neg e]
          · rw [sA1, if_neg (by decide)]
          · rw [sA1, if_pos rfl, updD, if_neg hq]
    have cc : rF t (g + 10) = nI n := by
      have := ht.c1
      rw [hgt] at this
      exact this
    unfold f_Solver_tellGroups_b2
    rw [if_neg (by rw [cc]; exact nI_ge hi (by omega))]
    rcases wf_5 h.1 hi with ⟨i0, e5⟩ | ⟨i0, a1⟩
    · subst i0
      rw [if_pos (show nI 0 = (0 : Int32) from rfl)]
      exact mid _ (by rw [if_neg (by omega)]; rfl)
    · rw [if_neg (nI_ne0 i0 (by omega)), ck_p b1]
      have r5 : rI t (g + 5) (nI i) = nI (T 5 i) := by
        have := ht.C (j := 5) (by omega) (by omega) hi
        rw [hgt, nz_lt (by omega)] at this
        exact this
      rw [r5, ck_p (ib_nI (show T 5 i < 60 by omega) (by decide))]
      exact mid _ (by rw [if_pos a1, rI, nI_clamp (by omega)]; exact hq _ a1)
  obtain ⟨σ', e, i1, i2, i3⟩ := lp_u0 (z := fun _ _ _ => none) (body := f_Solver_tellGroups_b2 g) (fun k i (t : St) => k (nz ap) (nI i) t) (fun i t => fr [54, 57] [] [] σ t ∧ (∀ q, q < i → t.1 57 q = nz (th T ap q)) ∧ (∀ q, q < i → t.1 54 q = nI (gr T ap q))) n (fun t => some t) (fun k i t hi hI => by
    obtain ⟨f1, f2, f3⟩ := hI
    obtain ⟨t', e, g1, g2, g3, g4⟩ := key k i t hi f1 f2
    refine ⟨t', e, f1.tr g1, fun q hq => ?_, fun q hq => ?_⟩
    · by_cases c : q = i
      · rw [c]; exact g2
      · rw [(g4 q c).1]; exact f2 q (by omega)
    · by_cases c : q = i
      · rw [c]; exact g3
      · rw [(g4 q c).2]; exact f3 q (by omega)) (fun k t hI => by
    have ht : gI t n T := h.fr hI.1 (by decide) (by decide)
    have cc : rF t (g + 10) = nI n := by
      have := ht.c1
      rw [show rR t 0 = g by rw [← hgE]; show t.2.2.2 0 = _; rw [hI.1.2.2.2]] at this
      exact this
    show f_Solver_tellGroups_b2 g k (nz ap) (nI n) t = some t
    unfold f_Solver_tellGroups_b2
    rw [if_pos (by rw [cc]; exact nI_le (Nat.le_refl _) (by omega))]) (i := 0) (s := σ) (by omega) (Nat.zero_le _) ⟨fr.rf, fun q hq => by omega, fun q hq => by omega⟩
  exact ⟨σ', e, i1, i3⟩
end
