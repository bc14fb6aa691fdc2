theorem hd_ok {B : Nat → Nat} {L q n a t x d : Nat} {T : TT} {s' : SS} (h : hd B L a t x d (q, n, T) = .inr s') : n < 60 ∧ ∃ q' T', s' = (q', n + 1, T') ∧ ((∃ v, v < 100 ∧ T' = nod T n 0 a t x d v 1000 0) ∨ (∃ v, 2 ≤ v ∧ v ≤ 4 ∧ d < 8 ∧ T' = nod T n 1 a t x d 1000 1000 v) ∨ (∃ w v u, (w = 2 ∨ w = 3) ∧ d < 8 ∧ v < 10 ∧ 2 ≤ u ∧ u ≤ 3 ∧ (T 13 v = 1000 ∨ T 13 v = w - 2) ∧ (T 14 v = 0 ∨ T 14 v = u) ∧ T' = put (nod T n w a t x d 1000 v u) n w v u)) := by
  unfold hd at h
  simp only at h
  split at h
  · cases h
  split at h
  · cases h
  split at h
  · cases h
  rename_i c1 c2 c3
  have v100 := tV_lt B L (tE B L q) (by omega)
  refine ⟨by omega, ?_⟩
  split at h
  · cases h
    exact ⟨_, _, rfl, Or.inl ⟨_, v100, rfl⟩⟩
  split at h
  · split at h
    · cases h
    · cases h
      exact ⟨_, _, rfl, Or.inr (Or.inl ⟨_, by omega, by omega, by omega, rfl⟩)⟩
  split at h
  · cases h
  split at h
  · cases h
  split at h
  · cases h
  cases h
  exact ⟨_, _, rfl, Or.inr (Or.inr ⟨_, _, _, by omega, by omega, by omega, by omega, by omega, by omega, by omega, rfl⟩)⟩
/-- the places that were read stay -/
def exE (s s' : SS) : Prop := s.2.1 ≤ s'.2.1 ∧ ∀ j p, 1 ≤ j → j ≤ 8 → p < s.2.1 → s'.2.2 j p = s.2.2 j p
theorem exE.tr {s s1 s2 : SS} (h : exE s s1) (h2 : exE s1 s2) : exE s s2 := ⟨Nat.le_trans h.1 h2.1, fun j p a b c => by rw [h2.2 j p a b (by have := h.1; omega), h.2 j p a b c]⟩
theorem hd_ext {B : Nat → Nat} {L q n a t x d : Nat} {T : TT} {s' : SS} (h : hd B L a t x d (q, n, T) = .inr s') : exE (q, n, T) s' ∧ s'.2.1 = n + 1 ∧ s'.2.2 6 n = d ∧ (s'.2.2 1 n = 0 ∨ (s'.2.2 1 n = 1 ∧ 2 ≤ s'.2.2 4 n ∧ s'.2.2 4 n ≤ 4 ∧ d < 8) ∨ ((s'.2.2 1 n = 2 ∨ s'.2.2 1 n = 3) ∧ 2 ≤ s'.2.2 4 n ∧ s'.2.2 4 n ≤ 3 ∧ d < 8)) := by
  obtain ⟨h1, q', T', rfl, h2⟩ := hd_ok h
  refine ⟨⟨by simp only; omega, fun j p a b c => ?_⟩, rfl, ?_, ?_⟩
  · simp only at c ⊢
    rcases h2 with ⟨v, hv, rfl⟩ | ⟨v, h3, h4, h5, rfl⟩ | ⟨w, v, u, h3, h4, h5, h6, h7, h8, h9, rfl⟩
    · exact nod_old (by omega) (by omega)
    · exact nod_old (by omega) (by omega)
    · rw [put_low (by omega)]; exact nod_old (by omega) (by omega)
  · rcases h2 with ⟨v, hv, rfl⟩ | ⟨v, h3, h4, h5, rfl⟩ | ⟨w, v, u, h3, h4, h5, h6, h7, h8, h9, rfl⟩
    · simp [nod]
    · simp [nod]
    · simp [put, nod]
  · rcases h2 with ⟨v, hv, rfl⟩ | ⟨v, h3, h4, h5, rfl⟩ | ⟨w, v, u, h3, h4, h5, h6, h7, h8, h9, rfl⟩
    · left; simp [nod]
    · right; left; simp [nod]; omega
    · right; right; simp [put, nod]; omega
theorem dl_ext {B : Nat → Nat} {L m : Nat} {P : Nat → Nat → Nat → SS → RR} (hP : ∀ t x s s', P m t x s = .inr s' → exE s s') : ∀ k l t s s', dl B L P m k l t s = .inr s' → exE s s'
  | 0, l, t, s, s', h => by
    cases h
    exact ⟨Nat.le_refl _, fun _ _ _ _ _ => rfl⟩
  | k + 1, l, t, s, s', h => by
    unfold dl at h
    split at h
    · cases h
    split at h
    · cases h
    cases e : P m t (tV B L s.1) (tE B L s.1, s.2) with
    | inl z => rw [e] at h; cases h
    | inr s1 =>
      rw [e] at h
      have h1 := hP _ _ _ _ e
      have h2 := dl_ext hP k _ _ s1 s' h
      exact exE.tr (s := s) h1 h2
theorem hl_ext {m : Nat} {P : Nat → Nat → Nat → SS → RR} (hP : ∀ t x s s', P m t x s = .inr s' → exE s s') : ∀ k t s s', hl P m k t s = .inr s' → exE s s'
  | 0, t, s, s', h => by
    cases h
    exact ⟨Nat.le_refl _, fun _ _ _ _ _ => rfl⟩
  | k + 1, t, s, s', h => by
    unfold hl at h
    cases e : P m t 0 s with
    | inl z => rw [e] at h; cases h
    | inr s1 =>
      rw [e] at h
      exact (hP _ _ _ _ e).tr (hl_ext hP k _ s1 s' h)
theorem pl_ext (B : Nat → Nat) (L : Nat) : ∀ f d a t x s s', pl B L f d a t x s = .inr s' → exE s s' ∧ s.2.1 < s'.2.1
  | 0, d, a, t, x, s, s', h => by cases h
  | f + 1, d, a, t, x, s, s', h => by
    unfold pl at h
    cases e : hd B L a t x d s with
    | inl z => rw [e] at h; cases h
    | inr s1 =>
      rw [e] at h
      simp only [sb] at h
      obtain ⟨q, n, T⟩ := s
      have h1 := hd_ext e
      have hP : ∀ t x s s', pl B L f (d + 1) n t x s = .inr s' → exE s s' := fun t x s s' hh => (pl_ext B L f (d + 1) n t x s s' hh).1
      split at h
      · cases h
        exact ⟨h1.1, by rw [h1.2.1]; simp⟩
      split at h
      · have h2 := dl_ext hP _ _ _ _ _ h
        refine ⟨h1.1.tr h2, ?_⟩
        have := h2.1
        rw [h1.2.1] at this
        simp only; omega
      · have h2 := hl_ext hP _ _ _ _ h
        refine ⟨h1.1.tr h2, ?_⟩
        have := h2.1
        rw [h1.2.1] at this
        simp only; omega
/-- what the class makes of a reading -/
def cRes (B : Nat → Nat) (L g : Nat) (σ : St) (r : RR) (m : Option (Int32 × St)) : Prop := match r with
  | .inl e => ∃ σ', m = some (0, σ') ∧ σ'.2.2.1 7 = nI e.1 ∧ σ'.2.2.1 8 = nI e.2 ∧ fr (kaC g) [] (kfC g) σ σ'
  | .inr s => ∃ σ', m = some (1, σ') ∧ cS B L g s σ' ∧ fr (kaC g) [] (kfC g) σ σ'
theorem cRes.fr {B : Nat → Nat} {L g : Nat} {σ0 σ : St} {r : RR} {m : Option (Int32 × St)} (h : cRes B L g σ r m) (hf : fr (kaC g) [] (kfC g) σ0 σ) : cRes B L g σ0 r m := by
  cases r with
  | inl e => obtain ⟨σ', h1, h2, h3, h4⟩ := h; exact ⟨σ', h1, h2, h3, hf.tr h4⟩
  | inr s => obtain ⟨σ', h1, h2, h3⟩ := h; exact ⟨σ', h1, h2, hf.tr h3⟩
theorem cRes_bd {B : Nat → Nat} {L g : Nat} {σ : St} {r : RR} {m : Option (Int32 × St)} (h : cRes B L g σ r m) : cRes B L g σ r (bd m fun r σ => ck (isB r) <| some (r, σ)) := by
  cases r with
  | inl e => obtain ⟨σ', h1, h2, h3, h4⟩ := h; exact ⟨σ', by rw [h1]; rfl, h2, h3, h4⟩
  | inr s => obtain ⟨σ', h1, h2, h3⟩ := h; exact ⟨σ', by rw [h1]; rfl, h2, h3⟩
theorem c_held {B : Nat → Nat} {L g m d : Nat} {P : Nat → Nat → Nat → SS → RR} {rp : Nat → Int32 → Int32 → Int32 → St → Option (Int32 × St)} (hP : ∀ t x s σ, cS B L g s σ → m < s.2.1 → s.2.2 6 m = d → t < 4 → x < 100 → cRes B L g σ (P m t x s) (rp g (nI m) (nI t) (nI x) σ)) (hE : ∀ t x s s', P m t x s = .inr s' → exE s s') : ∀ k t s σ F v, cS B L g s σ → m < s.2.1 → s.2.2 6 m = d → t + k = v → v ≤ 4 → k < F → cRes B L g σ (hl P m k t s) (lp (fun _ _ _ _ => none) (f_Reader_readHeld_b123 g rp) F (nI m) (nI v) (nI t) σ)
  | 0, t, s, σ, F + 1, v, h, hm, hd, ht, hv, hF => by
    refine ⟨σ, ?_, h, fr.rf⟩
    rw [lp_s]
    unfold f_Reader_readHeld_b123
    rw [if_pos (nI_le (by omega) (by omega))]
  | k + 1, t, s, σ, F + 1, v, h, hm, hd, ht, hv, hF => by
    have h1 := hP t 0 s σ h hm hd (by omega) (by omega)
    rw [lp_s]
    unfold hl
    have e0 : f_Reader_readHeld_b123 g rp (lp (fun _ _ _ _ => none) (f_Reader_readHeld_b123 g rp) F) (nI m) (nI v) (nI t) σ = bd (rp g (nI m) (nI t) (nI 0) σ) fun r4 σ3 => if r4 = 0 then (some (0, σ3)) else (lp (fun _ _ _ _ => none) (f_Reader_readHeld_b123 g rp) F (nI m) (nI v) (nI t + 1) σ3) := by
      generalize lp (fun _ _ _ _ => none) (f_Reader_readHeld_b123 g rp) F = K
      unfold f_Reader_readHeld_b123
      rw [if_neg (nI_ge (by omega) (by omega))]
      rfl
    rw [e0]
    cases e : P m t 0 s with
    | inl z =>
      rw [e] at h1
      obtain ⟨σ', a1, a2, a3, a4⟩ := h1
      refine ⟨σ', ?_, a2, a3, a4⟩
      rw [a1, bd_s, if_pos rfl]
    | inr s1 =>
      rw [e] at h1
      obtain ⟨σ', a1, a2, a3⟩ := h1
      have x1 := hE _ _ _ _ e
      have h2 := c_held hP hE k (t + 1) s1 σ' F v a2 (by have := x1.1; omega) (by rw [x1.2 6 m (by omega) (by omega) hm]; exact hd) (by omega) hv (by omega)
      rw [a1, bd_s, if_neg (by decide : ¬ (1 : Int32) = 0), nI_1]
      exact h2.fr a3
theorem c_deal {B : Nat → Nat} {L g m d : Nat} {P : Nat → Nat → Nat → SS → RR} {rp : Nat → Int32 → Int32 → Int32 → St → Option (Int32 × St)} (hg : g = 10 ∨ g = 28) (hP : ∀ t x s σ, cS B L g s σ → m < s.2.1 → s.2.2 6 m = d → t < 4 → x < 100 → cRes B L g σ (P m t x s) (rp g (nI m) (nI t) (nI x) σ)) (hE : ∀ t x s s', P m t x s = .inr s' → exE s s') : ∀ k t l s σ F v, cS B L g s σ → m < s.2.1 → s.2.2 6 m = d → t + k = v → v ≤ 4 → l ≤ 12 → k < F → cRes B L g σ (dl B L P m k l t s) (lp (fun _ _ _ _ _ => none) (f_Reader_readDeal_b59 g rp) F (nI m) (nI v) (nI l) (nI t) σ)
  | 0, t, l, s, σ, F + 1, v, h, hm, hd, ht, hv, hl, hF => by
    refine ⟨σ, ?_, h, fr.rf⟩
    rw [lp_s]
    unfold f_Reader_readDeal_b59
    rw [if_pos (nI_le (by omega) (by omega))]
  | k + 1, t, l, s, σ, F + 1, v, h, hm, hd, ht, hv, hl, hF => by
    have h' := h
    obtain ⟨g0, g1, g2, g3, g4, g5, g6⟩ := h'
    obtain ⟨b41, b42, b43, b44⟩ := g2
    have hE1 := tE_le B g1
    have t4 := tC_lt B L s.1
    have i4 : (nI (tC B L s.1) = 4) ↔ tC B L s.1 = 4 := nI_eq (b := 4) (by omega) (by decide)
    rw [lp_s]
    unfold dl
    have gi := c_deal hg hP hE k (t + 1) (l - tV B L s.1)
    generalize eK : lp (fun _ _ _ _ _ => none) (f_Reader_readDeal_b59 g rp) F = K
    unfold f_Reader_readDeal_b59
    rw [if_neg (nI_ge (by omega) (by omega))]
    simp only [rF, b41, i4]
    by_cases d4 : tC B L s.1 = 4
    · rw [if_pos d4, if_neg (by omega : ¬ tC B L s.1 ≠ 4)]
      have v100 := tV_lt B L s.1 d4
      have f5 := b44 d4
      have iv : (nI t = nI v - 1) ↔ t = v - 1 := by
        rw [show (1 : Int32) = nI 1 from rfl, pk_sub (by omega)]
        exact nI_eq (by omega) (by omega)
      have ilv : (nI l ≤ nI (tV B L s.1)) ↔ l ≤ tV B L s.1 := nI_leI (by omega) (by omega)
      have i1 : (nI (tV B L s.1) < 1) ↔ tV B L s.1 < 1 := nI_ltI (b := 1) (by omega) (by decide)
      have i12 : ((12 : Int32) ≤ nI (tV B L s.1)) ↔ 12 ≤ tV B L s.1 := nI_leI (a := 12) (by decide) (by omega)
      have ilt : (nI l < nI (tV B L s.1)) ↔ l < tV B L s.1 := nI_ltI (by omega) (by omega)
      simp only [f5, iv, ilv]
      obtain ⟨σf, y1, y2, y3, y4⟩ := @c_fail B L s.1 g 2 σ σ ⟨b41, b42, b43, b44⟩ fr.rf
      have y5 : f_Reader_readDeal_b135 g rp σ = some (0, σf) := y1
      by_cases bad : tV B L s.1 < 1 ∨ 12 ≤ tV B L s.1 ∨ l < tV B L s.1 ∨ (k = 0 ∧ tV B L s.1 < l)
      · rw [if_pos bad]
        refine ⟨σf, ?_, y2, y3, y4⟩
        have all : ∀ z : Int32, (z = 0 → tV B L s.1 < 1 ∨ 12 ≤ tV B L s.1 ∨ l < tV B L s.1) → f_Reader_readDeal_b108 g rp K (nI m) (nI v) (nI l) (nI t) (nI (tV B L s.1)) z σ = some (0, σf) := by
          intro z hz
          unfold f_Reader_readDeal_b108
          simp only [i1, i12, ilt, y5]
          by_cases c1 : tV B L s.1 < 1
          · rw [if_pos c1]
          · rw [if_neg c1]
            by_cases c2 : 12 ≤ tV B L s.1
            · rw [if_pos c2]
            · rw [if_neg c2]
              by_cases c3 : l < tV B L s.1
              · rw [if_pos c3]
              · rw [if_neg c3]
                rw [if_neg (fun e => by have := hz e; omega)]
        unfold f_Reader_readDeal_b107
        by_cases c1 : t = v - 1
        · rw [if_pos c1]
          by_cases c2 : l ≤ tV B L s.1
          · rw [if_pos c2]
            exact all 0 (fun _ => by omega)
          · rw [if_neg c2]
            exact all 1 (fun e => absurd e (by decide))
        · rw [if_neg c1]
          exact all 0 (fun _ => by omega)
      · rw [if_neg bad]
        obtain ⟨σ2, x1, x2, x3, x4⟩ := c_step g0 hE1.2 b43
        have ga : g + 10 ∉ [3, 4, 5, 6] ∧ (∀ k ∈ [3, 4, 5, 6], k ∈ kfC g) := by rcases hg with rfl | rfl <;> decide
        have fr2 : fr (kaC g) [] (kfC g) σ σ2 := x2.mo (by simp) (by simp) ga.2
        have e21 : ∀ k, σ2.1 k = σ.1 k := fun k => x2.1 k (by simp)
        have cs2 : cS B L g (tE B L s.1, s.2) σ2 := by
          refine ⟨x3, hE1.2, x4, ?_, g4, g5, ?_⟩
          · rw [x2.2.2.1 _ ga.1]; exact g3
          · obtain ⟨r1, r2, r3, r4, r5, r6⟩ := g6
            refine ⟨fun j p a b c => ?_, fun p a => ?_, fun i hi => ?_, fun j s a b c => ?_, ?_, ?_⟩
            · rw [e21]; exact r1 j p a b c
            · rw [e21]; exact r2 p a
            · rw [e21]; exact r3 i hi
            · rw [e21]; exact r4 j s a b c
            · rw [e21]; exact r5
            · rw [e21]; exact r6
        have h1 := hP t (tV B L s.1) (tE B L s.1, s.2) σ2 cs2 hm hd (by omega) (by omega)
        have go : f_Reader_readDeal_b108 g rp K (nI m) (nI v) (nI l) (nI t) (nI (tV B L s.1)) 0 σ = bd (rp g (nI m) (nI t) (nI (tV B L s.1)) σ2) fun r9 σ8 => if r9 = 0 then (some (0, σ8)) else (K (nI m) (nI v) (nI (l - tV B L s.1)) (nI (t + 1)) σ8) := by
          unfold f_Reader_readDeal_b108
          simp only [i1, i12, ilt]
          rw [if_neg (by omega), if_neg (by omega), if_neg (by omega), if_pos trivial, x1, bv_s, pk_sub (by omega), nI_1]
        have way : (if t = v - 1 then (if l ≤ tV B L s.1 then f_Reader_readDeal_b107 g rp K (nI m) (nI v) (nI l) (nI t) (nI (tV B L s.1)) σ else f_Reader_readDeal_b108 g rp K (nI m) (nI v) (nI l) (nI t) (nI (tV B L s.1)) 1 σ) else f_Reader_readDeal_b107 g rp K (nI m) (nI v) (nI l) (nI t) (nI (tV B L s.1)) σ) = f_Reader_readDeal_b108 g rp K (nI m) (nI v) (nI l) (nI t) (nI (tV B L s.1)) 0 σ := by
          unfold f_Reader_readDeal_b107
          by_cases c1 : t = v - 1
          · rw [if_pos c1, if_pos (by omega)]
          · rw [if_neg c1]
        rw [way, go]
        cases e : P m t (tV B L s.1) (tE B L s.1, s.2) with
        | inl z =>
          rw [e] at h1
          obtain ⟨σ', a1, a2, a3, a4⟩ := h1
          refine ⟨σ', ?_, a2, a3, fr2.tr a4⟩
          rw [a1, bd_s, if_pos rfl]
        | inr s1 =>
          rw [e] at h1
          obtain ⟨σ', a1, a2, a3⟩ := h1
          have x1 := hE _ _ _ _ e
          have h2 := gi s1 σ' F v a2 (by have := x1.1; simp only at this; omega) (by rw [x1.2 6 m (by omega) (by omega) hm]; exact hd) (by omega) hv (by omega) (by omega)
          rw [a1, bd_s, if_neg (by decide : ¬ (1 : Int32) = 0), ← eK]
          exact h2.fr (fr2.tr a3)
    · rw [if_neg d4, if_pos d4]
      exact @c_fail B L s.1 g 1 σ σ ⟨b41, b42, b43, b44⟩ fr.rf
theorem c_place {B : Nat → Nat} {L g : Nat} (hg : g = 10 ∨ g = 28) : ∀ f d a t x s σ, cS B L g s σ → ((a = 1000 ∧ d = 0) ∨ (a < s.2.1 ∧ s.2.2 6 a + 1 = d)) → t < 4 → x < 100 → d ≤ 8 → 9 ≤ f + d → cRes B L g σ (pl B L f d a t x s) (f_Reader_readPlaceR f g (nz a) (nI t) (nI x) σ)
  | 0, d, a, t, x, s, σ, h, ha, ht, hx, hd8, hf => by omega
  | f + 1, d, a, t, x, s, σ, h, ha, ht, hx, hd8, hf => by
    obtain ⟨q, n, T⟩ := s
    have h1 := c_head hg (f_Reader_readPlaceR f) h ha ht hx hd8
    have e0 : f_Reader_readPlaceR (f + 1) g (nz a) (nI t) (nI x) σ = f_Reader_readPlace (f_Reader_readPlaceR f) g (nz a) (nI t) (nI x) σ := rfl
    rw [e0]
    unfold pl
    cases e : hd B L a t x d (q, n, T) with
    | inl z => rw [e] at h1; exact h1
    | inr s1 =>
      rw [e] at h1
      obtain ⟨σ1, a1, a2, a3⟩ := h1
      have x1 := hd_ext e
      rw [a1]
      unfold ctl sb
      simp only
      have n1 : n < s1.2.1 := by rw [x1.2.1]; omega
      have n60 : n < 60 := by have := a2.2.2.2.2.1; omega
      have hE : ∀ t x s s', pl B L f (d + 1) n t x s = .inr s' → exE s s' := fun t x s s' hh => (pl_ext B L f (d + 1) n t x s s' hh).1
      have hP : d < 8 → ∀ t x s σ, cS B L g s σ → n < s.2.1 → s.2.2 6 n = d → t < 4 → x < 100 → cRes B L g σ (pl B L f (d + 1) n t x s) (f_Reader_readPlaceR f g (nI n) (nI t) (nI x) σ) := by
        intro d8 t x s σ q1 q2 q3 q4 q5
        rw [← nz_lt (show n < 1000 by omega)]
        exact c_place hg f (d + 1) n t x s σ q1 (Or.inr ⟨q2, by omega⟩) q4 q5 (by omega) (by omega)
      by_cases w0 : s1.2.2 1 n = 0
      · rw [if_pos w0, if_pos w0]
        exact ⟨σ1, rfl, a2, a3⟩
      · rw [if_neg w0, if_neg w0]
        by_cases w1 : s1.2.2 1 n = 1
        · rw [if_pos w1, if_pos w1]
          apply cRes_bd
          have := c_deal (d := d) hg (P := fun m t x s => pl B L f (d + 1) m t x s) (rp := f_Reader_readPlaceR f) (hP (by omega)) hE (s1.2.2 4 n) 0 12 s1 σ1 FU (s1.2.2 4 n) a2 n1 x1.2.2.1 (by omega) (by omega) (by omega) (by unfold FU; omega)
          exact this.fr a3
        · rw [if_neg w1, if_neg w1]
          apply cRes_bd
          have := c_held (d := d) (P := fun m t x s => pl B L f (d + 1) m t x s) (rp := f_Reader_readPlaceR f) (hP (by omega)) hE (s1.2.2 4 n) 0 s1 σ1 FU (s1.2.2 4 n) a2 n1 x1.2.2.1 (by omega) (by omega) (by unfold FU; omega)
          exact this.fr a3
