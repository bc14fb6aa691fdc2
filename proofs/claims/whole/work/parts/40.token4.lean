/-- the reference's tape holds the bytes B -/
def tm (B : Nat → Nat) (T : Nat) (σ : St) : Prop := T ≤ 600 ∧ True ∧ σ.2.2.1 41 = nI T ∧ ∀ i, i < T → B i < 256 ∧ σ.1 66 i = nI (B i) ∧ True
theorem tm.fr {B : Nat → Nat} {T : Nat} {ka kl kf : List Nat} {σ σ' : St} (h : tm B T σ) (hf : fr ka kl kf σ σ') (_ : 50 ∉ ka) (h2 : 66 ∉ ka) (_ : 2 ∉ kf) (h4 : 41 ∉ kf) : tm B T σ' := by
  unfold tm
  rw [hf.2.2.1 41 h4, hf.1 66 h2]
  exact h
theorem tp.m {B : Nat → Nat} {T : Nat} {σ : St} (h : tp B T σ) : tm B T σ := ⟨h.1, trivial, h.2.2.1, fun i hi => ⟨(h.2.2.2 i hi).1, (h.2.2.2 i hi).2.1, trivial⟩⟩
/-- the reference's sort of the token -/
def tR (B : Nat → Nat) (T q : Nat) : Nat := if tS B T q = T then 0 else if ltB (B (tS B T q)) = true then 1 else if dgB (B (tS B T q)) = true then (if tE B T q - tS B T q ≤ 2 then 2 else 4) else if B (tS B T q) = 59 then 3 else 4
theorem q_minL {b : Nat} (hb : b < 256) (σ : St) : f_HM_in (nI b).toInt64 97 122 σ = some (if ltB b = true then 1 else 0, σ) := by
  rw [q_HM_in, (mb b hb).2.2.2.1]
theorem q_minD {b : Nat} (hb : b < 256) (σ : St) : f_HM_in (nI b).toInt64 48 57 σ = some (if dgB b = true then 1 else 0, σ) := by
  rw [q_HM_in, (mb b hb).2.2.2.2]
theorem mtoken_ws {B : Nat → Nat} {T : Nat} : ∀ (m q f : Nat) (σ : St), tm B T σ → q + m = T → m < f → σ.2.2.1 46 = nI q → lp (fun _ => none) f_HM_token_b0 f σ = f_HM_token_b52 (stF σ 46 (nI (spn wsB B m q)))
  | 0, q, f + 1, σ, ht, hq, _, h6 => by
    rw [lp_s]
    unfold f_HM_token_b0 rF
    rw [h6, ht.2.2.1, if_pos (nI_le (by omega) (by have := ht.1; omega))]
    unfold spn
    rw [stF_self h6]
  | m + 1, q, f + 1, σ, ht, hq, hf, h6 => by
    have h600 := ht.1
    obtain ⟨b1, b2, b3⟩ := ht.2.2.2 q (by omega)
    have ih := mtoken_ws m (q + 1) f (stF σ 46 (nI (q + 1))) (ht.fr (fr.rf.F (ka := []) (kl := []) (kf := [46]) (by decide) _) (by decide) (by decide) (by decide) (by decide)) (by omega) (by omega) (by rw [sF3, if_pos rfl])
    rw [lp_s]
    generalize lp (fun _ => none) f_HM_token_b0 f = K at ih ⊢
    unfold f_HM_token_b0 rF rI
    rw [h6, ht.2.2.1, if_neg (nI_ge (by omega) (by omega)), ck_p (ib_nI (by omega) (by decide)), ck_p (ib_nI (by omega) (by decide)), nI_clamp (by omega), b2]
    simp only [(mb _ b1).1, (mb _ b1).2.1]
    have again : f_HM_token_b39 K σ = f_HM_token_b52 (stF σ 46 (nI (spn wsB B m (q + 1)))) := by
      unfold f_HM_token_b39 rF
      rw [lE_d, h6, nI_1, ih, stF_tw]
    unfold spn
    by_cases e1 : B q = 32
    · rw [if_pos e1, if_pos (show wsB (B q) = true by rw [e1]; rfl)]
      exact again
    · rw [if_neg e1]
      by_cases e2 : B q = 10
      · rw [if_pos e2, if_pos (show wsB (B q) = true by rw [e2]; rfl)]
        exact again
      · rw [if_neg e2, if_neg (show ¬ wsB (B q) = true by simp [wsB, e1, e2]), stF_self h6]
/-- the figures' number, two at most -/
theorem mfig_loop {B : Nat → Nat} {T s e : Nat} : ∀ (m k f : Nat) (σ : St), tm B T σ → e ≤ T → s ≤ k → k + m = min e (s + 2) → m < f → σ.2.2.1 46 = nI e → σ.2.2.1 47 = nI s → σ.2.2.1 49 = nI (nv B s (k - s)) → s < e → (∀ j, s ≤ j → j < e → 48 ≤ B j ∧ B j ≤ 57) → ∃ σ', lp (fun _ _ => none) f_HM_token_b264 f (nI k) σ = some σ' ∧ fr [] [] [48, 49] σ σ' ∧ σ'.2.2.1 48 = nI (if e - s ≤ 2 then 2 else 4) ∧ σ'.2.2.1 49 = nI (nv B s (min e (s + 2) - s))
  | 0, k, f + 1, σ, ht, he, hs, hk, _, h6, h7, h9, hse, hd => by
    have h600 := ht.1
    refine ⟨stF σ 48 (nI (if e - s ≤ 2 then 2 else 4)), ?_, fr.rf.F (by decide) _, by rw [sF3, if_pos rfl], by rw [sF3, if_neg (by decide), h9]; congr 2; omega⟩
    rw [lp_s]
    have h309 : f_HM_token_b309 σ = some (stF σ 48 (nI (if e - s ≤ 2 then 2 else 4))) := by
      unfold f_HM_token_b309 rF
      rw [h6, h7, pk_sub (by omega)]
      by_cases c : e - s ≤ 2
      · rw [if_pos (show nI (e - s) ≤ 2 from nI_le (b := 2) c (by decide)), if_pos c, lE_d]; rfl
      · rw [if_neg (show ¬ nI (e - s) ≤ 2 from nI_ge (a := 2) (by omega) (by omega)), if_neg c, lE_d]; rfl
    unfold f_HM_token_b264 rF
    rw [h6, h7, h309]
    by_cases c : e ≤ k
    · rw [if_pos (nI_le c (by omega))]
    · rw [if_neg (nI_ge (by omega) (by omega)), show (2 : Int32) = nI 2 from rfl, nI_add, if_pos (nI_le (by omega) (by omega))]
  | m + 1, k, f + 1, σ, ht, he, hs, hk, hf, h6, h7, h9, hse, hd => by
    have h600 := ht.1
    obtain ⟨b1, b2, b3⟩ := ht.2.2.2 k (by omega)
    have hb := hd k hs (by omega)
    have hnv : nv B s (k + 1 - s) = 10 * nv B s (k - s) + B k - 48 := by
      unfold nv
      have : k - s = 0 ∨ k - s = 1 := by omega
      rcases this with z | z
      · have : k = s := by omega
        subst this
        simp
      · have z2 : k + 1 - s = 2 := by omega
        have : k = s + 1 := by omega
        subst this
        rw [z, z2]
        have := hd s (by omega) (by omega)
        simp
        omega
    obtain ⟨σ', g1, g2, g3, g4⟩ := mfig_loop (s := s) (e := e) m (k + 1) f (stF σ 49 (nI (nv B s (k + 1 - s)))) (ht.fr (fr.rf.F (ka := []) (kl := []) (kf := [49]) (by decide) _) (by decide) (by decide) (by decide) (by decide)) he (by omega) (by omega) (by omega) (by rw [sF3, if_neg (by decide)]; exact h6) (by rw [sF3, if_neg (by decide)]; exact h7) (by rw [sF3, if_pos rfl]) hse hd
    refine ⟨σ', ?_, (fr.rf.F (by decide) _).tr g2, g3, g4⟩
    rw [lp_s]
    generalize lp (fun _ _ => none) f_HM_token_b264 f = K at g1 ⊢
    unfold f_HM_token_b264 rF rI
    rw [h6, h7, if_neg (nI_ge (by omega) (by omega)), show (2 : Int32) = nI 2 from rfl, nI_add, if_neg (nI_ge (by omega) (by omega)), ck_p (ib_nI (by omega) (by decide)), lE_d, nI_clamp (by omega), b2, h9, show (10 : Int32) = nI 10 from rfl, pk_mul, nI_add, show (48 : Int32) = nI 48 from rfl, pk_sub (by omega), ← hnv, nI_1]
    exact g1
/-- on along a name (c = 1) or figures (c = 2) -/
theorem mrun {B : Nat → Nat} {T : Nat} (P : Nat → Bool) (c : Nat) (hc : (c = 1 ∧ P = ltB) ∨ (c = 2 ∧ P = dgB)) : ∀ (m q f : Nat) (σ : St), tm B T σ → q + m = T → m < f → σ.2.2.1 46 = nI q → σ.2.2.1 48 = nI c → lp (fun _ => none) f_HM_token_b162 f σ = f_HM_token_b246 (stF σ 46 (nI (spn P B m q)))
  | 0, q, f + 1, σ, ht, hq, _, h6, h8 => by
    rw [lp_s]
    unfold f_HM_token_b162 rF
    rw [h6, ht.2.2.1, if_pos (nI_le (by omega) (by have := ht.1; omega))]
    unfold spn
    rw [stF_self h6]
  | m + 1, q, f + 1, σ, ht, hq, hf, h6, h8 => by
    have h600 := ht.1
    obtain ⟨b1, b2, b3⟩ := ht.2.2.2 q (by omega)
    have ih := mrun P c hc m (q + 1) f (stF σ 46 (nI (q + 1))) (ht.fr (fr.rf.F (ka := []) (kl := []) (kf := [46]) (by decide) _) (by decide) (by decide) (by decide) (by decide)) (by omega) (by omega) (by rw [sF3, if_pos rfl]) (by rw [sF3, if_neg (by decide)]; exact h8)
    rw [lp_s]
    generalize lp (fun _ => none) f_HM_token_b162 f = K at ih ⊢
    have h233 : f_HM_token_b233 K σ = f_HM_token_b246 (stF σ 46 (nI (spn P B m (q + 1)))) := by
      unfold f_HM_token_b233 rF
      rw [lE_d, h6, nI_1, ih, stF_tw]
    unfold f_HM_token_b162 f_HM_token_b203 rF rI
    rw [h6, h8, ht.2.2.1, if_neg (nI_ge (by omega) (by omega)), nI_clamp (by omega), b2]
    unfold spn
    rcases hc with ⟨rfl, rfl⟩ | ⟨rfl, rfl⟩
    · rw [if_pos (show nI 1 = 1 from rfl), ck_p (ib_nI (by omega) (by decide)), q_minL b1, bd_s]
      by_cases e : ltB (B q) = true
      · rw [if_pos e, if_neg (by decide), if_pos e]; exact h233
      · rw [if_neg e, if_pos rfl, h8, if_neg (show ¬ nI 1 = 2 by decide), if_neg e, stF_self h6]
    · rw [if_neg (show ¬ nI 2 = 1 by decide), if_pos (show nI 2 = 2 from rfl), ck_p (ib_nI (by omega) (by decide)), q_minD b1, bd_s]
      by_cases e : dgB (B q) = true
      · rw [if_pos e, if_neg (by decide), if_pos e]; exact h233
      · rw [if_neg e, if_pos rfl, if_neg e, stF_self h6]
theorem mrun0 {B : Nat → Nat} {T q c : Nat} {σ : St} {f : Nat} (ht : tm B T σ) (hq : q ≤ T) (h6 : σ.2.2.1 46 = nI q) (h8 : σ.2.2.1 48 = nI c) (hc : c = 3 ∨ c = 4) : lp (fun _ => none) f_HM_token_b162 (f + 1) σ = f_HM_token_b246 σ := by
  have h600 := ht.1
  rw [lp_s]
  unfold f_HM_token_b162 f_HM_token_b203 rF
  rw [h6, ht.2.2.1, h8]
  by_cases e : T ≤ q
  · rw [if_pos (nI_le e (by omega))]
  · rw [if_neg (nI_ge (by omega) (by omega))]
    rcases hc with rfl | rfl
    · rw [if_neg (by decide), if_neg (by decide)]
    · rw [if_neg (by decide), if_neg (by decide)]
theorem spn_in (P : Nat → Bool) (B : Nat → Nat) : ∀ m q j, q ≤ j → j < spn P B m q → P (B j) = true
  | 0, q, j, h1, h2 => by unfold spn at h2; omega
  | m + 1, q, j, h1, h2 => by
    unfold spn at h2
    by_cases e : P (B q) = true
    · rw [if_pos e] at h2
      by_cases z : j = q
      · rw [z]; exact e
      · exact spn_in P B m (q + 1) j (by omega) h2
    · rw [if_neg e] at h2; omega
theorem spn_s {P : Nat → Bool} {B : Nat → Nat} {T s : Nat} (hs : s < T) (h : P (B s) = true) : spn P B (T - s) s = spn P B (T - (s + 1)) (s + 1) := by
  rw [show T - s = (T - (s + 1)) + 1 by omega]
  show (if P (B s) = true then _ else _) = _
  rw [if_pos h]
/-- the reference's next token, from the place q on -/
theorem q_token {B : Nat → Nat} {T q : Nat} {σ : St} (ht : tm B T σ) (hq : q ≤ T) (h6 : σ.2.2.1 46 = nI q) : ∃ σ', f_HM_token σ = some σ' ∧ fr [] [] [46, 47, 48, 49] σ σ' ∧ σ'.2.2.1 47 = nI (tS B T q) ∧ σ'.2.2.1 46 = nI (tE B T q) ∧ σ'.2.2.1 48 = nI (tR B T q) ∧ (tC B T q = 4 → σ'.2.2.1 49 = nI (tV B T q)) := by
  have h600 := ht.1
  have hS1 : q ≤ tS B T q := spn_ge _ _ _ _
  have hS2 : tS B T q ≤ T := by have := spn_le wsB B (T - q) q; unfold tS; omega
  have e0 : f_HM_token σ = f_HM_token_b52 (stF σ 46 (nI (tS B T q))) := by
    unfold f_HM_token f_HM_token_l0
    exact mtoken_ws (T - q) q FU σ ht (by omega) (by unfold FU; omega) h6
  rw [e0]
  obtain ⟨s, hs⟩ : ∃ s, s = tS B T q := ⟨_, rfl⟩
  rw [← hs] at hS1 hS2 ⊢
  have ht1 : tm B T (stF (stF (stF σ 46 (nI s)) 47 (nI s)) 48 0) := ht.fr (((fr.rf.F (ka := []) (kl := []) (kf := [46, 47, 48]) (by decide) _).F (by decide) _).F (by decide) _) (by decide) (by decide) (by decide) (by decide)
  have hfr : fr [] [] [46, 47, 48, 49] σ (stF (stF (stF σ 46 (nI s)) 47 (nI s)) 48 0) := ((fr.rf.F (by decide) _).F (by decide) _).F (by decide) _
  unfold f_HM_token_b52 rF
  rw [show (stF σ 46 (nI s)).2.2.1 46 = nI s from by rw [sF3, if_pos rfl], lE_d, lE_d]
  have a6 : (stF (stF (stF σ 46 (nI s)) 47 (nI s)) 48 0).2.2.1 46 = nI s := by rw [sF3, if_neg (by decide), sF3, if_neg (by decide), sF3, if_pos rfl]
  have a7 : (stF (stF (stF σ 46 (nI s)) 47 (nI s)) 48 0).2.2.1 47 = nI s := by rw [sF3, if_neg (by decide), sF3, if_pos rfl]
  have a8 : (stF (stF (stF σ 46 (nI s)) 47 (nI s)) 48 0).2.2.1 48 = 0 := by rw [sF3, if_pos rfl]
  generalize stF (stF (stF σ 46 (nI s)) 47 (nI s)) 48 0 = σa at ht1 hfr a6 a7 a8 ⊢
  rw [a6, ht1.2.2.1]
  simp only [nI_eq (show s < 2 ^ 31 by omega) (show T < 2 ^ 31 by omega)]
  by_cases c0 : s = T
  · rw [if_pos c0]
    refine ⟨σa, rfl, hfr, a7, ?_, ?_, ?_⟩
    · rw [a6]; unfold tE; rw [if_pos (by rw [← hs]; exact c0), c0]
    · rw [a8]; unfold tR; rw [if_pos (by rw [← hs]; exact c0)]; rfl
    · intro h; unfold tC at h; rw [if_pos (by rw [← hs]; exact c0)] at h; omega
  · obtain ⟨b1, b2, b3⟩ := ht1.2.2.2 s (by omega)
    have hsT : ¬ tS B T q = T := by rw [← hs]; exact c0
    unfold rI
    rw [if_neg c0, ck_p (ib_nI (by omega) (by decide)), nI_clamp (by omega), b2, q_minL b1, bd_s]
    -- what b149 comes to
    have hb : ∀ (c : Nat), f_HM_token_b149 (nI c) σa = lp (fun _ => none) f_HM_token_b162 FU (stF (stF σa 48 (nI c)) 46 (nI (s + 1))) := fun c => by
      unfold f_HM_token_b149 f_HM_token_l162 rF
      rw [lE_d, lE_d, sF3 _ 48 _ 46, if_neg (by decide), a6, nI_1]
    have ht2 : ∀ c : Nat, tm B T (stF (stF σa 48 (nI c)) 46 (nI (s + 1))) := fun c => ht1.fr ((fr.rf.F (ka := []) (kl := []) (kf := [46, 48]) (by decide) _).F (by decide) _) (by decide) (by decide) (by decide) (by decide)
    have hf2 : ∀ c : Nat, fr [] [] [46, 47, 48, 49] σ (stF (stF σa 48 (nI c)) 46 (nI (s + 1))) := fun c => (hfr.F (by decide) _).F (by decide) _
    by_cases c1 : ltB (B s) = true
    · rw [if_pos c1, if_neg (by decide), show (1 : Int32) = nI 1 from rfl, hb 1, mrun ltB 1 (Or.inl ⟨rfl, rfl⟩) (T - (s + 1)) (s + 1) FU _ (ht2 1) (by omega) (by unfold FU; omega) (by rw [sF3, if_pos rfl]) (by rw [sF3, if_neg (by decide), sF3, if_pos rfl]), stF_tw, ← spn_s (by omega) c1]
      have hE : tE B T q = spn ltB B (T - s) s := by unfold tE; rw [if_neg hsT, ← hs, if_pos c1]
      unfold f_HM_token_b246 rF
      rw [lE_d, if_neg (show ¬ (stF (stF (stF σa 48 (nI 1)) 46 (nI (spn ltB B (T - s) s))) 49 0).2.2.1 48 = 2 from (show ¬ nI 1 = 2 by decide))]
      refine ⟨_, rfl, ((hfr.F (by decide) _).F (by decide) _).F (by decide) _, ?_, ?_, ?_, ?_⟩
      · rw [sF3, if_neg (by decide), sF3, if_neg (by decide), sF3, if_neg (by decide)]; exact a7
      · rw [sF3, if_neg (by decide), sF3, if_pos rfl, hE]
      · rw [sF3, if_neg (by decide), sF3, if_neg (by decide), sF3, if_pos rfl]; unfold tR; rw [if_neg hsT, ← hs, if_pos c1]
      · intro h
        unfold tC at h
        rw [if_neg hsT, ← hs, if_pos c1] at h
        unfold wdK at h
        repeat' split at h
        all_goals omega
    · rw [if_neg c1, if_pos rfl, a6, ck_p (ib_nI (by omega) (by decide)), nI_clamp (by omega), b2, q_minD b1, bd_s]
      by_cases c2 : dgB (B s) = true
      · rw [if_pos c2, if_neg (by decide), show (2 : Int32) = nI 2 from rfl, hb 2, mrun dgB 2 (Or.inr ⟨rfl, rfl⟩) (T - (s + 1)) (s + 1) FU _ (ht2 2) (by omega) (by unfold FU; omega) (by rw [sF3, if_pos rfl]) (by rw [sF3, if_neg (by decide), sF3, if_pos rfl]), stF_tw, ← spn_s (by omega) c2]
        have hE : tE B T q = spn dgB B (T - s) s := by unfold tE; rw [if_neg hsT, ← hs, if_neg c1, if_pos c2]
        obtain ⟨e, he⟩ : ∃ e, e = spn dgB B (T - s) s := ⟨_, rfl⟩
        have he1 : s + 1 ≤ e := by rw [he, spn_s (by omega) c2]; exact spn_ge _ _ _ _
        have he2 : e ≤ T := by rw [he]; have := spn_le dgB B (T - s) s; omega
        rw [← he] at hE ⊢
        unfold f_HM_token_b246 rF
        rw [lE_d, if_pos (show (stF (stF (stF σa 48 (nI 2)) 46 (nI e)) 49 0).2.2.1 48 = 2 from rfl), show (stF (stF (stF σa 48 (nI 2)) 46 (nI e)) 49 0).2.2.1 47 = nI s from a7]
        obtain ⟨σ', g1, g2, g3, g4⟩ := mfig_loop (B := B) (T := T) (s := s) (e := e) (min e (s + 2) - s) s FU (stF (stF (stF σa 48 (nI 2)) 46 (nI e)) 49 0) (ht1.fr (((fr.rf.F (ka := []) (kl := []) (kf := [46, 48, 49]) (by decide) _).F (by decide) _).F (by decide) _) (by decide) (by decide) (by decide) (by decide)) he2 (Nat.le_refl _) (by omega) (by unfold FU; omega) (by rw [sF3, if_neg (by decide), sF3, if_pos rfl]) (by rw [sF3, if_neg (by decide), sF3, if_neg (by decide), sF3, if_neg (by decide)]; exact a7) (by rw [sF3, if_pos rfl, Nat.sub_self]; rfl) (by omega) (fun j h1 h2 => dgB_i (spn_in dgB B (T - s) s j h1 (by omega)))
        unfold f_HM_token_l264
        refine ⟨σ', g1, (((hfr.F (by decide) _).F (by decide) _).F (by decide) _).tr (g2.mo (by decide) (by decide) (by decide)), ?_, ?_, ?_, ?_⟩
        · rw [g2.2.2.1 47 (by decide), sF3, if_neg (by decide), sF3, if_neg (by decide), sF3, if_neg (by decide)]; exact a7
        · rw [g2.2.2.1 46 (by decide), sF3, if_neg (by decide), sF3, if_pos rfl, hE]
        · rw [g3]; unfold tR; rw [if_neg hsT, hE, ← hs, if_neg c1, if_pos c2]
        · intro h
          unfold tC at h
          rw [if_neg hsT, hE, ← hs, if_neg c1, if_pos c2] at h
          have hle : e - s ≤ 2 := by
            by_cases z : e - s ≤ 2
            · exact z
            · rw [if_neg z] at h; omega
          rw [g4]
          unfold tV nv
          rw [hE, ← hs]
          have hm : min e (s + 2) - s = e - s := by omega
          rw [hm]
          by_cases z : e - s ≤ 1
          · rw [if_pos z, if_neg (by omega), if_pos (by omega)]
          · rw [if_neg z, if_neg (by omega), if_neg (by omega)]
      · rw [if_neg c2, if_pos rfl, a6, ck_p (ib_nI (by omega) (by decide)), nI_clamp (by omega), b2]
        simp only [(mb _ b1).2.2.1]
        have hE : tE B T q = s + 1 := by unfold tE; rw [if_neg hsT, ← hs, if_neg c1, if_neg c2]
        have fin : ∀ c : Nat, c = 3 ∨ c = 4 → tR B T q = c → tC B T q ≠ 4 → ∃ σ', f_HM_token_b149 (nI c) σa = some σ' ∧ fr [] [] [46, 47, 48, 49] σ σ' ∧ σ'.2.2.1 47 = nI s ∧ σ'.2.2.1 46 = nI (tE B T q) ∧ σ'.2.2.1 48 = nI (tR B T q) ∧ (tC B T q = 4 → σ'.2.2.1 49 = nI (tV B T q)) := by
          intro c hc hR hC
          have e9 : lp (fun _ => none) f_HM_token_b162 FU (stF (stF σa 48 (nI c)) 46 (nI (s + 1))) = f_HM_token_b246 (stF (stF σa 48 (nI c)) 46 (nI (s + 1))) := mrun0 (q := s + 1) (f := 999) (ht2 c) (by omega) rfl rfl hc
          rw [hb c, e9]
          unfold f_HM_token_b246 rF
          rw [lE_d, if_neg (show ¬ (stF (stF (stF σa 48 (nI c)) 46 (nI (s + 1))) 49 0).2.2.1 48 = 2 from (show ¬ nI c = 2 by rcases hc with rfl | rfl <;> decide))]
          refine ⟨_, rfl, (hf2 c).F (by decide) _, ?_, ?_, ?_, fun h => absurd h hC⟩
          · rw [sF3, if_neg (by decide), sF3, if_neg (by decide), sF3, if_neg (by decide)]; exact a7
          · rw [sF3, if_neg (by decide), sF3, if_pos rfl, hE]
          · rw [sF3, if_neg (by decide), sF3, if_neg (by decide), sF3, if_pos rfl, hR]
        by_cases c3 : B s = 59
        · rw [if_pos c3]
          exact fin 3 (Or.inl rfl) (by unfold tR; rw [if_neg hsT, ← hs, if_neg c1, if_neg c2, if_pos c3]) (by unfold tC; rw [if_neg hsT, ← hs, if_neg c1, if_neg c2, if_pos c3]; decide)
        · rw [if_neg c3]
          exact fin 4 (Or.inr rfl) (by unfold tR; rw [if_neg hsT, ← hs, if_neg c1, if_neg c2, if_neg c3]) (by unfold tC; rw [if_neg hsT, ← hs, if_neg c1, if_neg c2, if_neg c3]; decide)
