def K46 (F : Nat) : Int32 → St → Option (Int32 × St) := lp (fun _ _ => none) f_HM_readsAll_b46 F
def MR (F G : Nat) (σ : St) : Option (Int32 × St) := lp (fun _ => none) (f_HM_readsAll_b125 (K46 F)) G σ
def mCC (n : Nat) (T : TT) (σ : St) : Prop := ∀ p, 0 < p → p < n → T 5 p < p → T 1 (T 5 p) = 1 → σ.1 73 (60 + p) = nI (T 8 p)
def mErr (σ : St) (e : Nat × Nat) (m : Option (Int32 × St)) : Prop := ∃ σ', m = some (nI e.1, σ') ∧ 0 < e.1 ∧ e.1 ≤ 3 ∧ σ'.2.2.1 47 = nI e.2 ∧ fm σ σ'
theorem mErr.tr {σ σ1 : St} {e : Nat × Nat} {m : Option (Int32 × St)} (h : mErr σ1 e m) (hf : fm σ σ1) : mErr σ e m := by
  obtain ⟨σ', a, b, c, d, f⟩ := h
  exact ⟨σ', a, b, c, d, hf.tr f⟩
def mRes (B : Nat → Nat) (L d a t : Nat) (s : SS) (σ : St) (F : Nat) (r : RR) (m : Option (Int32 × St)) : Prop := match r with
  | .inl e => mErr σ e m
  | .inr s' => ∃ σ' G F', m = MR F' G σ' ∧ d < G ∧ F' + s'.2.1 = F + s.2.1 + 1 ∧ mS B L d s' σ' ∧ mCC s'.2.1 s'.2.2 σ' ∧ fm σ σ' ∧ (∀ k j, k = 81 ∨ k = 83 → j < d → σ'.1 k j = σ.1 k j) ∧ (∀ j, j < d → σ'.1 82 j = if j = d - 1 then nI (s.2.2 4 a - t - 1) else σ.1 82 j)
def mRsl (B : Nat → Nat) (L d : Nat) (s : SS) (σ : St) (F : Nat) (r : RR) (m : Option (Int32 × St)) : Prop := match r with
  | .inl e => mErr σ e m
  | .inr s' => ∃ σ' G F', m = MR F' G σ' ∧ d < G ∧ F' + s'.2.1 = F + s.2.1 ∧ mS B L d s' σ' ∧ mCC s'.2.1 s'.2.2 σ' ∧ fm σ σ' ∧ (∀ k j, k = 81 ∨ k = 82 ∨ k = 83 → j < d → σ'.1 k j = σ.1 k j)
theorem mr_le (j : Nat) (h1 : 1 ≤ j) (h7 : j ≤ 7) : mr j ≠ 81 ∧ mr j ≠ 82 ∧ mr j ≠ 83 ∧ mr j ≠ 73 := by
  have : j = 1 ∨ j = 2 ∨ j = 3 ∨ j = 4 ∨ j = 5 ∨ j = 6 ∨ j = 7 := by omega
  rcases this with rfl | rfl | rfl | rfl | rfl | rfl | rfl <;> decide
theorem mR_cg {o k n : Nat} {T : TT} {σ σ' : St} (h : mR o k n T σ) (h1 : ∀ j, 1 ≤ j → j ≤ 7 → σ'.1 (mr j) = σ.1 (mr j)) (h2 : σ'.1 75 = σ.1 75) (h3 : σ'.1 76 = σ.1 76) (h4 : σ'.1 77 = σ.1 77) : mR o k n T σ' := by
  obtain ⟨r1, r2, r3, r4⟩ := h
  refine ⟨fun j p a b c => ?_, fun i a b => ?_, fun s a => ?_, fun s a => ?_⟩
  · rw [h1 j a b]; exact r1 j p a b c
  · rw [h2]; exact r2 i a b
  · rw [h3]; exact r3 s a
  · rw [h4]; exact r4 s a
theorem m_pop {F G d : Nat} {σ : St} (hd : d < 8) (ho : σ.2.2.1 50 = nI (d + 1)) (hl : σ.1 82 d = nI 0) : MR F (G + 1) σ = MR F G (stF σ 50 (nI d)) := by
  unfold MR
  rw [lp_s]
  have e1 : ¬ nI (d + 1) ≤ 0 := nI_nle (by omega) (by omega)
  have e2 : nI (d + 1) - 1 = nI d := nI_pred d
  have e3 : ib (nI d) 9 = true := ib_nI (by omega) (by decide)
  have e4 : (nI d).toNatClampNeg = d := nI_clamp (by omega)
  have e5 : (nI 0 : Int32) = 0 := rfl
  show f_HM_readsAll_b125 (K46 F) (lp (fun _ => none) (f_HM_readsAll_b125 (K46 F)) G) σ = _
  unfold f_HM_readsAll_b125
  simp only [rF, rI, ho, if_neg e1, e2, e3, e4, ck_t, hl, e5, if_true, lE_d]
theorem m_next {F G d k : Nat} {σ : St} (hd : d < 8) (hk : k < 4) (ho : σ.2.2.1 50 = nI (d + 1)) (hl : σ.1 82 d = nI (k + 1)) : MR F (G + 1) σ = K46 F 1 σ := by
  unfold MR
  rw [lp_s]
  have e1 : ¬ nI (d + 1) ≤ 0 := nI_nle (by omega) (by omega)
  have e2 : nI (d + 1) - 1 = nI d := nI_pred d
  have e3 : ib (nI d) 9 = true := ib_nI (by omega) (by decide)
  have e4 : (nI d).toNatClampNeg = d := nI_clamp (by omega)
  have e5 : ¬ (nI (k + 1) : Int32) = 0 := nI_ne0 (by omega) (by omega)
  show f_HM_readsAll_b125 (K46 F) (lp (fun _ => none) (f_HM_readsAll_b125 (K46 F)) G) σ = _
  unfold f_HM_readsAll_b125 f_HM_readsAll_b159 f_HM_readsAll_b171
  simp only [rF, rI, ho, if_neg e1, e2, e3, e4, ck_t, hl, if_neg e5]
theorem m_46h {F d m w : Nat} {σ : St} (hd : d < 8) (hm : m < 60) (ho : σ.2.2.1 50 = nI (d + 1)) (h81 : σ.1 81 d = nI (60 + m)) (hw : σ.1 67 (60 + m) = nI w) (w1 : w ≠ 1) (w4 : w < 4) : K46 (F + 1) 1 σ = f_HM_readsAll_b96 (K46 F) 12 σ := by
  unfold K46
  rw [lp_s]
  have e1 : ¬ nI (d + 1) ≤ 0 := nI_nle (by omega) (by omega)
  have e2 : nI (d + 1) - 1 = nI d := nI_pred d
  have e3 : ib (nI d) 9 = true := ib_nI (by omega) (by decide)
  have e4 : (nI d).toNatClampNeg = d := nI_clamp (by omega)
  have e5 : ib (nI (60 + m)) 120 = true := ib_nI (by omega) (by decide)
  have e6 : (nI (60 + m)).toNatClampNeg = 60 + m := nI_clamp (by omega)
  have e7 : ¬ (nI w : Int32) = 1 := fun h => w1 ((nI_eq (b := 1) (by omega) (by decide)).mp h)
  show f_HM_readsAll_b46 (lp (fun _ _ => none) f_HM_readsAll_b46 F) 1 σ = _
  unfold f_HM_readsAll_b46
  simp only [rF, rI, ho, if_neg e1, e2, e3, e4, ck_t, h81, e5, e6, hw, if_neg e7, show ¬ ((1 : Int32) = 0) by decide, if_false]
theorem m_46d {F d m : Nat} {σ : St} (hd : d < 8) (hm : m < 60) (ho : σ.2.2.1 50 = nI (d + 1)) (h81 : σ.1 81 d = nI (60 + m)) (hw : σ.1 67 (60 + m) = nI 1) : K46 (F + 1) 1 σ = bd (f_HM_readsShare σ) fun r14 σ13 => if r14 = 0 then (f_HM_readsAll_b96 (K46 F) (rF σ13 49) σ13) else (some (r14, σ13)) := by
  unfold K46
  rw [lp_s]
  have e1 : ¬ nI (d + 1) ≤ 0 := nI_nle (by omega) (by omega)
  have e2 : nI (d + 1) - 1 = nI d := nI_pred d
  have e3 : ib (nI d) 9 = true := ib_nI (by omega) (by decide)
  have e4 : (nI d).toNatClampNeg = d := nI_clamp (by omega)
  have e5 : ib (nI (60 + m)) 120 = true := ib_nI (by omega) (by decide)
  have e6 : (nI (60 + m)).toNatClampNeg = 60 + m := nI_clamp (by omega)
  have e7 : (nI 1 : Int32) = 1 := rfl
  show f_HM_readsAll_b46 (lp (fun _ _ => none) f_HM_readsAll_b46 F) 1 σ = _
  unfold f_HM_readsAll_b46
  simp only [rF, rI, ho, if_neg e1, e2, e3, e4, ck_t, h81, e5, e6, hw, e7, if_true, show ¬ ((1 : Int32) = 0) by decide, if_false]
/-- a share of a deal, read by the reference -/
theorem m_share {B : Nat → Nat} {L q n d k l : Nat} {T : TT} {σ : St} (h : mS B L (d + 1) (q, n, T) σ) (hd : d < 8) (hk : k < 4) (hl : l ≤ 12) (h82 : σ.1 82 d = nI (k + 1)) (h83 : σ.1 83 d = nI (12 - l)) : (if tC B L q ≠ 4 then mErr σ (1, tS B L q) (f_HM_readsShare σ) else if tV B L q < 1 ∨ 12 ≤ tV B L q ∨ l < tV B L q ∨ (k = 0 ∧ tV B L q < l) then mErr σ (2, tS B L q) (f_HM_readsShare σ) else ∃ σ', f_HM_readsShare σ = some (0, σ') ∧ fm σ σ' ∧ mS B L (d + 1) (tE B L q, n, T) σ' ∧ σ'.2.2.1 49 = nI (tV B L q) ∧ (∀ k, k ≠ 83 → σ'.1 k = σ.1 k) ∧ (∀ i, σ'.1 83 i = if i = d then nI (12 - (l - tV B L q)) else σ.1 83 i)) := by
  obtain ⟨ht, hq, h6, h51, h50, hn60, hso, hR⟩ := h
  simp only at hq h6 h51 h50 hn60 hso hR
  obtain ⟨σ2, t1, t2, t3, t4, t5, t6, t7⟩ := m_token ht hq h6
  have hE := tE_le B hq
  have fm2 : fm σ σ2 := fm.tok t2 (by decide)
  have e21 : ∀ k, σ2.1 k = σ.1 k := fun k => t2.1 k (by simp)
  have o50 : σ2.2.2.1 50 = nI (d + 1) := by rw [t2.2.2.1 50 (by decide)]; exact h50
  have o51 : σ2.2.2.1 51 = nI n := by rw [t2.2.2.1 51 (by decide)]; exact h51
  have i2 : (nI (tR B L q) = 2) ↔ tC B L q = 4 := by
    have := tR_lt B L q
    rw [← (tR_C B L q).1]
    exact nI_eq (b := 2) (by omega) (by decide)
  have e2 : nI (d + 1) - 1 = nI d := nI_pred d
  have e3 : ib (nI d) 9 = true := ib_nI (by omega) (by decide)
  have e4 : (nI d).toNatClampNeg = d := nI_clamp (by omega)
  unfold f_HM_readsShare f_HM_readsShare_b72
  simp only [t1, bv_s, rF, t6, i2, o50, e2, e3, e4, ck_t, rI, e21, h82, h83]
  by_cases c4 : tC B L q = 4
  · rw [if_neg (show ¬ (tC B L q ≠ 4) by simp [c4]), if_pos c4]
    have f9 := t7 c4
    have v100 := tV_lt B L q c4
    have ein : ∀ s : St, f_HM_in (nI (tV B L q)).toInt64 1 11 s = some (if tV B L q < 1 ∨ 11 < tV B L q then 0 else 1, s) := fun s => q_inV 1 11 (by omega) (by omega) (by omega) s
    have ead : nI (12 - l) + nI (tV B L q) = nI (12 - l + tV B L q) := nI_add _ _
    have i12 : ((12 : Int32) < nI (12 - l + tV B L q)) ↔ 12 < 12 - l + tV B L q := nI_ltI (a := 12) (by decide) (by omega)
    have i12' : ((12 : Int32) ≤ nI (12 - l + tV B L q)) ↔ 12 ≤ 12 - l + tV B L q := nI_leI (a := 12) (by decide) (by omega)
    have ik : (nI (k + 1) = 1) ↔ k + 1 = 1 := nI_eq (b := 1) (by omega) (by decide)
    simp only [f9, ein, bd_s, ead, i12, i12', ik, e21, h82]
    by_cases cv : tV B L q < 1 ∨ 12 ≤ tV B L q ∨ l < tV B L q ∨ (k = 0 ∧ tV B L q < l)
    · rw [if_pos cv]
      have z : mErr σ (2, tS B L q) (some (2, σ2)) := ⟨σ2, rfl, by simp, by simp, t4, fm2⟩
      by_cases c1 : tV B L q < 1 ∨ 11 < tV B L q
      · rw [if_pos c1, if_pos rfl]; exact z
      · rw [if_neg c1, if_neg (by decide)]
        by_cases c2 : 12 < 12 - l + tV B L q
        · rw [if_pos c2]; exact z
        · rw [if_neg c2, if_pos (by omega), if_neg (by omega)]; exact z
    · rw [if_neg cv, if_neg (show ¬ (tV B L q < 1 ∨ 11 < tV B L q) by omega), if_neg (by decide), if_neg (by omega)]
      have same : (if k + 1 = 1 then if 12 ≤ 12 - l + tV B L q then lE (stA σ2 83 d (nI (12 - l + tV B L q))) fun σ2 => some ((0 : Int32), σ2) else some (2, σ2) else lE (stA σ2 83 d (nI (12 - l + tV B L q))) fun σ2 => some ((0 : Int32), σ2)) = some (0, stA σ2 83 d (nI (12 - l + tV B L q))) := by
        by_cases c : k + 1 = 1
        · rw [if_pos c, if_pos (by omega)]; rfl
        · rw [if_neg c]; rfl
      rw [same]
      refine ⟨_, rfl, fm2.A (by decide) _ _ (by simp), ⟨t3.fr (fr.rf.A (ka := [83]) (kl := []) (kf := []) (by decide) _ _) (by decide) (by decide) (by decide) (by decide), hE.2, t5, o51, o50, hn60, hso, ?_⟩, f9, fun k hk => ?_, fun i => ?_⟩
      · refine mR_cg hR (fun j j1 j2 => ?_) ?_ ?_ ?_
        · rw [sA1, if_neg (mr_le j j1 j2).2.2.1, e21]
        · rw [sA1, if_neg (by decide), e21]
        · rw [sA1, if_neg (by decide), e21]
        · rw [sA1, if_neg (by decide), e21]
      · rw [sA1, if_neg hk, e21]
      · rw [sA1, if_pos rfl, updD, e21]
        by_cases c : i = d
        · rw [if_pos c, if_pos c]; congr 1; omega
        · rw [if_neg c, if_neg c]
  · rw [if_pos c4, if_neg c4]
    exact ⟨σ2, rfl, by simp, by simp, t4, fm2⟩
theorem mCC_cg {n : Nat} {T : TT} {σ σ' : St} (h : mCC n T σ) (e : σ'.1 73 = σ.1 73) : mCC n T σ' := fun p a b c d => by rw [e]; exact h p a b c d
theorem fm.frF {σ : St} {k : Nat} {x : Int32} (hk : k ∈ kfM) : fm σ (stF σ k x) := fm.rf.F hk x
section
variable {B : Nat → Nat} {L d m : Nat} {P : Nat → Nat → Nat → SS → RR}
theorem m_held (hP : ∀ t x s σ F y, mS B L (d + 1) s σ → mCC s.2.1 s.2.2 σ → m < s.2.1 → s.2.2 6 m = d → t < s.2.2 4 m → s.2.2 4 m ≤ 4 → σ.1 81 d = nI (60 + m) → σ.1 82 d = nI (s.2.2 4 m - t) → (s.2.2 1 m = 1 → y = nI x) → 70 ≤ F + s.2.1 → mRes B L (d + 1) m t s σ F (P m t x s) (f_HM_readsAll_b96 (K46 F) y σ)) (hE : ∀ t x s s', P m t x s = .inr s' → exE s s') (hd : d < 8) : ∀ k t s σ F G, mS B L (d + 1) s σ → mCC s.2.1 s.2.2 σ → m < s.2.1 → s.2.2 6 m = d → (s.2.2 1 m = 2 ∨ s.2.2 1 m = 3) → s.2.2 4 m = t + k → s.2.2 4 m ≤ 4 → σ.1 81 d = nI (60 + m) → σ.1 82 d = nI k → d + 1 < G → 71 ≤ F + s.2.1 → mRsl B L d s σ F (hl P m k t s) (MR F G σ)
  | 0, t, s, σ, F, G + 1, h, hc, hm, h6, hw, hv, h4, h81, h82, hG, hF => by
    unfold hl
    obtain ⟨ht, hq, h46, h51, h50, hn60, hso, hR⟩ := h
    refine ⟨stF σ 50 (nI d), G, F, m_pop hd h50 h82, by omega, rfl, ⟨ht, hq, h46, h51, ?_, hn60, hso, hR⟩, hc, fm.frF (by decide), fun k j _ _ => rfl⟩
    rw [sF3, if_pos rfl]
  | k + 1, t, s, σ, F, G + 1, h, hc, hm, h6, hw, hv, h4, h81, h82, hG, hF => by
    unfold hl
    have hn60 : s.2.1 ≤ 60 := h.2.2.2.2.2.1
    have e67 : σ.1 67 (60 + m) = nI (s.2.2 1 m) := by
      have := h.2.2.2.2.2.2.2.1 1 m (by omega) (by omega) hm
      rw [nz_lt (by omega)] at this
      exact this
    obtain ⟨F0, rfl⟩ : ∃ F0, F = F0 + 1 := ⟨F - 1, by omega⟩
    rw [m_next hd (show k < 4 by omega) h.2.2.2.2.1 h82, m_46h hd (by omega) h.2.2.2.2.1 h81 e67 (by omega) (by omega)]
    have key := hP t 0 s σ F0 12 h hc hm h6 (by omega) h4 h81 (by rw [h82]; congr 1; omega) (fun c => by omega) (by omega)
    cases hr : P m t 0 s with
    | inl e =>
      rw [hr] at key
      exact key
    | inr s' =>
      rw [hr] at key
      obtain ⟨σ', G', F', k1, k2, k3, k4, k5, k6, k7, k8⟩ := key
      have hx := hE t 0 s s' hr
      have hm' : m < s'.2.1 := Nat.lt_of_lt_of_le hm hx.1
      have q1 := hx.2 1 m (by omega) (by omega) hm
      have q4 := hx.2 4 m (by omega) (by omega) hm
      have q6 := hx.2 6 m (by omega) (by omega) hm
      have rc := m_held hP hE hd k (t + 1) s' σ' F' G' k4 k5 hm' (by omega) (by omega) (by omega) (by omega) (by rw [k7 81 d (by omega) (by omega)]; exact h81) (by rw [k8 d (by omega), if_pos (by omega)]; congr 1; omega) k2 (by have := hx.1; omega)
      rw [k1]
      show mRsl B L d s σ (F0 + 1) (hl P m k (t + 1) s') _
      cases hr2 : hl P m k (t + 1) s' with
      | inl e =>
        rw [hr2] at rc
        exact mErr.tr rc k6
      | inr s2 =>
        rw [hr2] at rc
        obtain ⟨σ2, G2, F2, j1, j2, j3, j4, j5, j6, j7⟩ := rc
        refine ⟨σ2, G2, F2, j1, j2, by omega, j4, j5, k6.tr j6, fun k j hk hj => ?_⟩
        rw [j7 k j hk hj]
        rcases hk with rfl | rfl | rfl
        · exact k7 81 j (by omega) (by omega)
        · rw [k8 j (by omega), if_neg (by omega)]
        · exact k7 83 j (by omega) (by omega)
theorem m_deal (hP : ∀ t x s σ F y, mS B L (d + 1) s σ → mCC s.2.1 s.2.2 σ → m < s.2.1 → s.2.2 6 m = d → t < s.2.2 4 m → s.2.2 4 m ≤ 4 → σ.1 81 d = nI (60 + m) → σ.1 82 d = nI (s.2.2 4 m - t) → (s.2.2 1 m = 1 → y = nI x) → 70 ≤ F + s.2.1 → mRes B L (d + 1) m t s σ F (P m t x s) (f_HM_readsAll_b96 (K46 F) y σ)) (hE : ∀ t x s s', P m t x s = .inr s' → exE s s') (hd : d < 8) : ∀ k l t s σ F G, mS B L (d + 1) s σ → mCC s.2.1 s.2.2 σ → m < s.2.1 → s.2.2 6 m = d → s.2.2 1 m = 1 → s.2.2 4 m = t + k → s.2.2 4 m ≤ 4 → l ≤ 12 → σ.1 81 d = nI (60 + m) → σ.1 82 d = nI k → σ.1 83 d = nI (12 - l) → d + 1 < G → 71 ≤ F + s.2.1 → mRsl B L d s σ F (dl B L P m k l t s) (MR F G σ)
  | 0, l, t, s, σ, F, G + 1, h, hc, hm, h6, hw, hv, h4, hl, h81, h82, h83, hG, hF => by
    unfold dl
    obtain ⟨ht, hq, h46, h51, h50, hn60, hso, hR⟩ := h
    refine ⟨stF σ 50 (nI d), G, F, m_pop hd h50 h82, by omega, rfl, ⟨ht, hq, h46, h51, ?_, hn60, hso, hR⟩, hc, fm.frF (by decide), fun k j _ _ => rfl⟩
    rw [sF3, if_pos rfl]
  | k + 1, l, t, s, σ, F, G + 1, h, hc, hm, h6, hw, hv, h4, hl, h81, h82, h83, hG, hF => by
    unfold dl
    have hn60 : s.2.1 ≤ 60 := h.2.2.2.2.2.1
    have e67 : σ.1 67 (60 + m) = nI 1 := by
      have := h.2.2.2.2.2.2.2.1 1 m (by omega) (by omega) hm
      rw [hw, nz_lt (by omega)] at this
      exact this
    obtain ⟨F0, rfl⟩ : ∃ F0, F = F0 + 1 := ⟨F - 1, by omega⟩
    rw [m_next hd (show k < 4 by omega) h.2.2.2.2.1 h82, m_46d hd (by omega) h.2.2.2.2.1 h81 e67]
    have sh := @m_share B L s.1 s.2.1 d k l s.2.2 σ h hd (by omega) hl h82 h83
    by_cases c4 : tC B L s.1 = 4
    · rw [if_neg (show ¬ (tC B L s.1 ≠ 4) by simp [c4])] at sh ⊢
      by_cases cv : tV B L s.1 < 1 ∨ 12 ≤ tV B L s.1 ∨ l < tV B L s.1 ∨ (k = 0 ∧ tV B L s.1 < l)
      · rw [if_pos cv] at sh ⊢
        obtain ⟨σ', x1, x2, x3, x4, x5⟩ := sh
        rw [x1, bd_s, if_neg (nI_ne0 x2 (Nat.lt_of_le_of_lt x3 (by decide)))]
        exact ⟨σ', rfl, x2, x3, x4, x5⟩
      · rw [if_neg cv] at sh ⊢
        obtain ⟨σ1, x1, x2, x3, x4, x5, x6⟩ := sh
        rw [x1, bd_s, if_pos rfl]
        have key := hP t (tV B L s.1) (tE B L s.1, s.2) σ1 F0 (rF σ1 49) x3 (mCC_cg hc (x5 73 (by decide))) hm h6 (by show t < s.2.2 4 m; omega) h4 (by rw [x5 81 (by decide)]; exact h81) (by rw [x5 82 (by decide), h82]; congr 1; show k + 1 = s.2.2 4 m - t; omega) (fun _ => x4) (by show 70 ≤ F0 + s.2.1; omega)
        cases hr : P m t (tV B L s.1) (tE B L s.1, s.2) with
        | inl e =>
          rw [hr] at key
          exact mErr.tr key x2
        | inr s' =>
          rw [hr] at key
          obtain ⟨σ', G', F', k1, k2, k3, k4, k5, k6, k7, k8⟩ := key
          have hx := hE t _ _ s' hr
          have hx1 : s.2.1 ≤ s'.2.1 := hx.1
          have hm' : m < s'.2.1 := Nat.lt_of_lt_of_le hm hx.1
          have q1 : s'.2.2 1 m = s.2.2 1 m := hx.2 1 m (by omega) (by omega) hm
          have q4 : s'.2.2 4 m = s.2.2 4 m := hx.2 4 m (by omega) (by omega) hm
          have q6 : s'.2.2 6 m = s.2.2 6 m := hx.2 6 m (by omega) (by omega) hm
          have k3' : F' + s'.2.1 = F0 + s.2.1 + 1 := k3
          have rc := m_deal hP hE hd k (l - tV B L s.1) (t + 1) s' σ' F' G' k4 k5 hm' (by omega) (by omega) (by omega) (by omega) (by omega) (by rw [k7 81 d (by omega) (by omega), x5 81 (by decide)]; exact h81) (by rw [k8 d (by omega), if_pos (by omega)]; congr 1; show s.2.2 4 m - t - 1 = k; omega) (by rw [k7 83 d (by omega) (by omega), x6 d, if_pos rfl]) k2 (by omega)
          rw [k1]
          show mRsl B L d s σ (F0 + 1) (dl B L P m k (l - tV B L s.1) (t + 1) s') _
          cases hr2 : dl B L P m k (l - tV B L s.1) (t + 1) s' with
          | inl e =>
            rw [hr2] at rc
            exact mErr.tr rc (x2.tr k6)
          | inr s2 =>
            rw [hr2] at rc
            obtain ⟨σ2, G2, F2, j1, j2, j3, j4, j5, j6, j7⟩ := rc
            refine ⟨σ2, G2, F2, j1, j2, by omega, j4, j5, (x2.tr k6).tr j6, fun k j hk hj => ?_⟩
            rw [j7 k j hk hj]
            rcases hk with rfl | rfl | rfl
            · rw [k7 81 j (by omega) (by omega), x5 81 (by decide)]
            · rw [k8 j (by omega), if_neg (by omega), x5 82 (by decide)]
            · rw [k7 83 j (by omega) (by omega), x6 j, if_neg (by omega)]
    · rw [if_pos c4] at sh ⊢
      obtain ⟨σ', x1, x2, x3, x4, x5⟩ := sh
      rw [x1, bd_s, if_neg (nI_ne0 x2 (Nat.lt_of_le_of_lt x3 (by decide)))]
      exact ⟨σ', rfl, x2, x3, x4, x5⟩
end
