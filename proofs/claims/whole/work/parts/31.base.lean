theorem fa_lt (a b : Int32) : a < b ↔ a.toInt < b.toInt := Int32.lt_iff_toInt_lt
theorem fa_le (a b : Int32) : a ≤ b ↔ a.toInt ≤ b.toInt := Int32.le_iff_toInt_le
theorem fa_eq (a b : Int32) : a = b ↔ a.toInt = b.toInt := Int32.toInt_inj.symm
theorem fa_lt64 (a b : Int64) : a < b ↔ a.toInt < b.toInt := Int64.lt_iff_toInt_lt
theorem fa_le64 (a b : Int64) : a ≤ b ↔ a.toInt ≤ b.toInt := Int64.le_iff_toInt_le
theorem fa_eq64 (a b : Int64) : a = b ↔ a.toInt = b.toInt := Int64.toInt_inj.symm
/-- a comparison of two ints taken as longs -/
theorem fa_wide_lt (a b : Int32) : a.toInt64 < b.toInt64 ↔ a < b := by rw [fa_lt64, fa_lt, Int32.toInt_toInt64, Int32.toInt_toInt64]
theorem fa_wide_le (a b : Int32) : a.toInt64 ≤ b.toInt64 ↔ a ≤ b := by rw [fa_le64, fa_le, Int32.toInt_toInt64, Int32.toInt_toInt64]
theorem fa_wide_eq (a b : Int32) : a.toInt64 = b.toInt64 ↔ a = b := by rw [fa_eq64, fa_eq, Int32.toInt_toInt64, Int32.toInt_toInt64]
/-- one strict comparison gives all the others -/
theorem fa_of_lt {a b : Int32} (h : a < b) : a ≤ b ∧ ¬ b ≤ a ∧ ¬ b < a ∧ a ≠ b ∧ b ≠ a := by
  rw [fa_lt] at h
  refine ⟨?_, ?_, ?_, ?_, ?_⟩
  · rw [fa_le]; omega
  · rw [fa_le]; omega
  · rw [fa_lt]; omega
  · intro e; rw [fa_eq] at e; omega
  · intro e; rw [fa_eq] at e; omega
theorem fa_of_nlt {a b : Int32} (h : ¬ a < b) : b ≤ a := by
  rw [fa_lt] at h
  rw [fa_le]
  omega
theorem fa_of_nle {a b : Int32} (h : ¬ a ≤ b) : b < a := by
  rw [fa_le] at h
  rw [fa_lt]
  omega
theorem fa_le_ne {a b : Int32} (h : a ≤ b) (h2 : a ≠ b) : a < b := by
  rw [fa_le] at h
  rw [fa_lt]
  have h3 : a.toInt ≠ b.toInt := fun e => h2 ((fa_eq a b).mpr e)
  omega
theorem fa_three (a b : Int32) : a < b ∨ a = b ∨ b < a := by
  rw [fa_lt, fa_lt, fa_eq]
  omega
theorem fa_trans {a b c : Int32} (h : a < b) (h2 : b ≤ c) : a < c := by
  rw [fa_lt] at *
  rw [fa_le] at h2
  omega
/-! ===== small literals as numbers ===== -/
theorem fa_lit (n : Nat) : (OfNat.ofNat n : Int32) = nI n := rfl
theorem fa_litL (n : Nat) : (OfNat.ofNat n : Int64) = lN n := rfl
/-! what a state says after a write -/
theorem sA1 (σ : St) (k i : Nat) (x : Int32) (a : Nat) : (stA σ k i x).1 a = if a = k then upd (σ.1 a) i x else σ.1 a := rfl
theorem sA2 (σ : St) (k i : Nat) (x : Int32) : (stA σ k i x).2 = σ.2 := rfl
theorem sL1 (σ : St) (k i : Nat) (x : Int64) : (stL σ k i x).1 = σ.1 := rfl
theorem sL2 (σ : St) (k i : Nat) (x : Int64) (a : Nat) : (stL σ k i x).2.1 a = if a = k then vp_updL (σ.2.1 a) i x else σ.2.1 a := rfl
theorem sL3 (σ : St) (k i : Nat) (x : Int64) : (stL σ k i x).2.2 = σ.2.2 := rfl
theorem sF1 (σ : St) (n : Nat) (x : Int32) : (stF σ n x).1 = σ.1 := rfl
theorem sF2 (σ : St) (n : Nat) (x : Int32) : (stF σ n x).2.1 = σ.2.1 := rfl
theorem sF3 (σ : St) (n : Nat) (x : Int32) (m : Nat) : (stF σ n x).2.2.1 m = if m = n then x else σ.2.2.1 m := rfl
theorem sF4 (σ : St) (n : Nat) (x : Int32) : (stF σ n x).2.2.2 = σ.2.2.2 := rfl
theorem sC1 (σ : St) (k : Nat) (f : Nat → Int32) (a : Nat) : (stC σ k f).1 a = if a = k then f else σ.1 a := rfl
theorem sC2 (σ : St) (k : Nat) (f : Nat → Int32) : (stC σ k f).2 = σ.2 := rfl
theorem sR1 (σ : St) (n a : Nat) : (stR σ n a).1 = σ.1 := rfl
theorem sR2 (σ : St) (n a : Nat) : (stR σ n a).2.1 = σ.2.1 := rfl
theorem sR3 (σ : St) (n a : Nat) : (stR σ n a).2.2.1 = σ.2.2.1 := rfl
theorem sR4 (σ : St) (n a m : Nat) : (stR σ n a).2.2.2 m = if m = n then a else σ.2.2.2 m := rfl
theorem updD (f : Nat → Int32) (k : Nat) (x : Int32) (j : Nat) : upd f k x j = if j = k then x else f j := rfl
theorem updLD (f : Nat → Int64) (k : Nat) (x : Int64) (j : Nat) : vp_updL f k x j = if j = k then x else f j := rfl
theorem bd_s {A R : Type} (a : A) (s : St) (k : A → St → Option R) : bd (some (a, s)) k = k a s := rfl
theorem bv_s {R : Type} (s : St) (k : St → Option R) : bv (some s) k = k s := rfl
theorem ck_t {R : Type} (k : Option R) : ck true k = k := rfl
theorem ck_p {R : Type} {b : Bool} (h : b = true) (k : Option R) : ck b k = k := by rw [h]; rfl
theorem lE_d {A R : Type} (e : A) (k : A → R) : lE e k = k e := rfl
theorem ib_nI {i n : Nat} (h : i < n) (hn : n < 2 ^ 31) : ib (nI i) n = true := decide_eq_true (vp_in_nI h hn)
theorem lp_s {F : Type} (z : F) (body : F → F) (f : Nat) : lp z body (f + 1) = body (lp z body f) := rfl
/-! frames: which rows and fields may have changed -/
def fr (ka kl kf : List Nat) (σ σ' : St) : Prop := (∀ k, k ∉ ka → σ'.1 k = σ.1 k) ∧ (∀ k, k ∉ kl → σ'.2.1 k = σ.2.1 k) ∧ (∀ n, n ∉ kf → σ'.2.2.1 n = σ.2.2.1 n) ∧ σ'.2.2.2 = σ.2.2.2
theorem fr.rf {ka kl kf : List Nat} {σ : St} : fr ka kl kf σ σ := ⟨fun _ _ => rfl, fun _ _ => rfl, fun _ _ => rfl, rfl⟩
theorem fr.tr {ka kl kf : List Nat} {σ σ1 σ2 : St} (h : fr ka kl kf σ σ1) (h2 : fr ka kl kf σ1 σ2) : fr ka kl kf σ σ2 := ⟨fun k hk => (h2.1 k hk).trans (h.1 k hk), fun k hk => (h2.2.1 k hk).trans (h.2.1 k hk), fun k hk => (h2.2.2.1 k hk).trans (h.2.2.1 k hk), h2.2.2.2.trans h.2.2.2⟩
theorem fr.mo {ka kl kf ka' kl' kf' : List Nat} {σ σ1 : St} (h : fr ka kl kf σ σ1) (h1 : ∀ k ∈ ka, k ∈ ka') (h2 : ∀ k ∈ kl, k ∈ kl') (h3 : ∀ k ∈ kf, k ∈ kf') : fr ka' kl' kf' σ σ1 := ⟨fun k hk => h.1 k (fun z => hk (h1 k z)), fun k hk => h.2.1 k (fun z => hk (h2 k z)), fun k hk => h.2.2.1 k (fun z => hk (h3 k z)), h.2.2.2⟩
theorem fr.A {ka kl kf : List Nat} {σ σ1 : St} (h : fr ka kl kf σ σ1) {k : Nat} (hk : k ∈ ka) (i : Nat) (x : Int32) : fr ka kl kf σ (stA σ1 k i x) := ⟨fun a ha => by rw [sA1, if_neg (fun e : a = k => ha (by rw [e]; exact hk))]; exact h.1 a ha, h.2.1, h.2.2.1, h.2.2.2⟩
theorem fr.C {ka kl kf : List Nat} {σ σ1 : St} (h : fr ka kl kf σ σ1) {k : Nat} (hk : k ∈ ka) (f : Nat → Int32) : fr ka kl kf σ (stC σ1 k f) := ⟨fun a ha => by rw [sC1, if_neg (fun e : a = k => ha (by rw [e]; exact hk))]; exact h.1 a ha, h.2.1, h.2.2.1, h.2.2.2⟩
theorem fr.L {ka kl kf : List Nat} {σ σ1 : St} (h : fr ka kl kf σ σ1) {k : Nat} (hk : k ∈ kl) (i : Nat) (x : Int64) : fr ka kl kf σ (stL σ1 k i x) := ⟨h.1, fun a ha => by rw [sL2, if_neg (fun e : a = k => ha (by rw [e]; exact hk))]; exact h.2.1 a ha, h.2.2.1, h.2.2.2⟩
theorem fr.F {ka kl kf : List Nat} {σ σ1 : St} (h : fr ka kl kf σ σ1) {k : Nat} (hk : k ∈ kf) (x : Int32) : fr ka kl kf σ (stF σ1 k x) := ⟨h.1, h.2.1, fun a ha => by rw [sF3, if_neg (fun e : a = k => ha (by rw [e]; exact hk))]; exact h.2.2.1 a ha, h.2.2.2⟩
/-! small methods -/
theorem q_HG_isRow (x : Int32) (σ : St) : f_HG_isRow x σ = some (if x < 0 ∨ (8 : Int32) ≤ x then 0 else 1, σ) := by
  unfold f_HG_isRow
  by_cases h : x < 0 <;> by_cases h2 : (8 : Int32) ≤ x <;> simp [h, h2]
theorem q_HM_in (x a b : Int64) (σ : St) : f_HM_in x a b σ = some (if x < a ∨ b < x then 0 else 1, σ) := by
  unfold f_HM_in
  by_cases h : x < a <;> by_cases h2 : b < x <;> simp [h, h2]
theorem w_lt0 (x : Int32) : x.toInt64 < 0 ↔ x < 0 := fa_wide_lt x 0
theorem isB_if (c : Prop) [Decidable c] : isB (if c then 0 else 1) = true := by by_cases h : c <;> simp [h] <;> decide
theorem q_HM_inI (x a b : Int32) (σ : St) : f_HM_in x.toInt64 a.toInt64 b.toInt64 σ = some (if x < a ∨ b < x then 0 else 1, σ) := by
  rw [q_HM_in]
  simp only [fa_wide_lt]
theorem q_HM_isRow (x : Int32) (σ : St) : f_HM_isRow x σ = some (if x < 0 ∨ (8 : Int32) ≤ x then 0 else 1, σ) := by
  unfold f_HM_isRow
  rw [show f_HM_in x.toInt64 0 7 σ = f_HM_in x.toInt64 (0 : Int32).toInt64 (7 : Int32).toInt64 σ from rfl, q_HM_inI, bd_s, ck_p (isB_if _)]
  have e : ((7 : Int32) < x) ↔ ((8 : Int32) ≤ x) := by
    rw [fa_lt, fa_le]
    show (7 : Int) < _ ↔ (8 : Int) ≤ _
    omega
  simp only [e]
theorem ix8 {x : Int32} (h : ¬ (x < 0 ∨ (8 : Int32) ≤ x)) : ∃ r : Nat, r < 8 ∧ x = nI r := by
  rcases pk_ix x (n := 8) (by decide) with h1 | h1 | h1
  · exact absurd (Or.inl h1) h
  · exact absurd (Or.inr h1) h
  · exact h1
theorem lt_le8 (x : Int32) (n : Nat) (hn : n + 1 < 2 ^ 31) : nI n < x ↔ nI (n + 1) ≤ x := by
  rw [fa_lt, fa_le, nI_toInt hn, nI_toInt (by omega)]
  omega
theorem q_HM_inN (x : Int32) (a b : Nat) (ha : a < 2 ^ 31) (hb : b + 1 < 2 ^ 31) (σ : St) : f_HM_in x.toInt64 (lN a) (lN b) σ = some (if x < nI a ∨ nI (b + 1) ≤ x then 0 else 1, σ) := by
  rw [← nI_l ha, ← nI_l (show b < 2 ^ 31 by omega), q_HM_inI]
  simp only [lt_le8 x b hb]
