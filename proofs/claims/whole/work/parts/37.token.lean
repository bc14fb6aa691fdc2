/-! the text: bytes B (naturals), T of them; tokens from a place on -/
def wsB (b : Nat) : Bool := b == 32 || b == 10
def ltB (b : Nat) : Bool := decide (97 ≤ b) && decide (b ≤ 122)
def dgB (b : Nat) : Bool := decide (48 ≤ b) && decide (b ≤ 57)
def spn (P : Nat → Bool) (B : Nat → Nat) : Nat → Nat → Nat
  | 0, q => q
  | m + 1, q => if P (B q) = true then spn P B m (q + 1) else q
theorem spn_ge (P : Nat → Bool) (B : Nat → Nat) : ∀ m q, q ≤ spn P B m q
  | 0, q => Nat.le_refl _
  | m + 1, q => by
    unfold spn
    split
    · have := spn_ge P B m (q + 1); omega
    · exact Nat.le_refl _
theorem spn_le (P : Nat → Bool) (B : Nat → Nat) : ∀ m q, spn P B m q ≤ q + m
  | 0, q => Nat.le_refl _
  | m + 1, q => by
    unfold spn
    split
    · have := spn_le P B m (q + 1); omega
    · omega
def tS (B : Nat → Nat) (T q : Nat) : Nat := spn wsB B (T - q) q
def tE (B : Nat → Nat) (T q : Nat) : Nat := if tS B T q = T then T else if ltB (B (tS B T q)) = true then spn ltB B (T - tS B T q) (tS B T q) else if dgB (B (tS B T q)) = true then spn dgB B (T - tS B T q) (tS B T q) else tS B T q + 1
def wd3 (B : Nat → Nat) (s a b c : Nat) : Bool := B s == a && (B (s + 1) == b && B (s + 2) == c)
def wdK (B : Nat → Nat) (s n : Nat) : Nat := if n = 3 ∧ wd3 B s 101 110 100 = true then 0 else if n = 4 ∧ (wd3 B s 100 101 97 && B (s + 3) == 108) = true then 1 else if n = 3 ∧ wd3 B s 111 110 101 = true then 2 else if n = 3 ∧ wd3 B s 116 119 111 = true then 3 else 7
def tC (B : Nat → Nat) (T q : Nat) : Nat := if tS B T q = T then 6 else if ltB (B (tS B T q)) = true then wdK B (tS B T q) (tE B T q - tS B T q) else if dgB (B (tS B T q)) = true then (if tE B T q - tS B T q ≤ 2 then 4 else 7) else if B (tS B T q) = 59 then 5 else 7
def tV (B : Nat → Nat) (T q : Nat) : Nat := if tE B T q - tS B T q ≤ 1 then B (tS B T q) - 48 else 10 * (B (tS B T q) - 48) + (B (tS B T q + 1) - 48)
/-- the two tapes hold the bytes B -/
def tp (B : Nat → Nat) (T : Nat) (σ : St) : Prop := T ≤ 600 ∧ σ.2.2.1 2 = nI T ∧ σ.2.2.1 41 = nI T ∧ ∀ i, i < T → B i < 256 ∧ σ.1 66 i = nI (B i) ∧ σ.1 50 i = (nI (B i)).toInt8.toInt32
theorem tp.fr {B : Nat → Nat} {T : Nat} {ka kl kf : List Nat} {σ σ' : St} (h : tp B T σ) (hf : fr ka kl kf σ σ') (h1 : 50 ∉ ka) (h2 : 66 ∉ ka) (h3 : 2 ∉ kf) (h4 : 41 ∉ kf) : tp B T σ' := by
  unfold tp
  rw [hf.2.2.1 2 h3, hf.2.2.1 41 h4, hf.1 50 h1, hf.1 66 h2]
  exact h
theorem cb : ∀ b, b < 256 → (((nI b).toInt8.toInt32 = 32) ↔ b = 32) ∧ (((nI b).toInt8.toInt32 = 10) ↔ b = 10) ∧ (((nI b).toInt8.toInt32 = 59) ↔ b = 59) := by decide +kernel
theorem cl : ∀ b, b < 256 → ((if (nI b).toInt8.toInt32 < 97 then (0 : Int32) else if (122 : Int32) < (nI b).toInt8.toInt32 then 0 else 1) = if ltB b = true then 1 else 0) ∧ ((if (nI b).toInt8.toInt32 < 48 then (0 : Int32) else if (57 : Int32) < (nI b).toInt8.toInt32 then 0 else 1) = if dgB b = true then 1 else 0) ∧ (dgB b = true → (nI b).toInt8.toInt32 = nI b) := by decide +kernel
theorem mb : ∀ b, b < 256 → ((nI b = 32) ↔ b = 32) ∧ ((nI b = 10) ↔ b = 10) ∧ ((nI b = 59) ↔ b = 59) ∧ ((if (nI b).toInt64 < 97 ∨ (122 : Int64) < (nI b).toInt64 then (0 : Int32) else 1) = if ltB b = true then 1 else 0) ∧ ((if (nI b).toInt64 < 48 ∨ (57 : Int64) < (nI b).toInt64 then (0 : Int32) else 1) = if dgB b = true then 1 else 0) := by decide +kernel
theorem q_isLetter {b : Nat} (hb : b < 256) (σ : St) : f_Tape_isLetter ((nI b).toInt8.toInt32) σ = some (if ltB b = true then 1 else 0, σ) := by
  rw [← (cl b hb).1]
  unfold f_Tape_isLetter
  split
  · rfl
  · split <;> rfl
theorem q_isFigure {b : Nat} (hb : b < 256) (σ : St) : f_Tape_isFigure ((nI b).toInt8.toInt32) σ = some (if dgB b = true then 1 else 0, σ) := by
  rw [← (cl b hb).2.1]
  unfold f_Tape_isFigure
  split
  · rfl
  · split <;> rfl
theorem fa_upd_tw (f : Nat → Int32) (i : Nat) (x y : Int32) : upd (upd f i x) i y = upd f i y := by
  funext j
  rw [updD, updD, updD]
  split <;> rfl
theorem stF_self {σ : St} {n : Nat} {x : Int32} (h : σ.2.2.1 n = x) : stF σ n x = σ := by
  unfold stF
  have : upd σ.2.2.1 n x = σ.2.2.1 := by
    funext j
    rw [updD]
    split
    · rename_i e
      rw [e, h]
    · rfl
  rw [this]
theorem stF_tw (σ : St) (n : Nat) (x y : Int32) : stF (stF σ n x) n y = stF σ n y := by
  show (σ.1, σ.2.1, upd (upd σ.2.2.1 n x) n y, σ.2.2.2) = _
  rw [fa_upd_tw]
  rfl
/-- blanks on the class's tape -/
theorem step_ws {B : Nat → Nat} {T : Nat} : ∀ (m q f : Nat) (σ : St), tp B T σ → q + m = T → m < f → σ.2.2.1 6 = nI q → lp (fun _ => none) f_Tape_step_b0 f σ = f_Tape_step_b52 (stF σ 6 (nI (spn wsB B m q)))
  | 0, q, f + 1, σ, ht, hq, _, h6 => by
    rw [lp_s]
    unfold f_Tape_step_b0 rF
    rw [h6, ht.2.1, if_pos (nI_le (by omega) (by have := ht.1; omega))]
    unfold spn
    rw [stF_self h6]
  | m + 1, q, f + 1, σ, ht, hq, hf, h6 => by
    have h600 := ht.1
    obtain ⟨b1, b2, b3⟩ := ht.2.2.2 q (by omega)
    rw [lp_s]
    unfold f_Tape_step_b0 rF rI
    rw [h6, ht.2.1, if_neg (nI_ge (by omega) (by omega)), ck_p (ib_nI (by omega) (by decide)), ck_p (ib_nI (by omega) (by decide)), nI_clamp (by omega), b3]
    simp only [(cb _ b1).1, (cb _ b1).2.1]
    have again : f_Tape_step_b39 (lp (fun _ => none) f_Tape_step_b0 f) σ = f_Tape_step_b52 (stF σ 6 (nI (spn wsB B m (q + 1)))) := by
      unfold f_Tape_step_b39 rF
      rw [lE_d, h6, nI_1, step_ws m (q + 1) f (stF σ 6 (nI (q + 1))) (ht.fr (fr.rf.F (ka := []) (kl := []) (kf := [6]) (by decide) _) (by decide) (by decide) (by decide) (by decide)) (by omega) (by omega) (by rw [sF3, if_pos rfl])]
      rw [stF_tw]
    unfold spn
    by_cases e1 : B q = 32
    · rw [if_pos e1, if_pos (show wsB (B q) = true by rw [e1]; rfl)]
      exact again
    · rw [if_neg e1]
      by_cases e2 : B q = 10
      · rw [if_pos e2, if_pos (show wsB (B q) = true by rw [e2]; rfl)]
        exact again
      · rw [if_neg e2, if_neg (show ¬ wsB (B q) = true by simp [wsB, e1, e2]), stF_self h6]
