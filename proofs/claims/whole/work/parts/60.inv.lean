/-! what holds between calls -/
def rc (T : TT) (pt : Nat → Nat) (p : Nat) : Int64 := if h : T 5 p < p then rc T pt (T 5 p) / 12 * (nI (pt p)).toInt64 else 429981696
termination_by p
decreasing_by all_goals exact h
def prt (T : TT) (sh : Nat → Nat → Nat) (lo p : Nat) : Nat := if T 1 (T 5 p) = 1 then T 8 p else if T 1 (T 5 p) = 2 + lo then 12 else sh (T 3 (T 5 p)) (T 7 p)
def rsh (D : Nat → Nat → Nat) (r s a : Nat) : Nat := if D r s = a then 12 else 0
def sL (f : Nat → Int64) : Nat → Int64
  | 0 => 0
  | n + 1 => sL f n + f n
def mG (n : Nat) (T : TT) (σ : St) : Prop := (∀ j p, 1 ≤ j → j ≤ 7 → p < n → σ.1 (mr j) p = nz (T j p)) ∧ (∀ p k, p < n → k < T 4 p → σ.1 75 (4 * p + k) = nI (T 9 (4 * p + k))) ∧ (∀ s, s < 10 → σ.1 76 s = if T 13 s = 1000 then -1 else nI (T 13 s)) ∧ (∀ s, s < 10 → σ.1 77 s = nI (T 14 s)) ∧ (∀ p, 0 < p → p < n → T 1 (T 5 p) = 1 → σ.1 73 p = nI (T 8 p)) ∧ σ.2.2.1 43 = nI n
def gI (σ : St) (n : Nat) (T : TT) : Prop := wf n T ∧ ((σ.2.2.2 0 = 10 ∧ σ.2.2.2 1 = 28) ∨ (σ.2.2.2 0 = 28 ∧ σ.2.2.2 1 = 10)) ∧ cG (σ.2.2.2 0) n T σ ∧ mG n T σ
def pI (σ : St) (T : TT) (sh : Nat → Nat → Nat) : Prop := ∀ s a, s < 10 → T 13 s ≠ 1000 → a < T 14 s → sh s a ≤ 12 ∧ σ.1 51 (3 * s + a) = nI (sh s a) ∧ σ.1 78 (3 * s + a) = nI (sh s a)
def rdI (σ : St) (n : Nat) (T : TT) (R : Nat) (D : Nat → Nat → Nat) : Prop := R ≤ 60 ∧ σ.2.2.1 11 = nI R ∧ σ.2.2.1 44 = nI R ∧ (0 < R → 0 < n ∧ ¬ fgt T n 0 ∧ ¬ fgt T n 1) ∧ (∀ r s, r < R → s < 10 → D r s < 3 ∧ σ.1 58 (10 * r + s) = nI (D r s) ∧ (T 13 s ≠ 1000 → D r s < T 14 s ∧ σ.1 79 (10 * r + s) = nI (D r s))) ∧ (∀ w p, w < 2 → p < n → σ.2.1 (59 + w) p = sL (fun r => rc T (prt T (rsh D r) w) p) R)
def trI (σ : St) : Prop := ∃ m, m ≤ 16 ∧ σ.2.2.1 12 = nI m ∧ σ.2.2.1 45 = nI m ∧ ∀ i, i < m → σ.1 62 i = σ.1 80 i
def gAll (σ : St) : Prop := ∃ n T sh R D, gI σ n T ∧ pI σ T sh ∧ rdI σ n T R D
def Inv0 (σ : St) : Prop := iRow σ ∧ iFnd σ ∧ (σ.2.2.1 9 = -1000000 ∧ σ.2.2.1 10 = -1000000) ∧ trI σ ∧ gAll σ
def Inv (σ : St) : Prop := Inv0 σ ∧ iTap σ ∧ σ.2.2.1 0 = σ.2.2.1 42
def kpG : List Nat := [51, 78, 58, 79]
/-- the game and what hangs on it stays -/
def kp (σ σ' : St) : Prop := (∀ k, k ∈ kpG → σ'.1 k = σ.1 k) ∧ (∀ k i, 67 ≤ k → k ≤ 77 → i < lom k → σ'.1 k i = σ.1 k i) ∧ (∀ j, 1 ≤ j → j ≤ 17 → σ'.1 (σ.2.2.2 0 + j) = σ.1 (σ.2.2.2 0 + j)) ∧ (∀ k, k ∈ [59, 60] → σ'.2.1 k = σ.2.1 k) ∧ (∀ k, k ∈ [11, 44, 43] → σ'.2.2.1 k = σ.2.2.1 k) ∧ σ'.2.2.1 (σ.2.2.2 0 + 10) = σ.2.2.1 (σ.2.2.2 0 + 10) ∧ σ'.2.2.2 = σ.2.2.2
theorem mr_in (j : Nat) (h1 : 1 ≤ j) (h7 : j ≤ 7) : 67 ≤ mr j ∧ mr j ≤ 77 ∧ lom (mr j) = 60 := by
  have : j = 1 ∨ j = 2 ∨ j = 3 ∨ j = 4 ∨ j = 5 ∨ j = 6 ∨ j = 7 := by omega
  rcases this with rfl | rfl | rfl | rfl | rfl | rfl | rfl <;> decide
theorem mG.kp {n : Nat} {T : TT} {σ σ' : St} (h : mG n T σ) (hW : wf n T) (hk : ∀ k i, 67 ≤ k → k ≤ 77 → i < lom k → σ'.1 k i = σ.1 k i) (h3 : σ'.2.2.1 43 = σ.2.2.1 43) : mG n T σ' := by
  obtain ⟨a1, a2, a3, a4, a5, a6⟩ := h
  have n60 : n ≤ 60 := hW.2.1
  refine ⟨fun j p x y z => ?_, fun p k x y => ?_, fun s x => ?_, fun s x => ?_, fun p x y z => ?_, ?_⟩
  · obtain ⟨b1, b2, b3⟩ := mr_in j x y
    rw [hk _ p b1 b2 (by omega)]; exact a1 j p x y z
  · have := wK4 (hW.K x)
    rw [hk 75 _ (by omega) (by omega) (by show 4 * p + k < 240; omega)]; exact a2 p k x y
  · rw [hk 76 s (by omega) (by omega) (by show s < 10; omega)]; exact a3 s x
  · rw [hk 77 s (by omega) (by omega) (by show s < 10; omega)]; exact a4 s x
  · rw [hk 73 p (by omega) (by omega) (by show p < 60; omega)]; exact a5 p x y z
  · rw [h3]; exact a6
theorem cG.cg {g n : Nat} {T : TT} {σ σ' : St} (h : cG g n T σ) (h1 : ∀ j, 1 ≤ j → j ≤ 17 → σ'.1 (g + j) = σ.1 (g + j)) (h2 : σ'.2.2.1 (g + 10) = σ.2.2.1 (g + 10)) : cG g n T σ' := by
  obtain ⟨a1, a2, a3, a4, a5, a6, a7⟩ := h
  refine ⟨fun j p x y z => ?_, fun p z => ?_, fun i z => ?_, fun j s x y z => ?_, fun w p x y => ?_, fun w x => ?_, ?_⟩
  · rw [h1 j x (by omega)]; exact a1 j p x y z
  · rw [h1 10 (by omega) (by omega)]; exact a2 p z
  · rw [h1 9 (by omega) (by omega)]; exact a3 i z
  · rw [h1 j (by omega) (by omega)]; exact a4 j s x y z
  · rw [h1 11 (by omega) (by omega)]; exact a5 w p x y
  · rw [h1 17 (by omega) (by omega)]; exact a6 w x
  · rw [h2]; exact a7
theorem gAll.kp {σ σ' : St} (h : gAll σ) (k : kp σ σ') : gAll σ' := by
  obtain ⟨n, T, sh, R, D, ⟨g1, g2, g3, g4⟩, hp, ⟨r1, r2, r3, r4, r5, r6⟩⟩ := h
  obtain ⟨k1, k2, k3, k4, k5, k6, k7⟩ := k
  refine ⟨n, T, sh, R, D, ⟨g1, by rw [k7]; exact g2, ?_, g4.kp g1 k2 (k5 43 (by decide))⟩, fun s a x y z => ?_, ⟨r1, by rw [k5 11 (by decide)]; exact r2, by rw [k5 44 (by decide)]; exact r3, r4, fun r s x y => ?_, fun w p x y => ?_⟩⟩
  · rw [k7]; exact g3.cg k3 k6
  · rw [k1 51 (by decide), k1 78 (by decide)]; exact hp s a x y z
  · rw [k1 58 (by decide), k1 79 (by decide)]; exact r5 r s x y
  · have : w = 0 ∨ w = 1 := by omega
    rcases this with rfl | rfl
    · rw [k4 59 (by decide)]; exact r6 0 p x y
    · rw [k4 60 (by decide)]; exact r6 1 p x y
theorem trI.cg {σ σ' : St} (h : trI σ) (h1 : σ'.2.2.1 12 = σ.2.2.1 12) (h2 : σ'.2.2.1 45 = σ.2.2.1 45) (h3 : σ'.1 62 = σ.1 62) (h4 : σ'.1 80 = σ.1 80) : trI σ' := by
  obtain ⟨m, a, b, c, d⟩ := h
  exact ⟨m, a, by rw [h1]; exact b, by rw [h2]; exact c, fun i hi => by rw [h3, h4]; exact d i hi⟩
def scA : List Nat := [52, 54, 55, 57, 86, 88]
def scL : List Nat := [46, 53, 56, 61, 84, 85, 87]
def scF : List Nat := [52, 53]
theorem g_of {σ : St} {n : Nat} {T : TT} (h : gI σ n T) : (σ.2.2.2 0 = 10 ∨ σ.2.2.2 0 = 28) ∧ (σ.2.2.2 1 = 10 ∨ σ.2.2.2 1 = 28) := by
  rcases h.2.1 with h | h <;> omega
/-- calls that write scratch alone -/
theorem kp_sc {σ σ' : St} {n : Nat} {T : TT} (hg : gI σ n T) (h : fr scA scL scF σ σ') : kp σ σ' := by
  have g := (g_of hg).1
  refine ⟨fun k hk => h.1 k ?_, fun k i a b _ => ?_, fun j a b => ?_, fun k hk => h.2.1 k ?_, fun k hk => h.2.2.1 k ?_, ?_, h.2.2.2⟩
  · simp only [kpG, List.mem_cons, List.mem_nil_iff, or_false] at hk
    simp only [scA, List.mem_cons, List.mem_nil_iff, or_false]
    omega
  · rw [h.1 k (by simp only [scA, List.mem_cons, List.mem_nil_iff, or_false]; omega)]
  · rw [h.1 _ (by simp only [scA, List.mem_cons, List.mem_nil_iff, or_false]; omega)]
  · simp only [List.mem_cons, List.mem_nil_iff, or_false] at hk
    simp only [scL, List.mem_cons, List.mem_nil_iff, or_false]
    omega
  · simp only [List.mem_cons, List.mem_nil_iff, or_false] at hk
    simp only [scF, List.mem_cons, List.mem_nil_iff, or_false]
    omega
  · rw [h.2.2.1 _ (by simp only [scF, List.mem_cons, List.mem_nil_iff, or_false]; omega)]
theorem Inv.sc {σ σ' : St} (h : Inv σ) (hf : fr scA scL scF σ σ') : Inv σ' := by
  obtain ⟨⟨a1, a2, a3, a4, a5⟩, b, c⟩ := h
  have k : kp σ σ' := by
    obtain ⟨n, T, sh, R, D, hg, _⟩ := a5
    exact kp_sc hg hf
  have F : ∀ n, n ∉ scF → σ'.2.2.1 n = σ.2.2.1 n := hf.2.2.1
  refine ⟨⟨a1.fr hf (by decide), ?_, ⟨by rw [F 9 (by decide)]; exact a3.1, by rw [F 10 (by decide)]; exact a3.2⟩, a4.cg (F 12 (by decide)) (F 45 (by decide)) (hf.1 62 (by decide)) (hf.1 80 (by decide)), a5.kp k⟩, ?_, by rw [F 0 (by decide), F 42 (by decide)]; exact c⟩
  · unfold iFnd at a2 ⊢
    rw [F 1 (by decide), F 40 (by decide)]
    exact a2
  · obtain ⟨T, x1, x2, x3, x4⟩ := b
    refine ⟨T, x1, by rw [F 2 (by decide)]; exact x2, by rw [F 41 (by decide)]; exact x3, fun i hi => ?_⟩
    rw [hf.1 66 (by decide), hf.1 50 (by decide)]
    exact x4 i hi
theorem iTap_tp {σ : St} (h : iTap σ) : ∃ B L, tp B L σ := by
  obtain ⟨T, x1, x2, x3, x4⟩ := h
  refine ⟨fun i => if hi : i < T then Classical.choose (x4 i hi) else 0, T, x1, x2, x3, fun i hi => ?_⟩
  have sp := Classical.choose_spec (x4 i hi)
  simp only [dif_pos hi]
  exact sp
/-- the answer of a call, twice -/
def stq (f g : St → Option (Int64 × St)) (σ : St) : Prop := ∃ r σ1 σ2, f σ = some (r, σ1) ∧ g σ1 = some (r, σ2) ∧ Inv σ2
def sti (f g : St → Option (Int32 × St)) (σ : St) : Prop := ∃ r σ1 σ2, f σ = some (r, σ1) ∧ g σ1 = some (r, σ2) ∧ Inv σ2
