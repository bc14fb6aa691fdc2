/-! small pieces that the methods' functions are made of -/
def ck {R : Type} (b : Bool) (k : Option R) : Option R := if b = true then k else none
theorem ck_e {R : Type} {b : Bool} {k : Option R} {r : R} (h : ck b k = some r) : b = true ∧ k = some r := by
  unfold ck at h
  by_cases hb : b = true
  · rw [if_pos hb] at h; exact ⟨hb, h⟩
  · rw [if_neg hb] at h; cases h
def lE {A R : Type} (e : A) (k : A → R) : R := k e
theorem lE_c {A R : Type} {e x : A} {k : A → R} {r : R} (e1 : x = e) (h : lE e k = r) : k x = r := by subst e1; exact h
def bd {A R : Type} (m : Option (A × St)) (k : A → St → Option R) : Option R := match m with
  | none => none
  | some q => k q.1 q.2
theorem bd_e {A R : Type} {m : Option (A × St)} {k : A → St → Option R} {r : R} (h : bd m k = some r) : ∃ a σ, m = some (a, σ) ∧ k a σ = some r := by
  cases m with
  | none => cases h
  | some q => exact ⟨q.1, q.2, rfl, h⟩
def bv {R : Type} (m : Option St) (k : St → Option R) : Option R := match m with
  | none => none
  | some q => k q
theorem bv_e {R : Type} {m : Option St} {k : St → Option R} {r : R} (h : bv m k = some r) : ∃ σ, m = some σ ∧ k σ = some r := by
  cases m with
  | none => cases h
  | some q => exact ⟨q, rfl, h⟩
def ib (i : Int32) (n : Nat) : Bool := decide (¬ (i < 0 ∨ n ≤ i.toNatClampNeg))
theorem ib_e {i : Int32} {n : Nat} (h : ib i n = true) : vp_in i n := by
  have h1 : ¬ (i < 0 ∨ n ≤ i.toNatClampNeg) := of_decide_eq_true h
  exact h1
theorem if_t {R : Type} {c : Prop} [Decidable c] {a b r : R} (hc : c) (h : (if c then a else b) = r) : a = r := by rw [if_pos hc] at h; exact h
theorem if_f {R : Type} {c : Prop} [Decidable c] {a b r : R} (hc : ¬ c) (h : (if c then a else b) = r) : b = r := by rw [if_neg hc] at h; exact h
theorem rt_e {A B : Type} {a c : A} {b d : B} (h : some (a, b) = some (c, d)) : a = c ∧ b = d := by cases h; exact ⟨rfl, rfl⟩
theorem rv_e {A : Type} {a c : A} (h : some a = some c) : a = c := by cases h; rfl
def isB (x : Int32) : Bool := x == 0 || x == 1
theorem isB_e {x : Int32} (h : isB x = true) : narrow .boolean (.int x) = .int x := by
  unfold isB at h
  rw [Bool.or_eq_true] at h
  rcases h with h | h
  · rw [eq_of_beq h]; rfl
  · rw [eq_of_beq h]; rfl
/-- a loop: so many turns at most -/
def lp {F : Type} (z : F) (body : F → F) : Nat → F
  | 0 => z
  | f + 1 => body (lp z body f)
theorem lp_ind {F : Type} {z : F} {body : F → F} (P : F → Prop) (h0 : P z) (hs : ∀ k, P k → P (body k)) : ∀ f, P (lp z body f)
  | 0 => h0
  | f + 1 => hs _ (lp_ind P h0 hs f)
def FU : Nat := 1000
theorem lle_0 {L : List (Option Value)} : lle [] L := trivial
theorem lle_s {v : Value} {t T : List (Option Value)} (h : lle t T) : lle (some v :: t) (some v :: T) := ⟨rfl, h⟩
theorem lle_k {x : Option Value} {t T : List (Option Value)} (h : lle t T) : lle (none :: t) (x :: T) := h
theorem swo {x : Int32} {lo hi : Int} (h : ∀ z : Int, lo ≤ z → z ≤ hi → x.toInt ≠ z) : x.toInt < lo ∨ hi < x.toInt := by
  by_cases h1 : x.toInt < lo
  · exact Or.inl h1
  · by_cases h2 : hi < x.toInt
    · exact Or.inr h2
    · exact absurd rfl (h x.toInt (by omega) (by omega))
theorem sw1 {x y : Int32} {z : Int} (h : ¬ x = y) (hy : y.toInt = z) : x.toInt ≠ z := fun e => h (Int32.toInt_inj.mp (e.trans hy.symm))
/-! the games, the plans, the rows handed about -/
def isG (g : Nat) : Bool := g == 10 || g == 28
theorem isG_e {g : Nat} (h : isG g = true) : g = 10 ∨ g = 28 := by simpa [isG] using h
def isP (q : Nat) : Bool := q == 4 || q == 5
theorem isP_e {q : Nat} (h : isP q = true) : q = 4 ∨ q = 5 := by simpa [isP] using h
def isL (a : Nat) : Bool := decide (a < NC) && (kd a == 4 && ln a == 60)
theorem isL_e {a : Nat} (h : isL a = true) : a < NC ∧ kd a = 4 ∧ ln a = 60 := by simpa [isL] using h
def isI (a : Nat) : Bool := decide (a < NC) && (kd a == 1 && decide (ln a < 2147483648))
theorem isI_e {a : Nat} (h : isI a = true) : a < NC ∧ kd a = 1 ∧ ln a = ln a := by
  have h1 : a < NC ∧ kd a = 1 ∧ ln a < 2147483648 := by simpa [isI] using h
  exact ⟨h1.1, h1.2.1, rfl⟩
def isJ (a : Nat) : Bool := decide (a < NC) && (kd a == 4 && decide (ln a < 2147483648))
theorem isJ_e {a : Nat} (h : isJ a = true) : a < NC ∧ kd a = 4 ∧ ln a = ln a := by
  have h1 : a < NC ∧ kd a = 4 ∧ ln a < 2147483648 := by simpa [isJ] using h
  exact ⟨h1.1, h1.2.1, rfl⟩

theorem ar_11 : 11 < NC ∧ kd 11 = 1 ∧ ln 11 = 60 := by decide
theorem ar_12 : 12 < NC ∧ kd 12 = 1 ∧ ln 12 = 60 := by decide
theorem ar_13 : 13 < NC ∧ kd 13 = 1 ∧ ln 13 = 60 := by decide
theorem ar_14 : 14 < NC ∧ kd 14 = 1 ∧ ln 14 = 60 := by decide
theorem ar_15 : 15 < NC ∧ kd 15 = 1 ∧ ln 15 = 60 := by decide
theorem ar_16 : 16 < NC ∧ kd 16 = 1 ∧ ln 16 = 60 := by decide
theorem ar_17 : 17 < NC ∧ kd 17 = 1 ∧ ln 17 = 60 := by decide
theorem ar_18 : 18 < NC ∧ kd 18 = 1 ∧ ln 18 = 60 := by decide
theorem ar_19 : 19 < NC ∧ kd 19 = 1 ∧ ln 19 = 240 := by decide
theorem ar_20 : 20 < NC ∧ kd 20 = 1 ∧ ln 20 = 60 := by decide
theorem ar_21 : 21 < NC ∧ kd 21 = 1 ∧ ln 21 = 120 := by decide
theorem ar_22 : 22 < NC ∧ kd 22 = 4 ∧ ln 22 = 120 := by decide
theorem ar_23 : 23 < NC ∧ kd 23 = 1 ∧ ln 23 = 10 := by decide
theorem ar_24 : 24 < NC ∧ kd 24 = 1 ∧ ln 24 = 10 := by decide
theorem ar_25 : 25 < NC ∧ kd 25 = 1 ∧ ln 25 = 10 := by decide
theorem ar_26 : 26 < NC ∧ kd 26 = 1 ∧ ln 26 = 10 := by decide
theorem ar_27 : 27 < NC ∧ kd 27 = 3 ∧ ln 27 = 2 := by decide
theorem ar_29 : 29 < NC ∧ kd 29 = 1 ∧ ln 29 = 60 := by decide
theorem ar_30 : 30 < NC ∧ kd 30 = 1 ∧ ln 30 = 60 := by decide
theorem ar_31 : 31 < NC ∧ kd 31 = 1 ∧ ln 31 = 60 := by decide
theorem ar_32 : 32 < NC ∧ kd 32 = 1 ∧ ln 32 = 60 := by decide
theorem ar_33 : 33 < NC ∧ kd 33 = 1 ∧ ln 33 = 60 := by decide
theorem ar_34 : 34 < NC ∧ kd 34 = 1 ∧ ln 34 = 60 := by decide
theorem ar_35 : 35 < NC ∧ kd 35 = 1 ∧ ln 35 = 60 := by decide
theorem ar_36 : 36 < NC ∧ kd 36 = 1 ∧ ln 36 = 60 := by decide
theorem ar_37 : 37 < NC ∧ kd 37 = 1 ∧ ln 37 = 240 := by decide
theorem ar_38 : 38 < NC ∧ kd 38 = 1 ∧ ln 38 = 60 := by decide
theorem ar_39 : 39 < NC ∧ kd 39 = 1 ∧ ln 39 = 120 := by decide
theorem ar_40 : 40 < NC ∧ kd 40 = 4 ∧ ln 40 = 120 := by decide
theorem ar_41 : 41 < NC ∧ kd 41 = 1 ∧ ln 41 = 10 := by decide
theorem ar_42 : 42 < NC ∧ kd 42 = 1 ∧ ln 42 = 10 := by decide
theorem ar_43 : 43 < NC ∧ kd 43 = 1 ∧ ln 43 = 10 := by decide
theorem ar_44 : 44 < NC ∧ kd 44 = 1 ∧ ln 44 = 10 := by decide
theorem ar_45 : 45 < NC ∧ kd 45 = 3 ∧ ln 45 = 2 := by decide
theorem ar_46 : 46 < NC ∧ kd 46 = 4 ∧ ln 46 = 60 := by decide
theorem ar_47 : 47 < NC ∧ kd 47 = 1 ∧ ln 47 = 8 := by decide
theorem ar_48 : 48 < NC ∧ kd 48 = 1 ∧ ln 48 = 8 := by decide
theorem ar_49 : 49 < NC ∧ kd 49 = 1 ∧ ln 49 = 320 := by decide
theorem ar_50 : 50 < NC ∧ kd 50 = 2 ∧ ln 50 = 600 := by decide
theorem ar_51 : 51 < NC ∧ kd 51 = 1 ∧ ln 51 = 30 := by decide
theorem ar_52 : 52 < NC ∧ kd 52 = 1 ∧ ln 52 = 30 := by decide
theorem ar_53 : 53 < NC ∧ kd 53 = 4 ∧ ln 53 = 60 := by decide
theorem ar_54 : 54 < NC ∧ kd 54 = 1 ∧ ln 54 = 60 := by decide
theorem ar_55 : 55 < NC ∧ kd 55 = 1 ∧ ln 55 = 60 := by decide
theorem ar_56 : 56 < NC ∧ kd 56 = 4 ∧ ln 56 = 180 := by decide
theorem ar_57 : 57 < NC ∧ kd 57 = 1 ∧ ln 57 = 60 := by decide
theorem ar_58 : 58 < NC ∧ kd 58 = 1 ∧ ln 58 = 600 := by decide
theorem ar_59 : 59 < NC ∧ kd 59 = 4 ∧ ln 59 = 60 := by decide
theorem ar_60 : 60 < NC ∧ kd 60 = 4 ∧ ln 60 = 60 := by decide
theorem ar_61 : 61 < NC ∧ kd 61 = 4 ∧ ln 61 = 60 := by decide
theorem ar_62 : 62 < NC ∧ kd 62 = 1 ∧ ln 62 = 16 := by decide
theorem ar_63 : 63 < NC ∧ kd 63 = 1 ∧ ln 63 = 8 := by decide
theorem ar_64 : 64 < NC ∧ kd 64 = 1 ∧ ln 64 = 8 := by decide
theorem ar_65 : 65 < NC ∧ kd 65 = 1 ∧ ln 65 = 320 := by decide
theorem ar_66 : 66 < NC ∧ kd 66 = 1 ∧ ln 66 = 600 := by decide
theorem ar_67 : 67 < NC ∧ kd 67 = 1 ∧ ln 67 = 120 := by decide
theorem ar_68 : 68 < NC ∧ kd 68 = 1 ∧ ln 68 = 120 := by decide
theorem ar_69 : 69 < NC ∧ kd 69 = 1 ∧ ln 69 = 120 := by decide
theorem ar_70 : 70 < NC ∧ kd 70 = 1 ∧ ln 70 = 120 := by decide
theorem ar_71 : 71 < NC ∧ kd 71 = 1 ∧ ln 71 = 120 := by decide
theorem ar_72 : 72 < NC ∧ kd 72 = 1 ∧ ln 72 = 120 := by decide
theorem ar_73 : 73 < NC ∧ kd 73 = 1 ∧ ln 73 = 120 := by decide
theorem ar_74 : 74 < NC ∧ kd 74 = 1 ∧ ln 74 = 120 := by decide
theorem ar_75 : 75 < NC ∧ kd 75 = 1 ∧ ln 75 = 480 := by decide
theorem ar_76 : 76 < NC ∧ kd 76 = 1 ∧ ln 76 = 20 := by decide
theorem ar_77 : 77 < NC ∧ kd 77 = 1 ∧ ln 77 = 20 := by decide
theorem ar_78 : 78 < NC ∧ kd 78 = 1 ∧ ln 78 = 30 := by decide
theorem ar_79 : 79 < NC ∧ kd 79 = 1 ∧ ln 79 = 600 := by decide
theorem ar_80 : 80 < NC ∧ kd 80 = 1 ∧ ln 80 = 16 := by decide
theorem ar_81 : 81 < NC ∧ kd 81 = 1 ∧ ln 81 = 9 := by decide
theorem ar_82 : 82 < NC ∧ kd 82 = 1 ∧ ln 82 = 9 := by decide
theorem ar_83 : 83 < NC ∧ kd 83 = 1 ∧ ln 83 = 9 := by decide
theorem ar_84 : 84 < NC ∧ kd 84 = 4 ∧ ln 84 = 60 := by decide
theorem ar_85 : 85 < NC ∧ kd 85 = 4 ∧ ln 85 = 60 := by decide
theorem ar_86 : 86 < NC ∧ kd 86 = 1 ∧ ln 86 = 60 := by decide
theorem ar_87 : 87 < NC ∧ kd 87 = 4 ∧ ln 87 = 60 := by decide
theorem ar_88 : 88 < NC ∧ kd 88 = 1 ∧ ln 88 = 60 := by decide
theorem ga_1 {g : Nat} (hg : isG g = true) : g + 1 < NC ∧ kd (g + 1) = 1 ∧ ln (g + 1) = 60 := by rcases isG_e hg with rfl | rfl <;> decide
theorem ga_2 {g : Nat} (hg : isG g = true) : g + 2 < NC ∧ kd (g + 2) = 1 ∧ ln (g + 2) = 60 := by rcases isG_e hg with rfl | rfl <;> decide
theorem ga_3 {g : Nat} (hg : isG g = true) : g + 3 < NC ∧ kd (g + 3) = 1 ∧ ln (g + 3) = 60 := by rcases isG_e hg with rfl | rfl <;> decide
theorem ga_4 {g : Nat} (hg : isG g = true) : g + 4 < NC ∧ kd (g + 4) = 1 ∧ ln (g + 4) = 60 := by rcases isG_e hg with rfl | rfl <;> decide
theorem ga_5 {g : Nat} (hg : isG g = true) : g + 5 < NC ∧ kd (g + 5) = 1 ∧ ln (g + 5) = 60 := by rcases isG_e hg with rfl | rfl <;> decide
theorem ga_6 {g : Nat} (hg : isG g = true) : g + 6 < NC ∧ kd (g + 6) = 1 ∧ ln (g + 6) = 60 := by rcases isG_e hg with rfl | rfl <;> decide
theorem ga_7 {g : Nat} (hg : isG g = true) : g + 7 < NC ∧ kd (g + 7) = 1 ∧ ln (g + 7) = 60 := by rcases isG_e hg with rfl | rfl <;> decide
theorem ga_8 {g : Nat} (hg : isG g = true) : g + 8 < NC ∧ kd (g + 8) = 1 ∧ ln (g + 8) = 60 := by rcases isG_e hg with rfl | rfl <;> decide
theorem ga_9 {g : Nat} (hg : isG g = true) : g + 9 < NC ∧ kd (g + 9) = 1 ∧ ln (g + 9) = 240 := by rcases isG_e hg with rfl | rfl <;> decide
theorem ga_10 {g : Nat} (hg : isG g = true) : g + 10 < NC ∧ kd (g + 10) = 1 ∧ ln (g + 10) = 60 := by rcases isG_e hg with rfl | rfl <;> decide
theorem ga_11 {g : Nat} (hg : isG g = true) : g + 11 < NC ∧ kd (g + 11) = 1 ∧ ln (g + 11) = 120 := by rcases isG_e hg with rfl | rfl <;> decide
theorem ga_12 {g : Nat} (hg : isG g = true) : g + 12 < NC ∧ kd (g + 12) = 4 ∧ ln (g + 12) = 120 := by rcases isG_e hg with rfl | rfl <;> decide
theorem ga_13 {g : Nat} (hg : isG g = true) : g + 13 < NC ∧ kd (g + 13) = 1 ∧ ln (g + 13) = 10 := by rcases isG_e hg with rfl | rfl <;> decide
theorem ga_14 {g : Nat} (hg : isG g = true) : g + 14 < NC ∧ kd (g + 14) = 1 ∧ ln (g + 14) = 10 := by rcases isG_e hg with rfl | rfl <;> decide
theorem ga_15 {g : Nat} (hg : isG g = true) : g + 15 < NC ∧ kd (g + 15) = 1 ∧ ln (g + 15) = 10 := by rcases isG_e hg with rfl | rfl <;> decide
theorem ga_16 {g : Nat} (hg : isG g = true) : g + 16 < NC ∧ kd (g + 16) = 1 ∧ ln (g + 16) = 10 := by rcases isG_e hg with rfl | rfl <;> decide
theorem ga_17 {g : Nat} (hg : isG g = true) : g + 17 < NC ∧ kd (g + 17) = 3 ∧ ln (g + 17) = 2 := by rcases isG_e hg with rfl | rfl <;> decide
theorem pa_47 {q : Nat} (hq : isP q = true) : q + 47 < NC ∧ kd (q + 47) = 1 ∧ ln (q + 47) = 30 := by rcases isP_e hq with rfl | rfl <;> decide
theorem uw_0 : ∀ t ∈ u_ws RX0 TX0 2, t ∈ gT := by
  have h : (u_ws RX0 TX0 2).all (fun t => decide (t ∈ lw_tbl) && goodWord t) = true := by decide +kernel
  intro t ht
  have h1 := List.all_eq_true.mp h t ht
  simp only [Bool.and_eq_true, decide_eq_true_eq] at h1
  exact gT_mem h1.1 h1.2
theorem uw_1 : ∀ t ∈ u_ws RX1 TX1 18, t ∈ gT := by
  have h : (u_ws RX1 TX1 18).all (fun t => decide (t ∈ lw_tbl) && goodWord t) = true := by decide +kernel
  intro t ht
  have h1 := List.all_eq_true.mp h t ht
  simp only [Bool.and_eq_true, decide_eq_true_eq] at h1
  exact gT_mem h1.1 h1.2
theorem uw_2 : ∀ t ∈ u_ws RX2 TX2 6, t ∈ gT := by
  have h : (u_ws RX2 TX2 6).all (fun t => decide (t ∈ lw_tbl) && goodWord t) = true := by decide +kernel
  intro t ht
  have h1 := List.all_eq_true.mp h t ht
  simp only [Bool.and_eq_true, decide_eq_true_eq] at h1
  exact gT_mem h1.1 h1.2
theorem uw_3 : ∀ t ∈ u_ws RX3 TX3 1, t ∈ gT := by
  have h : (u_ws RX3 TX3 1).all (fun t => decide (t ∈ lw_tbl) && goodWord t) = true := by decide +kernel
  intro t ht
  have h1 := List.all_eq_true.mp h t ht
  simp only [Bool.and_eq_true, decide_eq_true_eq] at h1
  exact gT_mem h1.1 h1.2
theorem uw_4 : ∀ t ∈ u_ws RX4 TX4 2, t ∈ gT := by
  have h : (u_ws RX4 TX4 2).all (fun t => decide (t ∈ lw_tbl) && goodWord t) = true := by decide +kernel
  intro t ht
  have h1 := List.all_eq_true.mp h t ht
  simp only [Bool.and_eq_true, decide_eq_true_eq] at h1
  exact gT_mem h1.1 h1.2
theorem uw_5 : ∀ t ∈ u_ws RX5 TX5 3, t ∈ gT := by
  have h : (u_ws RX5 TX5 3).all (fun t => decide (t ∈ lw_tbl) && goodWord t) = true := by decide +kernel
  intro t ht
  have h1 := List.all_eq_true.mp h t ht
  simp only [Bool.and_eq_true, decide_eq_true_eq] at h1
  exact gT_mem h1.1 h1.2
theorem uw_6 : ∀ t ∈ u_ws RX6 TX6 7, t ∈ gT := by
  have h : (u_ws RX6 TX6 7).all (fun t => decide (t ∈ lw_tbl) && goodWord t) = true := by decide +kernel
  intro t ht
  have h1 := List.all_eq_true.mp h t ht
  simp only [Bool.and_eq_true, decide_eq_true_eq] at h1
  exact gT_mem h1.1 h1.2
theorem uw_7 : ∀ t ∈ u_ws RX7 TX7 6, t ∈ gT := by
  have h : (u_ws RX7 TX7 6).all (fun t => decide (t ∈ lw_tbl) && goodWord t) = true := by decide +kernel
  intro t ht
  have h1 := List.all_eq_true.mp h t ht
  simp only [Bool.and_eq_true, decide_eq_true_eq] at h1
  exact gT_mem h1.1 h1.2
theorem uw_8 : ∀ t ∈ u_ws RX8 TX8 12, t ∈ gT := by
  have h : (u_ws RX8 TX8 12).all (fun t => decide (t ∈ lw_tbl) && goodWord t) = true := by decide +kernel
  intro t ht
  have h1 := List.all_eq_true.mp h t ht
  simp only [Bool.and_eq_true, decide_eq_true_eq] at h1
  exact gT_mem h1.1 h1.2
theorem uw_9 : ∀ t ∈ u_ws RX9 TX9 40, t ∈ gT := by
  have h : (u_ws RX9 TX9 40).all (fun t => decide (t ∈ lw_tbl) && goodWord t) = true := by decide +kernel
  intro t ht
  have h1 := List.all_eq_true.mp h t ht
  simp only [Bool.and_eq_true, decide_eq_true_eq] at h1
  exact gT_mem h1.1 h1.2
section LK
variable {E : gE} {w : wT} {cc : ByteArray} {nL : Nat} {h : Nat} {σ : St} {pc n : Nat} {L : List (Option Value)} {st : List Value}
theorem gl_RX5_9 : Cond.fieldLink RX5 9 RX5 (TX5 0).2.1 (TX5 0).2.2.1 ∈ lw_tbl := tq1 36 rfl
theorem gf_RX5_9 (X : gC E w cc nL RX5 h) (hd : decode cc pc = .ok (.getfield 9, 3)) (hp : pc + 3 = n) (kk : gW E w nL σ n L (.ref (w.1 47) :: st)) : gW E w nL σ pc L (.ref (w.1 1) :: st) := g_get X (k := 1) (j := 0) (by decide) rfl rfl (by decide) rfl uw_5 gl_RX5_9 rfl hd hp kk
theorem gl_RX8_108 : Cond.fieldLink RX8 108 RX5 (TX5 0).2.1 (TX5 0).2.2.1 ∈ lw_tbl := tq1 37 rfl
theorem gf_RX8_108 (X : gC E w cc nL RX8 h) (hd : decode cc pc = .ok (.getfield 108, 3)) (hp : pc + 3 = n) (kk : gW E w nL σ n L (.ref (w.1 47) :: st)) : gW E w nL σ pc L (.ref (w.1 1) :: st) := g_get X (k := 1) (j := 0) (by decide) rfl rfl (by decide) rfl uw_5 gl_RX8_108 rfl hd hp kk
theorem gl_RX5_15 : Cond.fieldLink RX5 15 RX5 (TX5 1).2.1 (TX5 1).2.2.1 ∈ lw_tbl := tq1 38 rfl
theorem gf_RX5_15 (X : gC E w cc nL RX5 h) (hd : decode cc pc = .ok (.getfield 15, 3)) (hp : pc + 3 = n) (kk : gW E w nL σ n L (.ref (w.1 48) :: st)) : gW E w nL σ pc L (.ref (w.1 1) :: st) := g_get X (k := 1) (j := 1) (by decide) rfl rfl (by decide) rfl uw_5 gl_RX5_15 rfl hd hp kk
theorem gl_RX5_18 : Cond.fieldLink RX5 18 RX5 (TX5 2).2.1 (TX5 2).2.2.1 ∈ lw_tbl := tq1 39 rfl
theorem gf_RX5_18 (X : gC E w cc nL RX5 h) (hd : decode cc pc = .ok (.getfield 18, 3)) (hp : pc + 3 = n) (kk : gW E w nL σ n L (.ref (w.1 49) :: st)) : gW E w nL σ pc L (.ref (w.1 1) :: st) := g_get X (k := 1) (j := 2) (by decide) rfl rfl (by decide) rfl uw_5 gl_RX5_18 rfl hd hp kk
theorem gl_RX7_9 : Cond.fieldLink RX7 9 RX7 (TX7 0).2.1 (TX7 0).2.2.1 ∈ lw_tbl := tq1 54 rfl
theorem gf_RX7_9 (X : gC E w cc nL RX7 h) (hd : decode cc pc = .ok (.getfield 9, 3)) (hp : pc + 3 = n) (kk : gW E w nL σ n L (.ref (w.1 50) :: st)) : gW E w nL σ pc L (.ref (w.1 2) :: st) := g_get X (k := 2) (j := 0) (by decide) rfl rfl (by decide) rfl uw_7 gl_RX7_9 rfl hd hp kk
theorem gl_RX7_15 : Cond.fieldLink RX7 15 RX7 (TX7 1).2.1 (TX7 1).2.2.1 ∈ lw_tbl := tq1 55 rfl
theorem gf_RX7_15 (X : gC E w cc nL RX7 h) (hd : decode cc pc = .ok (.getfield 15, 3)) (hp : pc + 3 = n) (kk : gW E w nL σ n L (.int (rF σ 2) :: st)) : gW E w nL σ pc L (.ref (w.1 2) :: st) := g_get X (k := 2) (j := 1) (by decide) rfl rfl (by decide) rfl uw_7 gl_RX7_15 rfl hd hp kk
theorem gp_RX7_15 {x : Int32} (X : gC E w cc nL RX7 h) (hd : decode cc pc = .ok (.putfield 15, 3)) (hp : pc + 3 = n) (kk : ∀ σ1 : St, σ1 = stF σ 2 x → gW E w nL σ1 n L st) : gW E w nL σ pc L (.int x :: .ref (w.1 2) :: st) := g_putI X (k := 2) (j := 1) tyX7 tyX7_ok nmX7 (by decide) rfl rfl (by decide) rfl (by decide) uw_7 gl_RX7_15 rfl rfl rfl hd hp kk
theorem gl_RX8_120 : Cond.fieldLink RX8 120 RX7 (TX7 1).2.1 (TX7 1).2.2.1 ∈ lw_tbl := tq1 56 rfl
theorem gf_RX8_120 (X : gC E w cc nL RX8 h) (hd : decode cc pc = .ok (.getfield 120, 3)) (hp : pc + 3 = n) (kk : gW E w nL σ n L (.int (rF σ 2) :: st)) : gW E w nL σ pc L (.ref (w.1 2) :: st) := g_get X (k := 2) (j := 1) (by decide) rfl rfl (by decide) rfl uw_7 gl_RX8_120 rfl hd hp kk
theorem gp_RX8_120 {x : Int32} (X : gC E w cc nL RX8 h) (hd : decode cc pc = .ok (.putfield 120, 3)) (hp : pc + 3 = n) (kk : ∀ σ1 : St, σ1 = stF σ 2 x → gW E w nL σ1 n L st) : gW E w nL σ pc L (.int x :: .ref (w.1 2) :: st) := g_putI X (k := 2) (j := 1) tyX7 tyX7_ok nmX7 (by decide) rfl rfl (by decide) rfl (by decide) uw_7 gl_RX8_120 rfl rfl rfl hd hp kk
theorem gl_RX7_19 : Cond.fieldLink RX7 19 RX7 (TX7 2).2.1 (TX7 2).2.2.1 ∈ lw_tbl := tq1 57 rfl
theorem gf_RX7_19 (X : gC E w cc nL RX7 h) (hd : decode cc pc = .ok (.getfield 19, 3)) (hp : pc + 3 = n) (kk : gW E w nL σ n L (.int (rF σ 3) :: st)) : gW E w nL σ pc L (.ref (w.1 2) :: st) := g_get X (k := 2) (j := 2) (by decide) rfl rfl (by decide) rfl uw_7 gl_RX7_19 rfl hd hp kk
theorem gp_RX7_19 {x : Int32} (X : gC E w cc nL RX7 h) (hd : decode cc pc = .ok (.putfield 19, 3)) (hp : pc + 3 = n) (kk : ∀ σ1 : St, σ1 = stF σ 3 x → gW E w nL σ1 n L st) : gW E w nL σ pc L (.int x :: .ref (w.1 2) :: st) := g_putI X (k := 2) (j := 2) tyX7 tyX7_ok nmX7 (by decide) rfl rfl (by decide) rfl (by decide) uw_7 gl_RX7_19 rfl rfl rfl hd hp kk
theorem gl_RX4_33 : Cond.fieldLink RX4 33 RX7 (TX7 2).2.1 (TX7 2).2.2.1 ∈ lw_tbl := tq1 58 rfl
theorem gf_RX4_33 (X : gC E w cc nL RX4 h) (hd : decode cc pc = .ok (.getfield 33, 3)) (hp : pc + 3 = n) (kk : gW E w nL σ n L (.int (rF σ 3) :: st)) : gW E w nL σ pc L (.ref (w.1 2) :: st) := g_get X (k := 2) (j := 2) (by decide) rfl rfl (by decide) rfl uw_7 gl_RX4_33 rfl hd hp kk
theorem gp_RX4_33 {x : Int32} (X : gC E w cc nL RX4 h) (hd : decode cc pc = .ok (.putfield 33, 3)) (hp : pc + 3 = n) (kk : ∀ σ1 : St, σ1 = stF σ 3 x → gW E w nL σ1 n L st) : gW E w nL σ pc L (.int x :: .ref (w.1 2) :: st) := g_putI X (k := 2) (j := 2) tyX7 tyX7_ok nmX7 (by decide) rfl rfl (by decide) rfl (by decide) uw_7 gl_RX4_33 rfl rfl rfl hd hp kk
theorem gl_RX7_22 : Cond.fieldLink RX7 22 RX7 (TX7 3).2.1 (TX7 3).2.2.1 ∈ lw_tbl := tq1 59 rfl
theorem gf_RX7_22 (X : gC E w cc nL RX7 h) (hd : decode cc pc = .ok (.getfield 22, 3)) (hp : pc + 3 = n) (kk : gW E w nL σ n L (.int (rF σ 4) :: st)) : gW E w nL σ pc L (.ref (w.1 2) :: st) := g_get X (k := 2) (j := 3) (by decide) rfl rfl (by decide) rfl uw_7 gl_RX7_22 rfl hd hp kk
theorem gp_RX7_22 {x : Int32} (X : gC E w cc nL RX7 h) (hd : decode cc pc = .ok (.putfield 22, 3)) (hp : pc + 3 = n) (kk : ∀ σ1 : St, σ1 = stF σ 4 x → gW E w nL σ1 n L st) : gW E w nL σ pc L (.int x :: .ref (w.1 2) :: st) := g_putI X (k := 2) (j := 3) tyX7 tyX7_ok nmX7 (by decide) rfl rfl (by decide) rfl (by decide) uw_7 gl_RX7_22 rfl rfl rfl hd hp kk
theorem gl_RX4_46 : Cond.fieldLink RX4 46 RX7 (TX7 3).2.1 (TX7 3).2.2.1 ∈ lw_tbl := tq1 60 rfl
theorem gf_RX4_46 (X : gC E w cc nL RX4 h) (hd : decode cc pc = .ok (.getfield 46, 3)) (hp : pc + 3 = n) (kk : gW E w nL σ n L (.int (rF σ 4) :: st)) : gW E w nL σ pc L (.ref (w.1 2) :: st) := g_get X (k := 2) (j := 3) (by decide) rfl rfl (by decide) rfl uw_7 gl_RX4_46 rfl hd hp kk
theorem gp_RX4_46 {x : Int32} (X : gC E w cc nL RX4 h) (hd : decode cc pc = .ok (.putfield 46, 3)) (hp : pc + 3 = n) (kk : ∀ σ1 : St, σ1 = stF σ 4 x → gW E w nL σ1 n L st) : gW E w nL σ pc L (.int x :: .ref (w.1 2) :: st) := g_putI X (k := 2) (j := 3) tyX7 tyX7_ok nmX7 (by decide) rfl rfl (by decide) rfl (by decide) uw_7 gl_RX4_46 rfl rfl rfl hd hp kk
theorem gl_RX7_25 : Cond.fieldLink RX7 25 RX7 (TX7 4).2.1 (TX7 4).2.2.1 ∈ lw_tbl := tq1 61 rfl
theorem gf_RX7_25 (X : gC E w cc nL RX7 h) (hd : decode cc pc = .ok (.getfield 25, 3)) (hp : pc + 3 = n) (kk : gW E w nL σ n L (.int (rF σ 5) :: st)) : gW E w nL σ pc L (.ref (w.1 2) :: st) := g_get X (k := 2) (j := 4) (by decide) rfl rfl (by decide) rfl uw_7 gl_RX7_25 rfl hd hp kk
theorem gp_RX7_25 {x : Int32} (X : gC E w cc nL RX7 h) (hd : decode cc pc = .ok (.putfield 25, 3)) (hp : pc + 3 = n) (kk : ∀ σ1 : St, σ1 = stF σ 5 x → gW E w nL σ1 n L st) : gW E w nL σ pc L (.int x :: .ref (w.1 2) :: st) := g_putI X (k := 2) (j := 4) tyX7 tyX7_ok nmX7 (by decide) rfl rfl (by decide) rfl (by decide) uw_7 gl_RX7_25 rfl rfl rfl hd hp kk
theorem gl_RX4_73 : Cond.fieldLink RX4 73 RX7 (TX7 4).2.1 (TX7 4).2.2.1 ∈ lw_tbl := tq1 62 rfl
theorem gf_RX4_73 (X : gC E w cc nL RX4 h) (hd : decode cc pc = .ok (.getfield 73, 3)) (hp : pc + 3 = n) (kk : gW E w nL σ n L (.int (rF σ 5) :: st)) : gW E w nL σ pc L (.ref (w.1 2) :: st) := g_get X (k := 2) (j := 4) (by decide) rfl rfl (by decide) rfl uw_7 gl_RX4_73 rfl hd hp kk
theorem gp_RX4_73 {x : Int32} (X : gC E w cc nL RX4 h) (hd : decode cc pc = .ok (.putfield 73, 3)) (hp : pc + 3 = n) (kk : ∀ σ1 : St, σ1 = stF σ 5 x → gW E w nL σ1 n L st) : gW E w nL σ pc L (.int x :: .ref (w.1 2) :: st) := g_putI X (k := 2) (j := 4) tyX7 tyX7_ok nmX7 (by decide) rfl rfl (by decide) rfl (by decide) uw_7 gl_RX4_73 rfl rfl rfl hd hp kk
theorem gl_RX7_28 : Cond.fieldLink RX7 28 RX7 (TX7 5).2.1 (TX7 5).2.2.1 ∈ lw_tbl := tq1 63 rfl
theorem gf_RX7_28 (X : gC E w cc nL RX7 h) (hd : decode cc pc = .ok (.getfield 28, 3)) (hp : pc + 3 = n) (kk : gW E w nL σ n L (.int (rF σ 6) :: st)) : gW E w nL σ pc L (.ref (w.1 2) :: st) := g_get X (k := 2) (j := 5) (by decide) rfl rfl (by decide) rfl uw_7 gl_RX7_28 rfl hd hp kk
theorem gp_RX7_28 {x : Int32} (X : gC E w cc nL RX7 h) (hd : decode cc pc = .ok (.putfield 28, 3)) (hp : pc + 3 = n) (kk : ∀ σ1 : St, σ1 = stF σ 6 x → gW E w nL σ1 n L st) : gW E w nL σ pc L (.int x :: .ref (w.1 2) :: st) := g_putI X (k := 2) (j := 5) tyX7 tyX7_ok nmX7 (by decide) rfl rfl (by decide) rfl (by decide) uw_7 gl_RX7_28 rfl rfl rfl hd hp kk
theorem gl_RX4_9 : Cond.fieldLink RX4 9 RX4 (TX4 0).2.1 (TX4 0).2.2.1 ∈ lw_tbl := tq1 84 rfl
theorem gf_RX4_9 (X : gC E w cc nL RX4 h) (hd : decode cc pc = .ok (.getfield 9, 3)) (hp : pc + 3 = n) (kk : gW E w nL σ n L (.int (rF σ 7) :: st)) : gW E w nL σ pc L (.ref (w.1 3) :: st) := g_get X (k := 3) (j := 0) (by decide) rfl rfl (by decide) rfl uw_4 gl_RX4_9 rfl hd hp kk
theorem gp_RX4_9 {x : Int32} (X : gC E w cc nL RX4 h) (hd : decode cc pc = .ok (.putfield 9, 3)) (hp : pc + 3 = n) (kk : ∀ σ1 : St, σ1 = stF σ 7 x → gW E w nL σ1 n L st) : gW E w nL σ pc L (.int x :: .ref (w.1 3) :: st) := g_putI X (k := 3) (j := 0) tyX4 tyX4_ok nmX4 (by decide) rfl rfl (by decide) rfl (by decide) uw_4 gl_RX4_9 rfl rfl rfl hd hp kk
theorem gl_RX8_133 : Cond.fieldLink RX8 133 RX4 (TX4 0).2.1 (TX4 0).2.2.1 ∈ lw_tbl := tq1 85 rfl
theorem gf_RX8_133 (X : gC E w cc nL RX8 h) (hd : decode cc pc = .ok (.getfield 133, 3)) (hp : pc + 3 = n) (kk : gW E w nL σ n L (.int (rF σ 7) :: st)) : gW E w nL σ pc L (.ref (w.1 3) :: st) := g_get X (k := 3) (j := 0) (by decide) rfl rfl (by decide) rfl uw_4 gl_RX8_133 rfl hd hp kk
theorem gp_RX8_133 {x : Int32} (X : gC E w cc nL RX8 h) (hd : decode cc pc = .ok (.putfield 133, 3)) (hp : pc + 3 = n) (kk : ∀ σ1 : St, σ1 = stF σ 7 x → gW E w nL σ1 n L st) : gW E w nL σ pc L (.int x :: .ref (w.1 3) :: st) := g_putI X (k := 3) (j := 0) tyX4 tyX4_ok nmX4 (by decide) rfl rfl (by decide) rfl (by decide) uw_4 gl_RX8_133 rfl rfl rfl hd hp kk
theorem gl_RX4_15 : Cond.fieldLink RX4 15 RX4 (TX4 1).2.1 (TX4 1).2.2.1 ∈ lw_tbl := tq1 86 rfl
theorem gf_RX4_15 (X : gC E w cc nL RX4 h) (hd : decode cc pc = .ok (.getfield 15, 3)) (hp : pc + 3 = n) (kk : gW E w nL σ n L (.int (rF σ 8) :: st)) : gW E w nL σ pc L (.ref (w.1 3) :: st) := g_get X (k := 3) (j := 1) (by decide) rfl rfl (by decide) rfl uw_4 gl_RX4_15 rfl hd hp kk
theorem gp_RX4_15 {x : Int32} (X : gC E w cc nL RX4 h) (hd : decode cc pc = .ok (.putfield 15, 3)) (hp : pc + 3 = n) (kk : ∀ σ1 : St, σ1 = stF σ 8 x → gW E w nL σ1 n L st) : gW E w nL σ pc L (.int x :: .ref (w.1 3) :: st) := g_putI X (k := 3) (j := 1) tyX4 tyX4_ok nmX4 (by decide) rfl rfl (by decide) rfl (by decide) uw_4 gl_RX4_15 rfl rfl rfl hd hp kk
theorem gl_RX8_138 : Cond.fieldLink RX8 138 RX4 (TX4 1).2.1 (TX4 1).2.2.1 ∈ lw_tbl := tq1 87 rfl
theorem gf_RX8_138 (X : gC E w cc nL RX8 h) (hd : decode cc pc = .ok (.getfield 138, 3)) (hp : pc + 3 = n) (kk : gW E w nL σ n L (.int (rF σ 8) :: st)) : gW E w nL σ pc L (.ref (w.1 3) :: st) := g_get X (k := 3) (j := 1) (by decide) rfl rfl (by decide) rfl uw_4 gl_RX8_138 rfl hd hp kk
theorem gp_RX8_138 {x : Int32} (X : gC E w cc nL RX8 h) (hd : decode cc pc = .ok (.putfield 138, 3)) (hp : pc + 3 = n) (kk : ∀ σ1 : St, σ1 = stF σ 8 x → gW E w nL σ1 n L st) : gW E w nL σ pc L (.int x :: .ref (w.1 3) :: st) := g_putI X (k := 3) (j := 1) tyX4 tyX4_ok nmX4 (by decide) rfl rfl (by decide) rfl (by decide) uw_4 gl_RX8_138 rfl rfl rfl hd hp kk
theorem gl_RX3_9 : Cond.fieldLink RX3 9 RX3 (TX3 0).2.1 (TX3 0).2.2.1 ∈ lw_tbl := tq1 99 rfl
theorem gf_RX3_9 {q : Nat} (hg : isP q = true) (X : gC E w cc nL RX3 h) (hd : decode cc pc = .ok (.getfield 9, 3)) (hp : pc + 3 = n) (kk : gW E w nL σ n L (.ref (w.1 (q + 47)) :: st)) : gW E w nL σ pc L (.ref (w.1 q) :: st) := by
  rcases isP_e hg with rfl | rfl
  · exact g_get X (k := 4) (j := 0) (by decide) rfl rfl (by decide) rfl uw_3 gl_RX3_9 rfl hd hp kk
  · exact g_get X (k := 5) (j := 0) (by decide) rfl rfl (by decide) rfl uw_3 gl_RX3_9 rfl hd hp kk
theorem gl_RX6_9 : Cond.fieldLink RX6 9 RX6 (TX6 0).2.1 (TX6 0).2.2.1 ∈ lw_tbl := tq1 110 rfl
theorem gf_RX6_9 (X : gC E w cc nL RX6 h) (hd : decode cc pc = .ok (.getfield 9, 3)) (hp : pc + 3 = n) (kk : gW E w nL σ n L (.ref (w.1 53) :: st)) : gW E w nL σ pc L (.ref (w.1 6) :: st) := g_get X (k := 6) (j := 0) (by decide) rfl rfl (by decide) rfl uw_6 gl_RX6_9 rfl hd hp kk
theorem gl_RX6_15 : Cond.fieldLink RX6 15 RX6 (TX6 1).2.1 (TX6 1).2.2.1 ∈ lw_tbl := tq1 111 rfl
theorem gf_RX6_15 (X : gC E w cc nL RX6 h) (hd : decode cc pc = .ok (.getfield 15, 3)) (hp : pc + 3 = n) (kk : gW E w nL σ n L (.ref (w.1 54) :: st)) : gW E w nL σ pc L (.ref (w.1 6) :: st) := g_get X (k := 6) (j := 1) (by decide) rfl rfl (by decide) rfl uw_6 gl_RX6_15 rfl hd hp kk
theorem gl_RX6_19 : Cond.fieldLink RX6 19 RX6 (TX6 2).2.1 (TX6 2).2.2.1 ∈ lw_tbl := tq1 112 rfl
theorem gf_RX6_19 (X : gC E w cc nL RX6 h) (hd : decode cc pc = .ok (.getfield 19, 3)) (hp : pc + 3 = n) (kk : gW E w nL σ n L (.ref (w.1 55) :: st)) : gW E w nL σ pc L (.ref (w.1 6) :: st) := g_get X (k := 6) (j := 2) (by decide) rfl rfl (by decide) rfl uw_6 gl_RX6_19 rfl hd hp kk
theorem gl_RX6_22 : Cond.fieldLink RX6 22 RX6 (TX6 3).2.1 (TX6 3).2.2.1 ∈ lw_tbl := tq1 113 rfl
theorem gf_RX6_22 (X : gC E w cc nL RX6 h) (hd : decode cc pc = .ok (.getfield 22, 3)) (hp : pc + 3 = n) (kk : gW E w nL σ n L (.ref (w.1 56) :: st)) : gW E w nL σ pc L (.ref (w.1 6) :: st) := g_get X (k := 6) (j := 3) (by decide) rfl rfl (by decide) rfl uw_6 gl_RX6_22 rfl hd hp kk
theorem gl_RX6_25 : Cond.fieldLink RX6 25 RX6 (TX6 4).2.1 (TX6 4).2.2.1 ∈ lw_tbl := tq1 114 rfl
theorem gf_RX6_25 (X : gC E w cc nL RX6 h) (hd : decode cc pc = .ok (.getfield 25, 3)) (hp : pc + 3 = n) (kk : gW E w nL σ n L (.ref (w.1 57) :: st)) : gW E w nL σ pc L (.ref (w.1 6) :: st) := g_get X (k := 6) (j := 4) (by decide) rfl rfl (by decide) rfl uw_6 gl_RX6_25 rfl hd hp kk
theorem gl_RX6_29 : Cond.fieldLink RX6 29 RX6 (TX6 5).2.1 (TX6 5).2.2.1 ∈ lw_tbl := tq1 115 rfl
theorem gf_RX6_29 (X : gC E w cc nL RX6 h) (hd : decode cc pc = .ok (.getfield 29, 3)) (hp : pc + 3 = n) (kk : gW E w nL σ n L (.int (rF σ 9) :: st)) : gW E w nL σ pc L (.ref (w.1 6) :: st) := g_get X (k := 6) (j := 5) (by decide) rfl rfl (by decide) rfl uw_6 gl_RX6_29 rfl hd hp kk
theorem gp_RX6_29 {x : Int32} (X : gC E w cc nL RX6 h) (hd : decode cc pc = .ok (.putfield 29, 3)) (hp : pc + 3 = n) (kk : ∀ σ1 : St, σ1 = stF σ 9 x → gW E w nL σ1 n L st) : gW E w nL σ pc L (.int x :: .ref (w.1 6) :: st) := g_putI X (k := 6) (j := 5) tyX6 tyX6_ok nmX6 (by decide) rfl rfl (by decide) rfl (by decide) uw_6 gl_RX6_29 rfl rfl rfl hd hp kk
theorem gl_RX6_33 : Cond.fieldLink RX6 33 RX6 (TX6 6).2.1 (TX6 6).2.2.1 ∈ lw_tbl := tq1 116 rfl
theorem gf_RX6_33 (X : gC E w cc nL RX6 h) (hd : decode cc pc = .ok (.getfield 33, 3)) (hp : pc + 3 = n) (kk : gW E w nL σ n L (.int (rF σ 10) :: st)) : gW E w nL σ pc L (.ref (w.1 6) :: st) := g_get X (k := 6) (j := 6) (by decide) rfl rfl (by decide) rfl uw_6 gl_RX6_33 rfl hd hp kk
theorem gp_RX6_33 {x : Int32} (X : gC E w cc nL RX6 h) (hd : decode cc pc = .ok (.putfield 33, 3)) (hp : pc + 3 = n) (kk : ∀ σ1 : St, σ1 = stF σ 10 x → gW E w nL σ1 n L st) : gW E w nL σ pc L (.int x :: .ref (w.1 6) :: st) := g_putI X (k := 6) (j := 6) tyX6 tyX6_ok nmX6 (by decide) rfl rfl (by decide) rfl (by decide) uw_6 gl_RX6_33 rfl rfl rfl hd hp kk
theorem gl_RX2_9 : Cond.fieldLink RX2 9 RX2 (TX2 0).2.1 (TX2 0).2.2.1 ∈ lw_tbl := tq1 141 rfl
theorem gf_RX2_9 (X : gC E w cc nL RX2 h) (hd : decode cc pc = .ok (.getfield 9, 3)) (hp : pc + 3 = n) (kk : gW E w nL σ n L (.int (rF σ 11) :: st)) : gW E w nL σ pc L (.ref (w.1 7) :: st) := g_get X (k := 7) (j := 0) (by decide) rfl rfl (by decide) rfl uw_2 gl_RX2_9 rfl hd hp kk
theorem gp_RX2_9 {x : Int32} (X : gC E w cc nL RX2 h) (hd : decode cc pc = .ok (.putfield 9, 3)) (hp : pc + 3 = n) (kk : ∀ σ1 : St, σ1 = stF σ 11 x → gW E w nL σ1 n L st) : gW E w nL σ pc L (.int x :: .ref (w.1 7) :: st) := g_putI X (k := 7) (j := 0) tyX2 tyX2_ok nmX2 (by decide) rfl rfl (by decide) rfl (by decide) uw_2 gl_RX2_9 rfl rfl rfl hd hp kk
theorem gl_RX8_242 : Cond.fieldLink RX8 242 RX2 (TX2 0).2.1 (TX2 0).2.2.1 ∈ lw_tbl := tq1 142 rfl
theorem gf_RX8_242 (X : gC E w cc nL RX8 h) (hd : decode cc pc = .ok (.getfield 242, 3)) (hp : pc + 3 = n) (kk : gW E w nL σ n L (.int (rF σ 11) :: st)) : gW E w nL σ pc L (.ref (w.1 7) :: st) := g_get X (k := 7) (j := 0) (by decide) rfl rfl (by decide) rfl uw_2 gl_RX8_242 rfl hd hp kk
theorem gp_RX8_242 {x : Int32} (X : gC E w cc nL RX8 h) (hd : decode cc pc = .ok (.putfield 242, 3)) (hp : pc + 3 = n) (kk : ∀ σ1 : St, σ1 = stF σ 11 x → gW E w nL σ1 n L st) : gW E w nL σ pc L (.int x :: .ref (w.1 7) :: st) := g_putI X (k := 7) (j := 0) tyX2 tyX2_ok nmX2 (by decide) rfl rfl (by decide) rfl (by decide) uw_2 gl_RX8_242 rfl rfl rfl hd hp kk
theorem gl_RX2_15 : Cond.fieldLink RX2 15 RX2 (TX2 1).2.1 (TX2 1).2.2.1 ∈ lw_tbl := tq1 143 rfl
theorem gf_RX2_15 (X : gC E w cc nL RX2 h) (hd : decode cc pc = .ok (.getfield 15, 3)) (hp : pc + 3 = n) (kk : gW E w nL σ n L (.ref (w.1 58) :: st)) : gW E w nL σ pc L (.ref (w.1 7) :: st) := g_get X (k := 7) (j := 1) (by decide) rfl rfl (by decide) rfl uw_2 gl_RX2_15 rfl hd hp kk
theorem gl_RX2_19 : Cond.fieldLink RX2 19 RX2 (TX2 2).2.1 (TX2 2).2.2.1 ∈ lw_tbl := tq1 144 rfl
theorem gf_RX2_19 (X : gC E w cc nL RX2 h) (hd : decode cc pc = .ok (.getfield 19, 3)) (hp : pc + 3 = n) (kk : gW E w nL σ n L (.ref (w.1 59) :: st)) : gW E w nL σ pc L (.ref (w.1 7) :: st) := g_get X (k := 7) (j := 2) (by decide) rfl rfl (by decide) rfl uw_2 gl_RX2_19 rfl hd hp kk
theorem gl_RX2_23 : Cond.fieldLink RX2 23 RX2 (TX2 3).2.1 (TX2 3).2.2.1 ∈ lw_tbl := tq1 145 rfl
theorem gf_RX2_23 (X : gC E w cc nL RX2 h) (hd : decode cc pc = .ok (.getfield 23, 3)) (hp : pc + 3 = n) (kk : gW E w nL σ n L (.ref (w.1 60) :: st)) : gW E w nL σ pc L (.ref (w.1 7) :: st) := g_get X (k := 7) (j := 3) (by decide) rfl rfl (by decide) rfl uw_2 gl_RX2_23 rfl hd hp kk
theorem gl_RX2_29 : Cond.fieldLink RX2 29 RX2 (TX2 4).2.1 (TX2 4).2.2.1 ∈ lw_tbl := tq1 146 rfl
theorem gf_RX2_29 (X : gC E w cc nL RX2 h) (hd : decode cc pc = .ok (.getfield 29, 3)) (hp : pc + 3 = n) (kk : gW E w nL σ n L (.ref (w.1 5) :: st)) : gW E w nL σ pc L (.ref (w.1 7) :: st) := g_get X (k := 7) (j := 4) (by decide) rfl rfl (by decide) rfl uw_2 gl_RX2_29 rfl hd hp kk
theorem gl_RX2_33 : Cond.fieldLink RX2 33 RX2 (TX2 5).2.1 (TX2 5).2.2.1 ∈ lw_tbl := tq1 147 rfl
theorem gf_RX2_33 (X : gC E w cc nL RX2 h) (hd : decode cc pc = .ok (.getfield 33, 3)) (hp : pc + 3 = n) (kk : gW E w nL σ n L (.ref (w.1 61) :: st)) : gW E w nL σ pc L (.ref (w.1 7) :: st) := g_get X (k := 7) (j := 5) (by decide) rfl rfl (by decide) rfl uw_2 gl_RX2_33 rfl hd hp kk
theorem gl_RX0_9 : Cond.fieldLink RX0 9 RX0 (TX0 0).2.1 (TX0 0).2.2.1 ∈ lw_tbl := tq1 167 rfl
theorem gf_RX0_9 (X : gC E w cc nL RX0 h) (hd : decode cc pc = .ok (.getfield 9, 3)) (hp : pc + 3 = n) (kk : gW E w nL σ n L (.ref (w.1 62) :: st)) : gW E w nL σ pc L (.ref (w.1 8) :: st) := g_get X (k := 8) (j := 0) (by decide) rfl rfl (by decide) rfl uw_0 gl_RX0_9 rfl hd hp kk
theorem gl_RX8_279 : Cond.fieldLink RX8 279 RX0 (TX0 0).2.1 (TX0 0).2.2.1 ∈ lw_tbl := tq1 168 rfl
theorem gf_RX8_279 (X : gC E w cc nL RX8 h) (hd : decode cc pc = .ok (.getfield 279, 3)) (hp : pc + 3 = n) (kk : gW E w nL σ n L (.ref (w.1 62) :: st)) : gW E w nL σ pc L (.ref (w.1 8) :: st) := g_get X (k := 8) (j := 0) (by decide) rfl rfl (by decide) rfl uw_0 gl_RX8_279 rfl hd hp kk
theorem gl_RX0_15 : Cond.fieldLink RX0 15 RX0 (TX0 1).2.1 (TX0 1).2.2.1 ∈ lw_tbl := tq1 169 rfl
theorem gf_RX0_15 (X : gC E w cc nL RX0 h) (hd : decode cc pc = .ok (.getfield 15, 3)) (hp : pc + 3 = n) (kk : gW E w nL σ n L (.int (rF σ 12) :: st)) : gW E w nL σ pc L (.ref (w.1 8) :: st) := g_get X (k := 8) (j := 1) (by decide) rfl rfl (by decide) rfl uw_0 gl_RX0_15 rfl hd hp kk
theorem gp_RX0_15 {x : Int32} (X : gC E w cc nL RX0 h) (hd : decode cc pc = .ok (.putfield 15, 3)) (hp : pc + 3 = n) (kk : ∀ σ1 : St, σ1 = stF σ 12 x → gW E w nL σ1 n L st) : gW E w nL σ pc L (.int x :: .ref (w.1 8) :: st) := g_putI X (k := 8) (j := 1) tyX0 tyX0_ok nmX0 (by decide) rfl rfl (by decide) rfl (by decide) uw_0 gl_RX0_15 rfl rfl rfl hd hp kk
theorem gl_RX8_276 : Cond.fieldLink RX8 276 RX0 (TX0 1).2.1 (TX0 1).2.2.1 ∈ lw_tbl := tq1 170 rfl
theorem gf_RX8_276 (X : gC E w cc nL RX8 h) (hd : decode cc pc = .ok (.getfield 276, 3)) (hp : pc + 3 = n) (kk : gW E w nL σ n L (.int (rF σ 12) :: st)) : gW E w nL σ pc L (.ref (w.1 8) :: st) := g_get X (k := 8) (j := 1) (by decide) rfl rfl (by decide) rfl uw_0 gl_RX8_276 rfl hd hp kk
theorem gp_RX8_276 {x : Int32} (X : gC E w cc nL RX8 h) (hd : decode cc pc = .ok (.putfield 276, 3)) (hp : pc + 3 = n) (kk : ∀ σ1 : St, σ1 = stF σ 12 x → gW E w nL σ1 n L st) : gW E w nL σ pc L (.int x :: .ref (w.1 8) :: st) := g_putI X (k := 8) (j := 1) tyX0 tyX0_ok nmX0 (by decide) rfl rfl (by decide) rfl (by decide) uw_0 gl_RX8_276 rfl rfl rfl hd hp kk
theorem gl_RX1_9 : Cond.fieldLink RX1 9 RX1 (TX1 0).2.1 (TX1 0).2.2.1 ∈ lw_tbl := tq1 184 rfl
theorem gf_RX1_9 {g : Nat} (hg : isG g = true) (X : gC E w cc nL RX1 h) (hd : decode cc pc = .ok (.getfield 9, 3)) (hp : pc + 3 = n) (kk : gW E w nL σ n L (.int (rF σ (g + 10)) :: st)) : gW E w nL σ pc L (.ref (w.1 g) :: st) := by
  rcases isG_e hg with rfl | rfl
  · exact g_get X (k := 10) (j := 0) (by decide) rfl rfl (by decide) rfl uw_1 gl_RX1_9 rfl hd hp kk
  · exact g_get X (k := 28) (j := 0) (by decide) rfl rfl (by decide) rfl uw_1 gl_RX1_9 rfl hd hp kk
theorem gp_RX1_9 {g : Nat} {x : Int32} (hg : isG g = true) (X : gC E w cc nL RX1 h) (hd : decode cc pc = .ok (.putfield 9, 3)) (hp : pc + 3 = n) (kk : ∀ σ1 : St, σ1 = stF σ (g + 10) x → gW E w nL σ1 n L st) : gW E w nL σ pc L (.int x :: .ref (w.1 g) :: st) := by
  rcases isG_e hg with rfl | rfl
  · exact g_putI X (k := 10) (j := 0) tyX1 tyX1_ok nmX1 (by decide) rfl rfl (by decide) rfl (by decide) uw_1 gl_RX1_9 rfl rfl rfl hd hp kk
  · exact g_putI X (k := 28) (j := 0) tyX1 tyX1_ok nmX1 (by decide) rfl rfl (by decide) rfl (by decide) uw_1 gl_RX1_9 rfl rfl rfl hd hp kk
theorem gl_RX4_53 : Cond.fieldLink RX4 53 RX1 (TX1 0).2.1 (TX1 0).2.2.1 ∈ lw_tbl := tq1 185 rfl
theorem gf_RX4_53 {g : Nat} (hg : isG g = true) (X : gC E w cc nL RX4 h) (hd : decode cc pc = .ok (.getfield 53, 3)) (hp : pc + 3 = n) (kk : gW E w nL σ n L (.int (rF σ (g + 10)) :: st)) : gW E w nL σ pc L (.ref (w.1 g) :: st) := by
  rcases isG_e hg with rfl | rfl
  · exact g_get X (k := 10) (j := 0) (by decide) rfl rfl (by decide) rfl uw_1 gl_RX4_53 rfl hd hp kk
  · exact g_get X (k := 28) (j := 0) (by decide) rfl rfl (by decide) rfl uw_1 gl_RX4_53 rfl hd hp kk
theorem gp_RX4_53 {g : Nat} {x : Int32} (hg : isG g = true) (X : gC E w cc nL RX4 h) (hd : decode cc pc = .ok (.putfield 53, 3)) (hp : pc + 3 = n) (kk : ∀ σ1 : St, σ1 = stF σ (g + 10) x → gW E w nL σ1 n L st) : gW E w nL σ pc L (.int x :: .ref (w.1 g) :: st) := by
  rcases isG_e hg with rfl | rfl
  · exact g_putI X (k := 10) (j := 0) tyX1 tyX1_ok nmX1 (by decide) rfl rfl (by decide) rfl (by decide) uw_1 gl_RX4_53 rfl rfl rfl hd hp kk
  · exact g_putI X (k := 28) (j := 0) tyX1 tyX1_ok nmX1 (by decide) rfl rfl (by decide) rfl (by decide) uw_1 gl_RX4_53 rfl rfl rfl hd hp kk
theorem gl_RX6_64 : Cond.fieldLink RX6 64 RX1 (TX1 0).2.1 (TX1 0).2.2.1 ∈ lw_tbl := tq1 186 rfl
theorem gf_RX6_64 {g : Nat} (hg : isG g = true) (X : gC E w cc nL RX6 h) (hd : decode cc pc = .ok (.getfield 64, 3)) (hp : pc + 3 = n) (kk : gW E w nL σ n L (.int (rF σ (g + 10)) :: st)) : gW E w nL σ pc L (.ref (w.1 g) :: st) := by
  rcases isG_e hg with rfl | rfl
  · exact g_get X (k := 10) (j := 0) (by decide) rfl rfl (by decide) rfl uw_1 gl_RX6_64 rfl hd hp kk
  · exact g_get X (k := 28) (j := 0) (by decide) rfl rfl (by decide) rfl uw_1 gl_RX6_64 rfl hd hp kk
theorem gp_RX6_64 {g : Nat} {x : Int32} (hg : isG g = true) (X : gC E w cc nL RX6 h) (hd : decode cc pc = .ok (.putfield 64, 3)) (hp : pc + 3 = n) (kk : ∀ σ1 : St, σ1 = stF σ (g + 10) x → gW E w nL σ1 n L st) : gW E w nL σ pc L (.int x :: .ref (w.1 g) :: st) := by
  rcases isG_e hg with rfl | rfl
  · exact g_putI X (k := 10) (j := 0) tyX1 tyX1_ok nmX1 (by decide) rfl rfl (by decide) rfl (by decide) uw_1 gl_RX6_64 rfl rfl rfl hd hp kk
  · exact g_putI X (k := 28) (j := 0) tyX1 tyX1_ok nmX1 (by decide) rfl rfl (by decide) rfl (by decide) uw_1 gl_RX6_64 rfl rfl rfl hd hp kk
theorem gl_RX2_78 : Cond.fieldLink RX2 78 RX1 (TX1 0).2.1 (TX1 0).2.2.1 ∈ lw_tbl := tq1 187 rfl
theorem gf_RX2_78 {g : Nat} (hg : isG g = true) (X : gC E w cc nL RX2 h) (hd : decode cc pc = .ok (.getfield 78, 3)) (hp : pc + 3 = n) (kk : gW E w nL σ n L (.int (rF σ (g + 10)) :: st)) : gW E w nL σ pc L (.ref (w.1 g) :: st) := by
  rcases isG_e hg with rfl | rfl
  · exact g_get X (k := 10) (j := 0) (by decide) rfl rfl (by decide) rfl uw_1 gl_RX2_78 rfl hd hp kk
  · exact g_get X (k := 28) (j := 0) (by decide) rfl rfl (by decide) rfl uw_1 gl_RX2_78 rfl hd hp kk
theorem gp_RX2_78 {g : Nat} {x : Int32} (hg : isG g = true) (X : gC E w cc nL RX2 h) (hd : decode cc pc = .ok (.putfield 78, 3)) (hp : pc + 3 = n) (kk : ∀ σ1 : St, σ1 = stF σ (g + 10) x → gW E w nL σ1 n L st) : gW E w nL σ pc L (.int x :: .ref (w.1 g) :: st) := by
  rcases isG_e hg with rfl | rfl
  · exact g_putI X (k := 10) (j := 0) tyX1 tyX1_ok nmX1 (by decide) rfl rfl (by decide) rfl (by decide) uw_1 gl_RX2_78 rfl rfl rfl hd hp kk
  · exact g_putI X (k := 28) (j := 0) tyX1 tyX1_ok nmX1 (by decide) rfl rfl (by decide) rfl (by decide) uw_1 gl_RX2_78 rfl rfl rfl hd hp kk
theorem gl_RX3_25 : Cond.fieldLink RX3 25 RX1 (TX1 0).2.1 (TX1 0).2.2.1 ∈ lw_tbl := tq1 188 rfl
theorem gf_RX3_25 {g : Nat} (hg : isG g = true) (X : gC E w cc nL RX3 h) (hd : decode cc pc = .ok (.getfield 25, 3)) (hp : pc + 3 = n) (kk : gW E w nL σ n L (.int (rF σ (g + 10)) :: st)) : gW E w nL σ pc L (.ref (w.1 g) :: st) := by
  rcases isG_e hg with rfl | rfl
  · exact g_get X (k := 10) (j := 0) (by decide) rfl rfl (by decide) rfl uw_1 gl_RX3_25 rfl hd hp kk
  · exact g_get X (k := 28) (j := 0) (by decide) rfl rfl (by decide) rfl uw_1 gl_RX3_25 rfl hd hp kk
theorem gp_RX3_25 {g : Nat} {x : Int32} (hg : isG g = true) (X : gC E w cc nL RX3 h) (hd : decode cc pc = .ok (.putfield 25, 3)) (hp : pc + 3 = n) (kk : ∀ σ1 : St, σ1 = stF σ (g + 10) x → gW E w nL σ1 n L st) : gW E w nL σ pc L (.int x :: .ref (w.1 g) :: st) := by
  rcases isG_e hg with rfl | rfl
  · exact g_putI X (k := 10) (j := 0) tyX1 tyX1_ok nmX1 (by decide) rfl rfl (by decide) rfl (by decide) uw_1 gl_RX3_25 rfl rfl rfl hd hp kk
  · exact g_putI X (k := 28) (j := 0) tyX1 tyX1_ok nmX1 (by decide) rfl rfl (by decide) rfl (by decide) uw_1 gl_RX3_25 rfl rfl rfl hd hp kk
theorem gl_RX8_145 : Cond.fieldLink RX8 145 RX1 (TX1 0).2.1 (TX1 0).2.2.1 ∈ lw_tbl := tq1 189 rfl
theorem gf_RX8_145 {g : Nat} (hg : isG g = true) (X : gC E w cc nL RX8 h) (hd : decode cc pc = .ok (.getfield 145, 3)) (hp : pc + 3 = n) (kk : gW E w nL σ n L (.int (rF σ (g + 10)) :: st)) : gW E w nL σ pc L (.ref (w.1 g) :: st) := by
  rcases isG_e hg with rfl | rfl
  · exact g_get X (k := 10) (j := 0) (by decide) rfl rfl (by decide) rfl uw_1 gl_RX8_145 rfl hd hp kk
  · exact g_get X (k := 28) (j := 0) (by decide) rfl rfl (by decide) rfl uw_1 gl_RX8_145 rfl hd hp kk
theorem gp_RX8_145 {g : Nat} {x : Int32} (hg : isG g = true) (X : gC E w cc nL RX8 h) (hd : decode cc pc = .ok (.putfield 145, 3)) (hp : pc + 3 = n) (kk : ∀ σ1 : St, σ1 = stF σ (g + 10) x → gW E w nL σ1 n L st) : gW E w nL σ pc L (.int x :: .ref (w.1 g) :: st) := by
  rcases isG_e hg with rfl | rfl
  · exact g_putI X (k := 10) (j := 0) tyX1 tyX1_ok nmX1 (by decide) rfl rfl (by decide) rfl (by decide) uw_1 gl_RX8_145 rfl rfl rfl hd hp kk
  · exact g_putI X (k := 28) (j := 0) tyX1 tyX1_ok nmX1 (by decide) rfl rfl (by decide) rfl (by decide) uw_1 gl_RX8_145 rfl rfl rfl hd hp kk
theorem gl_RX1_15 : Cond.fieldLink RX1 15 RX1 (TX1 1).2.1 (TX1 1).2.2.1 ∈ lw_tbl := tq1 190 rfl
theorem gf_RX1_15 {g : Nat} (hg : isG g = true) (X : gC E w cc nL RX1 h) (hd : decode cc pc = .ok (.getfield 15, 3)) (hp : pc + 3 = n) (kk : gW E w nL σ n L (.ref (w.1 (g + 1)) :: st)) : gW E w nL σ pc L (.ref (w.1 g) :: st) := by
  rcases isG_e hg with rfl | rfl
  · exact g_get X (k := 10) (j := 1) (by decide) rfl rfl (by decide) rfl uw_1 gl_RX1_15 rfl hd hp kk
  · exact g_get X (k := 28) (j := 1) (by decide) rfl rfl (by decide) rfl uw_1 gl_RX1_15 rfl hd hp kk
theorem gl_RX3_34 : Cond.fieldLink RX3 34 RX1 (TX1 1).2.1 (TX1 1).2.2.1 ∈ lw_tbl := tq1 191 rfl
theorem gf_RX3_34 {g : Nat} (hg : isG g = true) (X : gC E w cc nL RX3 h) (hd : decode cc pc = .ok (.getfield 34, 3)) (hp : pc + 3 = n) (kk : gW E w nL σ n L (.ref (w.1 (g + 1)) :: st)) : gW E w nL σ pc L (.ref (w.1 g) :: st) := by
  rcases isG_e hg with rfl | rfl
  · exact g_get X (k := 10) (j := 1) (by decide) rfl rfl (by decide) rfl uw_1 gl_RX3_34 rfl hd hp kk
  · exact g_get X (k := 28) (j := 1) (by decide) rfl rfl (by decide) rfl uw_1 gl_RX3_34 rfl hd hp kk
theorem gl_RX4_79 : Cond.fieldLink RX4 79 RX1 (TX1 1).2.1 (TX1 1).2.2.1 ∈ lw_tbl := tq1 192 rfl
theorem gf_RX4_79 {g : Nat} (hg : isG g = true) (X : gC E w cc nL RX4 h) (hd : decode cc pc = .ok (.getfield 79, 3)) (hp : pc + 3 = n) (kk : gW E w nL σ n L (.ref (w.1 (g + 1)) :: st)) : gW E w nL σ pc L (.ref (w.1 g) :: st) := by
  rcases isG_e hg with rfl | rfl
  · exact g_get X (k := 10) (j := 1) (by decide) rfl rfl (by decide) rfl uw_1 gl_RX4_79 rfl hd hp kk
  · exact g_get X (k := 28) (j := 1) (by decide) rfl rfl (by decide) rfl uw_1 gl_RX4_79 rfl hd hp kk
theorem gl_RX8_151 : Cond.fieldLink RX8 151 RX1 (TX1 1).2.1 (TX1 1).2.2.1 ∈ lw_tbl := tq1 193 rfl
theorem gf_RX8_151 {g : Nat} (hg : isG g = true) (X : gC E w cc nL RX8 h) (hd : decode cc pc = .ok (.getfield 151, 3)) (hp : pc + 3 = n) (kk : gW E w nL σ n L (.ref (w.1 (g + 1)) :: st)) : gW E w nL σ pc L (.ref (w.1 g) :: st) := by
  rcases isG_e hg with rfl | rfl
  · exact g_get X (k := 10) (j := 1) (by decide) rfl rfl (by decide) rfl uw_1 gl_RX8_151 rfl hd hp kk
  · exact g_get X (k := 28) (j := 1) (by decide) rfl rfl (by decide) rfl uw_1 gl_RX8_151 rfl hd hp kk
theorem gl_RX6_111 : Cond.fieldLink RX6 111 RX1 (TX1 1).2.1 (TX1 1).2.2.1 ∈ lw_tbl := tq1 194 rfl
theorem gf_RX6_111 {g : Nat} (hg : isG g = true) (X : gC E w cc nL RX6 h) (hd : decode cc pc = .ok (.getfield 111, 3)) (hp : pc + 3 = n) (kk : gW E w nL σ n L (.ref (w.1 (g + 1)) :: st)) : gW E w nL σ pc L (.ref (w.1 g) :: st) := by
  rcases isG_e hg with rfl | rfl
  · exact g_get X (k := 10) (j := 1) (by decide) rfl rfl (by decide) rfl uw_1 gl_RX6_111 rfl hd hp kk
  · exact g_get X (k := 28) (j := 1) (by decide) rfl rfl (by decide) rfl uw_1 gl_RX6_111 rfl hd hp kk
theorem gl_RX1_19 : Cond.fieldLink RX1 19 RX1 (TX1 2).2.1 (TX1 2).2.2.1 ∈ lw_tbl := tq1 195 rfl
theorem gf_RX1_19 {g : Nat} (hg : isG g = true) (X : gC E w cc nL RX1 h) (hd : decode cc pc = .ok (.getfield 19, 3)) (hp : pc + 3 = n) (kk : gW E w nL σ n L (.ref (w.1 (g + 2)) :: st)) : gW E w nL σ pc L (.ref (w.1 g) :: st) := by
  rcases isG_e hg with rfl | rfl
  · exact g_get X (k := 10) (j := 2) (by decide) rfl rfl (by decide) rfl uw_1 gl_RX1_19 rfl hd hp kk
  · exact g_get X (k := 28) (j := 2) (by decide) rfl rfl (by decide) rfl uw_1 gl_RX1_19 rfl hd hp kk
theorem gl_RX4_70 : Cond.fieldLink RX4 70 RX1 (TX1 2).2.1 (TX1 2).2.2.1 ∈ lw_tbl := tq1 196 rfl
theorem gf_RX4_70 {g : Nat} (hg : isG g = true) (X : gC E w cc nL RX4 h) (hd : decode cc pc = .ok (.getfield 70, 3)) (hp : pc + 3 = n) (kk : gW E w nL σ n L (.ref (w.1 (g + 2)) :: st)) : gW E w nL σ pc L (.ref (w.1 g) :: st) := by
  rcases isG_e hg with rfl | rfl
  · exact g_get X (k := 10) (j := 2) (by decide) rfl rfl (by decide) rfl uw_1 gl_RX4_70 rfl hd hp kk
  · exact g_get X (k := 28) (j := 2) (by decide) rfl rfl (by decide) rfl uw_1 gl_RX4_70 rfl hd hp kk
theorem gl_RX0_49 : Cond.fieldLink RX0 49 RX1 (TX1 2).2.1 (TX1 2).2.2.1 ∈ lw_tbl := tq1 197 rfl
theorem gf_RX0_49 {g : Nat} (hg : isG g = true) (X : gC E w cc nL RX0 h) (hd : decode cc pc = .ok (.getfield 49, 3)) (hp : pc + 3 = n) (kk : gW E w nL σ n L (.ref (w.1 (g + 2)) :: st)) : gW E w nL σ pc L (.ref (w.1 g) :: st) := by
  rcases isG_e hg with rfl | rfl
  · exact g_get X (k := 10) (j := 2) (by decide) rfl rfl (by decide) rfl uw_1 gl_RX0_49 rfl hd hp kk
  · exact g_get X (k := 28) (j := 2) (by decide) rfl rfl (by decide) rfl uw_1 gl_RX0_49 rfl hd hp kk
theorem gl_RX8_154 : Cond.fieldLink RX8 154 RX1 (TX1 2).2.1 (TX1 2).2.2.1 ∈ lw_tbl := tq1 198 rfl
theorem gf_RX8_154 {g : Nat} (hg : isG g = true) (X : gC E w cc nL RX8 h) (hd : decode cc pc = .ok (.getfield 154, 3)) (hp : pc + 3 = n) (kk : gW E w nL σ n L (.ref (w.1 (g + 2)) :: st)) : gW E w nL σ pc L (.ref (w.1 g) :: st) := by
  rcases isG_e hg with rfl | rfl
  · exact g_get X (k := 10) (j := 2) (by decide) rfl rfl (by decide) rfl uw_1 gl_RX8_154 rfl hd hp kk
  · exact g_get X (k := 28) (j := 2) (by decide) rfl rfl (by decide) rfl uw_1 gl_RX8_154 rfl hd hp kk
theorem gl_RX6_114 : Cond.fieldLink RX6 114 RX1 (TX1 2).2.1 (TX1 2).2.2.1 ∈ lw_tbl := tq1 199 rfl
theorem gf_RX6_114 {g : Nat} (hg : isG g = true) (X : gC E w cc nL RX6 h) (hd : decode cc pc = .ok (.getfield 114, 3)) (hp : pc + 3 = n) (kk : gW E w nL σ n L (.ref (w.1 (g + 2)) :: st)) : gW E w nL σ pc L (.ref (w.1 g) :: st) := by
  rcases isG_e hg with rfl | rfl
  · exact g_get X (k := 10) (j := 2) (by decide) rfl rfl (by decide) rfl uw_1 gl_RX6_114 rfl hd hp kk
  · exact g_get X (k := 28) (j := 2) (by decide) rfl rfl (by decide) rfl uw_1 gl_RX6_114 rfl hd hp kk
theorem gl_RX1_22 : Cond.fieldLink RX1 22 RX1 (TX1 3).2.1 (TX1 3).2.2.1 ∈ lw_tbl := tq1 200 rfl
theorem gf_RX1_22 {g : Nat} (hg : isG g = true) (X : gC E w cc nL RX1 h) (hd : decode cc pc = .ok (.getfield 22, 3)) (hp : pc + 3 = n) (kk : gW E w nL σ n L (.ref (w.1 (g + 3)) :: st)) : gW E w nL σ pc L (.ref (w.1 g) :: st) := by
  rcases isG_e hg with rfl | rfl
  · exact g_get X (k := 10) (j := 3) (by decide) rfl rfl (by decide) rfl uw_1 gl_RX1_22 rfl hd hp kk
  · exact g_get X (k := 28) (j := 3) (by decide) rfl rfl (by decide) rfl uw_1 gl_RX1_22 rfl hd hp kk
theorem gl_RX6_70 : Cond.fieldLink RX6 70 RX1 (TX1 3).2.1 (TX1 3).2.2.1 ∈ lw_tbl := tq1 201 rfl
theorem gf_RX6_70 {g : Nat} (hg : isG g = true) (X : gC E w cc nL RX6 h) (hd : decode cc pc = .ok (.getfield 70, 3)) (hp : pc + 3 = n) (kk : gW E w nL σ n L (.ref (w.1 (g + 3)) :: st)) : gW E w nL σ pc L (.ref (w.1 g) :: st) := by
  rcases isG_e hg with rfl | rfl
  · exact g_get X (k := 10) (j := 3) (by decide) rfl rfl (by decide) rfl uw_1 gl_RX6_70 rfl hd hp kk
  · exact g_get X (k := 28) (j := 3) (by decide) rfl rfl (by decide) rfl uw_1 gl_RX6_70 rfl hd hp kk
theorem gl_RX3_40 : Cond.fieldLink RX3 40 RX1 (TX1 3).2.1 (TX1 3).2.2.1 ∈ lw_tbl := tq1 202 rfl
theorem gf_RX3_40 {g : Nat} (hg : isG g = true) (X : gC E w cc nL RX3 h) (hd : decode cc pc = .ok (.getfield 40, 3)) (hp : pc + 3 = n) (kk : gW E w nL σ n L (.ref (w.1 (g + 3)) :: st)) : gW E w nL σ pc L (.ref (w.1 g) :: st) := by
  rcases isG_e hg with rfl | rfl
  · exact g_get X (k := 10) (j := 3) (by decide) rfl rfl (by decide) rfl uw_1 gl_RX3_40 rfl hd hp kk
  · exact g_get X (k := 28) (j := 3) (by decide) rfl rfl (by decide) rfl uw_1 gl_RX3_40 rfl hd hp kk
theorem gl_RX0_46 : Cond.fieldLink RX0 46 RX1 (TX1 3).2.1 (TX1 3).2.2.1 ∈ lw_tbl := tq1 203 rfl
theorem gf_RX0_46 {g : Nat} (hg : isG g = true) (X : gC E w cc nL RX0 h) (hd : decode cc pc = .ok (.getfield 46, 3)) (hp : pc + 3 = n) (kk : gW E w nL σ n L (.ref (w.1 (g + 3)) :: st)) : gW E w nL σ pc L (.ref (w.1 g) :: st) := by
  rcases isG_e hg with rfl | rfl
  · exact g_get X (k := 10) (j := 3) (by decide) rfl rfl (by decide) rfl uw_1 gl_RX0_46 rfl hd hp kk
  · exact g_get X (k := 28) (j := 3) (by decide) rfl rfl (by decide) rfl uw_1 gl_RX0_46 rfl hd hp kk
theorem gl_RX8_157 : Cond.fieldLink RX8 157 RX1 (TX1 3).2.1 (TX1 3).2.2.1 ∈ lw_tbl := tq1 204 rfl
theorem gf_RX8_157 {g : Nat} (hg : isG g = true) (X : gC E w cc nL RX8 h) (hd : decode cc pc = .ok (.getfield 157, 3)) (hp : pc + 3 = n) (kk : gW E w nL σ n L (.ref (w.1 (g + 3)) :: st)) : gW E w nL σ pc L (.ref (w.1 g) :: st) := by
  rcases isG_e hg with rfl | rfl
  · exact g_get X (k := 10) (j := 3) (by decide) rfl rfl (by decide) rfl uw_1 gl_RX8_157 rfl hd hp kk
  · exact g_get X (k := 28) (j := 3) (by decide) rfl rfl (by decide) rfl uw_1 gl_RX8_157 rfl hd hp kk
theorem gl_RX1_25 : Cond.fieldLink RX1 25 RX1 (TX1 4).2.1 (TX1 4).2.2.1 ∈ lw_tbl := tq1 205 rfl
theorem gf_RX1_25 {g : Nat} (hg : isG g = true) (X : gC E w cc nL RX1 h) (hd : decode cc pc = .ok (.getfield 25, 3)) (hp : pc + 3 = n) (kk : gW E w nL σ n L (.ref (w.1 (g + 4)) :: st)) : gW E w nL σ pc L (.ref (w.1 g) :: st) := by
  rcases isG_e hg with rfl | rfl
  · exact g_get X (k := 10) (j := 4) (by decide) rfl rfl (by decide) rfl uw_1 gl_RX1_25 rfl hd hp kk
  · exact g_get X (k := 28) (j := 4) (by decide) rfl rfl (by decide) rfl uw_1 gl_RX1_25 rfl hd hp kk
theorem gl_RX4_76 : Cond.fieldLink RX4 76 RX1 (TX1 4).2.1 (TX1 4).2.2.1 ∈ lw_tbl := tq1 206 rfl
theorem gf_RX4_76 {g : Nat} (hg : isG g = true) (X : gC E w cc nL RX4 h) (hd : decode cc pc = .ok (.getfield 76, 3)) (hp : pc + 3 = n) (kk : gW E w nL σ n L (.ref (w.1 (g + 4)) :: st)) : gW E w nL σ pc L (.ref (w.1 g) :: st) := by
  rcases isG_e hg with rfl | rfl
  · exact g_get X (k := 10) (j := 4) (by decide) rfl rfl (by decide) rfl uw_1 gl_RX4_76 rfl hd hp kk
  · exact g_get X (k := 28) (j := 4) (by decide) rfl rfl (by decide) rfl uw_1 gl_RX4_76 rfl hd hp kk
theorem gl_RX0_40 : Cond.fieldLink RX0 40 RX1 (TX1 4).2.1 (TX1 4).2.2.1 ∈ lw_tbl := tq1 207 rfl
theorem gf_RX0_40 {g : Nat} (hg : isG g = true) (X : gC E w cc nL RX0 h) (hd : decode cc pc = .ok (.getfield 40, 3)) (hp : pc + 3 = n) (kk : gW E w nL σ n L (.ref (w.1 (g + 4)) :: st)) : gW E w nL σ pc L (.ref (w.1 g) :: st) := by
  rcases isG_e hg with rfl | rfl
  · exact g_get X (k := 10) (j := 4) (by decide) rfl rfl (by decide) rfl uw_1 gl_RX0_40 rfl hd hp kk
  · exact g_get X (k := 28) (j := 4) (by decide) rfl rfl (by decide) rfl uw_1 gl_RX0_40 rfl hd hp kk
theorem gl_RX6_85 : Cond.fieldLink RX6 85 RX1 (TX1 4).2.1 (TX1 4).2.2.1 ∈ lw_tbl := tq1 208 rfl
theorem gf_RX6_85 {g : Nat} (hg : isG g = true) (X : gC E w cc nL RX6 h) (hd : decode cc pc = .ok (.getfield 85, 3)) (hp : pc + 3 = n) (kk : gW E w nL σ n L (.ref (w.1 (g + 4)) :: st)) : gW E w nL σ pc L (.ref (w.1 g) :: st) := by
  rcases isG_e hg with rfl | rfl
  · exact g_get X (k := 10) (j := 4) (by decide) rfl rfl (by decide) rfl uw_1 gl_RX6_85 rfl hd hp kk
  · exact g_get X (k := 28) (j := 4) (by decide) rfl rfl (by decide) rfl uw_1 gl_RX6_85 rfl hd hp kk
theorem gl_RX8_160 : Cond.fieldLink RX8 160 RX1 (TX1 4).2.1 (TX1 4).2.2.1 ∈ lw_tbl := tq1 209 rfl
theorem gf_RX8_160 {g : Nat} (hg : isG g = true) (X : gC E w cc nL RX8 h) (hd : decode cc pc = .ok (.getfield 160, 3)) (hp : pc + 3 = n) (kk : gW E w nL σ n L (.ref (w.1 (g + 4)) :: st)) : gW E w nL σ pc L (.ref (w.1 g) :: st) := by
  rcases isG_e hg with rfl | rfl
  · exact g_get X (k := 10) (j := 4) (by decide) rfl rfl (by decide) rfl uw_1 gl_RX8_160 rfl hd hp kk
  · exact g_get X (k := 28) (j := 4) (by decide) rfl rfl (by decide) rfl uw_1 gl_RX8_160 rfl hd hp kk
theorem gl_RX1_28 : Cond.fieldLink RX1 28 RX1 (TX1 5).2.1 (TX1 5).2.2.1 ∈ lw_tbl := tq1 210 rfl
theorem gf_RX1_28 {g : Nat} (hg : isG g = true) (X : gC E w cc nL RX1 h) (hd : decode cc pc = .ok (.getfield 28, 3)) (hp : pc + 3 = n) (kk : gW E w nL σ n L (.ref (w.1 (g + 5)) :: st)) : gW E w nL σ pc L (.ref (w.1 g) :: st) := by
  rcases isG_e hg with rfl | rfl
  · exact g_get X (k := 10) (j := 5) (by decide) rfl rfl (by decide) rfl uw_1 gl_RX1_28 rfl hd hp kk
  · exact g_get X (k := 28) (j := 5) (by decide) rfl rfl (by decide) rfl uw_1 gl_RX1_28 rfl hd hp kk
theorem gl_RX6_67 : Cond.fieldLink RX6 67 RX1 (TX1 5).2.1 (TX1 5).2.2.1 ∈ lw_tbl := tq1 211 rfl
theorem gf_RX6_67 {g : Nat} (hg : isG g = true) (X : gC E w cc nL RX6 h) (hd : decode cc pc = .ok (.getfield 67, 3)) (hp : pc + 3 = n) (kk : gW E w nL σ n L (.ref (w.1 (g + 5)) :: st)) : gW E w nL σ pc L (.ref (w.1 g) :: st) := by
  rcases isG_e hg with rfl | rfl
  · exact g_get X (k := 10) (j := 5) (by decide) rfl rfl (by decide) rfl uw_1 gl_RX6_67 rfl hd hp kk
  · exact g_get X (k := 28) (j := 5) (by decide) rfl rfl (by decide) rfl uw_1 gl_RX6_67 rfl hd hp kk
theorem gl_RX3_31 : Cond.fieldLink RX3 31 RX1 (TX1 5).2.1 (TX1 5).2.2.1 ∈ lw_tbl := tq1 212 rfl
theorem gf_RX3_31 {g : Nat} (hg : isG g = true) (X : gC E w cc nL RX3 h) (hd : decode cc pc = .ok (.getfield 31, 3)) (hp : pc + 3 = n) (kk : gW E w nL σ n L (.ref (w.1 (g + 5)) :: st)) : gW E w nL σ pc L (.ref (w.1 g) :: st) := by
  rcases isG_e hg with rfl | rfl
  · exact g_get X (k := 10) (j := 5) (by decide) rfl rfl (by decide) rfl uw_1 gl_RX3_31 rfl hd hp kk
  · exact g_get X (k := 28) (j := 5) (by decide) rfl rfl (by decide) rfl uw_1 gl_RX3_31 rfl hd hp kk
theorem gl_RX8_163 : Cond.fieldLink RX8 163 RX1 (TX1 5).2.1 (TX1 5).2.2.1 ∈ lw_tbl := tq1 213 rfl
theorem gf_RX8_163 {g : Nat} (hg : isG g = true) (X : gC E w cc nL RX8 h) (hd : decode cc pc = .ok (.getfield 163, 3)) (hp : pc + 3 = n) (kk : gW E w nL σ n L (.ref (w.1 (g + 5)) :: st)) : gW E w nL σ pc L (.ref (w.1 g) :: st) := by
  rcases isG_e hg with rfl | rfl
  · exact g_get X (k := 10) (j := 5) (by decide) rfl rfl (by decide) rfl uw_1 gl_RX8_163 rfl hd hp kk
  · exact g_get X (k := 28) (j := 5) (by decide) rfl rfl (by decide) rfl uw_1 gl_RX8_163 rfl hd hp kk
theorem gl_RX1_31 : Cond.fieldLink RX1 31 RX1 (TX1 6).2.1 (TX1 6).2.2.1 ∈ lw_tbl := tq1 214 rfl
theorem gf_RX1_31 {g : Nat} (hg : isG g = true) (X : gC E w cc nL RX1 h) (hd : decode cc pc = .ok (.getfield 31, 3)) (hp : pc + 3 = n) (kk : gW E w nL σ n L (.ref (w.1 (g + 6)) :: st)) : gW E w nL σ pc L (.ref (w.1 g) :: st) := by
  rcases isG_e hg with rfl | rfl
  · exact g_get X (k := 10) (j := 6) (by decide) rfl rfl (by decide) rfl uw_1 gl_RX1_31 rfl hd hp kk
  · exact g_get X (k := 28) (j := 6) (by decide) rfl rfl (by decide) rfl uw_1 gl_RX1_31 rfl hd hp kk
theorem gl_RX4_49 : Cond.fieldLink RX4 49 RX1 (TX1 6).2.1 (TX1 6).2.2.1 ∈ lw_tbl := tq1 215 rfl
theorem gf_RX4_49 {g : Nat} (hg : isG g = true) (X : gC E w cc nL RX4 h) (hd : decode cc pc = .ok (.getfield 49, 3)) (hp : pc + 3 = n) (kk : gW E w nL σ n L (.ref (w.1 (g + 6)) :: st)) : gW E w nL σ pc L (.ref (w.1 g) :: st) := by
  rcases isG_e hg with rfl | rfl
  · exact g_get X (k := 10) (j := 6) (by decide) rfl rfl (by decide) rfl uw_1 gl_RX4_49 rfl hd hp kk
  · exact g_get X (k := 28) (j := 6) (by decide) rfl rfl (by decide) rfl uw_1 gl_RX4_49 rfl hd hp kk
theorem gl_RX8_166 : Cond.fieldLink RX8 166 RX1 (TX1 6).2.1 (TX1 6).2.2.1 ∈ lw_tbl := tq1 216 rfl
theorem gf_RX8_166 {g : Nat} (hg : isG g = true) (X : gC E w cc nL RX8 h) (hd : decode cc pc = .ok (.getfield 166, 3)) (hp : pc + 3 = n) (kk : gW E w nL σ n L (.ref (w.1 (g + 6)) :: st)) : gW E w nL σ pc L (.ref (w.1 g) :: st) := by
  rcases isG_e hg with rfl | rfl
  · exact g_get X (k := 10) (j := 6) (by decide) rfl rfl (by decide) rfl uw_1 gl_RX8_166 rfl hd hp kk
  · exact g_get X (k := 28) (j := 6) (by decide) rfl rfl (by decide) rfl uw_1 gl_RX8_166 rfl hd hp kk
theorem gl_RX1_34 : Cond.fieldLink RX1 34 RX1 (TX1 7).2.1 (TX1 7).2.2.1 ∈ lw_tbl := tq1 217 rfl
theorem gf_RX1_34 {g : Nat} (hg : isG g = true) (X : gC E w cc nL RX1 h) (hd : decode cc pc = .ok (.getfield 34, 3)) (hp : pc + 3 = n) (kk : gW E w nL σ n L (.ref (w.1 (g + 7)) :: st)) : gW E w nL σ pc L (.ref (w.1 g) :: st) := by
  rcases isG_e hg with rfl | rfl
  · exact g_get X (k := 10) (j := 7) (by decide) rfl rfl (by decide) rfl uw_1 gl_RX1_34 rfl hd hp kk
  · exact g_get X (k := 28) (j := 7) (by decide) rfl rfl (by decide) rfl uw_1 gl_RX1_34 rfl hd hp kk
theorem gl_RX3_43 : Cond.fieldLink RX3 43 RX1 (TX1 7).2.1 (TX1 7).2.2.1 ∈ lw_tbl := tq1 218 rfl
theorem gf_RX3_43 {g : Nat} (hg : isG g = true) (X : gC E w cc nL RX3 h) (hd : decode cc pc = .ok (.getfield 43, 3)) (hp : pc + 3 = n) (kk : gW E w nL σ n L (.ref (w.1 (g + 7)) :: st)) : gW E w nL σ pc L (.ref (w.1 g) :: st) := by
  rcases isG_e hg with rfl | rfl
  · exact g_get X (k := 10) (j := 7) (by decide) rfl rfl (by decide) rfl uw_1 gl_RX3_43 rfl hd hp kk
  · exact g_get X (k := 28) (j := 7) (by decide) rfl rfl (by decide) rfl uw_1 gl_RX3_43 rfl hd hp kk
theorem gl_RX1_37 : Cond.fieldLink RX1 37 RX1 (TX1 8).2.1 (TX1 8).2.2.1 ∈ lw_tbl := tq1 219 rfl
theorem gf_RX1_37 {g : Nat} (hg : isG g = true) (X : gC E w cc nL RX1 h) (hd : decode cc pc = .ok (.getfield 37, 3)) (hp : pc + 3 = n) (kk : gW E w nL σ n L (.ref (w.1 (g + 8)) :: st)) : gW E w nL σ pc L (.ref (w.1 g) :: st) := by
  rcases isG_e hg with rfl | rfl
  · exact g_get X (k := 10) (j := 8) (by decide) rfl rfl (by decide) rfl uw_1 gl_RX1_37 rfl hd hp kk
  · exact g_get X (k := 28) (j := 8) (by decide) rfl rfl (by decide) rfl uw_1 gl_RX1_37 rfl hd hp kk
theorem gl_RX3_37 : Cond.fieldLink RX3 37 RX1 (TX1 8).2.1 (TX1 8).2.2.1 ∈ lw_tbl := tq1 220 rfl
theorem gf_RX3_37 {g : Nat} (hg : isG g = true) (X : gC E w cc nL RX3 h) (hd : decode cc pc = .ok (.getfield 37, 3)) (hp : pc + 3 = n) (kk : gW E w nL σ n L (.ref (w.1 (g + 8)) :: st)) : gW E w nL σ pc L (.ref (w.1 g) :: st) := by
  rcases isG_e hg with rfl | rfl
  · exact g_get X (k := 10) (j := 8) (by decide) rfl rfl (by decide) rfl uw_1 gl_RX3_37 rfl hd hp kk
  · exact g_get X (k := 28) (j := 8) (by decide) rfl rfl (by decide) rfl uw_1 gl_RX3_37 rfl hd hp kk
theorem gl_RX1_40 : Cond.fieldLink RX1 40 RX1 (TX1 9).2.1 (TX1 9).2.2.1 ∈ lw_tbl := tq1 221 rfl
theorem gf_RX1_40 {g : Nat} (hg : isG g = true) (X : gC E w cc nL RX1 h) (hd : decode cc pc = .ok (.getfield 40, 3)) (hp : pc + 3 = n) (kk : gW E w nL σ n L (.ref (w.1 (g + 9)) :: st)) : gW E w nL σ pc L (.ref (w.1 g) :: st) := by
  rcases isG_e hg with rfl | rfl
  · exact g_get X (k := 10) (j := 9) (by decide) rfl rfl (by decide) rfl uw_1 gl_RX1_40 rfl hd hp kk
  · exact g_get X (k := 28) (j := 9) (by decide) rfl rfl (by decide) rfl uw_1 gl_RX1_40 rfl hd hp kk
theorem gl_RX1_43 : Cond.fieldLink RX1 43 RX1 (TX1 10).2.1 (TX1 10).2.2.1 ∈ lw_tbl := tq1 222 rfl
theorem gf_RX1_43 {g : Nat} (hg : isG g = true) (X : gC E w cc nL RX1 h) (hd : decode cc pc = .ok (.getfield 43, 3)) (hp : pc + 3 = n) (kk : gW E w nL σ n L (.ref (w.1 (g + 10)) :: st)) : gW E w nL σ pc L (.ref (w.1 g) :: st) := by
  rcases isG_e hg with rfl | rfl
  · exact g_get X (k := 10) (j := 10) (by decide) rfl rfl (by decide) rfl uw_1 gl_RX1_43 rfl hd hp kk
  · exact g_get X (k := 28) (j := 10) (by decide) rfl rfl (by decide) rfl uw_1 gl_RX1_43 rfl hd hp kk
theorem gl_RX0_56 : Cond.fieldLink RX0 56 RX1 (TX1 10).2.1 (TX1 10).2.2.1 ∈ lw_tbl := tq1 223 rfl
theorem gf_RX0_56 {g : Nat} (hg : isG g = true) (X : gC E w cc nL RX0 h) (hd : decode cc pc = .ok (.getfield 56, 3)) (hp : pc + 3 = n) (kk : gW E w nL σ n L (.ref (w.1 (g + 10)) :: st)) : gW E w nL σ pc L (.ref (w.1 g) :: st) := by
  rcases isG_e hg with rfl | rfl
  · exact g_get X (k := 10) (j := 10) (by decide) rfl rfl (by decide) rfl uw_1 gl_RX0_56 rfl hd hp kk
  · exact g_get X (k := 28) (j := 10) (by decide) rfl rfl (by decide) rfl uw_1 gl_RX0_56 rfl hd hp kk
theorem gl_RX1_46 : Cond.fieldLink RX1 46 RX1 (TX1 11).2.1 (TX1 11).2.2.1 ∈ lw_tbl := tq1 224 rfl
theorem gf_RX1_46 {g : Nat} (hg : isG g = true) (X : gC E w cc nL RX1 h) (hd : decode cc pc = .ok (.getfield 46, 3)) (hp : pc + 3 = n) (kk : gW E w nL σ n L (.ref (w.1 (g + 11)) :: st)) : gW E w nL σ pc L (.ref (w.1 g) :: st) := by
  rcases isG_e hg with rfl | rfl
  · exact g_get X (k := 10) (j := 11) (by decide) rfl rfl (by decide) rfl uw_1 gl_RX1_46 rfl hd hp kk
  · exact g_get X (k := 28) (j := 11) (by decide) rfl rfl (by decide) rfl uw_1 gl_RX1_46 rfl hd hp kk
theorem gl_RX1_49 : Cond.fieldLink RX1 49 RX1 (TX1 12).2.1 (TX1 12).2.2.1 ∈ lw_tbl := tq1 225 rfl
theorem gf_RX1_49 {g : Nat} (hg : isG g = true) (X : gC E w cc nL RX1 h) (hd : decode cc pc = .ok (.getfield 49, 3)) (hp : pc + 3 = n) (kk : gW E w nL σ n L (.ref (w.1 (g + 12)) :: st)) : gW E w nL σ pc L (.ref (w.1 g) :: st) := by
  rcases isG_e hg with rfl | rfl
  · exact g_get X (k := 10) (j := 12) (by decide) rfl rfl (by decide) rfl uw_1 gl_RX1_49 rfl hd hp kk
  · exact g_get X (k := 28) (j := 12) (by decide) rfl rfl (by decide) rfl uw_1 gl_RX1_49 rfl hd hp kk
theorem gl_RX1_53 : Cond.fieldLink RX1 53 RX1 (TX1 13).2.1 (TX1 13).2.2.1 ∈ lw_tbl := tq1 226 rfl
theorem gf_RX1_53 {g : Nat} (hg : isG g = true) (X : gC E w cc nL RX1 h) (hd : decode cc pc = .ok (.getfield 53, 3)) (hp : pc + 3 = n) (kk : gW E w nL σ n L (.ref (w.1 (g + 13)) :: st)) : gW E w nL σ pc L (.ref (w.1 g) :: st) := by
  rcases isG_e hg with rfl | rfl
  · exact g_get X (k := 10) (j := 13) (by decide) rfl rfl (by decide) rfl uw_1 gl_RX1_53 rfl hd hp kk
  · exact g_get X (k := 28) (j := 13) (by decide) rfl rfl (by decide) rfl uw_1 gl_RX1_53 rfl hd hp kk
theorem gl_RX2_65 : Cond.fieldLink RX2 65 RX1 (TX1 13).2.1 (TX1 13).2.2.1 ∈ lw_tbl := tq1 227 rfl
theorem gf_RX2_65 {g : Nat} (hg : isG g = true) (X : gC E w cc nL RX2 h) (hd : decode cc pc = .ok (.getfield 65, 3)) (hp : pc + 3 = n) (kk : gW E w nL σ n L (.ref (w.1 (g + 13)) :: st)) : gW E w nL σ pc L (.ref (w.1 g) :: st) := by
  rcases isG_e hg with rfl | rfl
  · exact g_get X (k := 10) (j := 13) (by decide) rfl rfl (by decide) rfl uw_1 gl_RX2_65 rfl hd hp kk
  · exact g_get X (k := 28) (j := 13) (by decide) rfl rfl (by decide) rfl uw_1 gl_RX2_65 rfl hd hp kk
theorem gl_RX8_169 : Cond.fieldLink RX8 169 RX1 (TX1 13).2.1 (TX1 13).2.2.1 ∈ lw_tbl := tq1 228 rfl
theorem gf_RX8_169 {g : Nat} (hg : isG g = true) (X : gC E w cc nL RX8 h) (hd : decode cc pc = .ok (.getfield 169, 3)) (hp : pc + 3 = n) (kk : gW E w nL σ n L (.ref (w.1 (g + 13)) :: st)) : gW E w nL σ pc L (.ref (w.1 g) :: st) := by
  rcases isG_e hg with rfl | rfl
  · exact g_get X (k := 10) (j := 13) (by decide) rfl rfl (by decide) rfl uw_1 gl_RX8_169 rfl hd hp kk
  · exact g_get X (k := 28) (j := 13) (by decide) rfl rfl (by decide) rfl uw_1 gl_RX8_169 rfl hd hp kk
theorem gl_RX1_56 : Cond.fieldLink RX1 56 RX1 (TX1 14).2.1 (TX1 14).2.2.1 ∈ lw_tbl := tq1 229 rfl
theorem gf_RX1_56 {g : Nat} (hg : isG g = true) (X : gC E w cc nL RX1 h) (hd : decode cc pc = .ok (.getfield 56, 3)) (hp : pc + 3 = n) (kk : gW E w nL σ n L (.ref (w.1 (g + 14)) :: st)) : gW E w nL σ pc L (.ref (w.1 g) :: st) := by
  rcases isG_e hg with rfl | rfl
  · exact g_get X (k := 10) (j := 14) (by decide) rfl rfl (by decide) rfl uw_1 gl_RX1_56 rfl hd hp kk
  · exact g_get X (k := 28) (j := 14) (by decide) rfl rfl (by decide) rfl uw_1 gl_RX1_56 rfl hd hp kk
theorem gl_RX8_172 : Cond.fieldLink RX8 172 RX1 (TX1 14).2.1 (TX1 14).2.2.1 ∈ lw_tbl := tq1 230 rfl
theorem gf_RX8_172 {g : Nat} (hg : isG g = true) (X : gC E w cc nL RX8 h) (hd : decode cc pc = .ok (.getfield 172, 3)) (hp : pc + 3 = n) (kk : gW E w nL σ n L (.ref (w.1 (g + 14)) :: st)) : gW E w nL σ pc L (.ref (w.1 g) :: st) := by
  rcases isG_e hg with rfl | rfl
  · exact g_get X (k := 10) (j := 14) (by decide) rfl rfl (by decide) rfl uw_1 gl_RX8_172 rfl hd hp kk
  · exact g_get X (k := 28) (j := 14) (by decide) rfl rfl (by decide) rfl uw_1 gl_RX8_172 rfl hd hp kk
theorem gl_RX1_59 : Cond.fieldLink RX1 59 RX1 (TX1 15).2.1 (TX1 15).2.2.1 ∈ lw_tbl := tq1 231 rfl
theorem gf_RX1_59 {g : Nat} (hg : isG g = true) (X : gC E w cc nL RX1 h) (hd : decode cc pc = .ok (.getfield 59, 3)) (hp : pc + 3 = n) (kk : gW E w nL σ n L (.ref (w.1 (g + 15)) :: st)) : gW E w nL σ pc L (.ref (w.1 g) :: st) := by
  rcases isG_e hg with rfl | rfl
  · exact g_get X (k := 10) (j := 15) (by decide) rfl rfl (by decide) rfl uw_1 gl_RX1_59 rfl hd hp kk
  · exact g_get X (k := 28) (j := 15) (by decide) rfl rfl (by decide) rfl uw_1 gl_RX1_59 rfl hd hp kk
theorem gl_RX0_43 : Cond.fieldLink RX0 43 RX1 (TX1 15).2.1 (TX1 15).2.2.1 ∈ lw_tbl := tq1 232 rfl
theorem gf_RX0_43 {g : Nat} (hg : isG g = true) (X : gC E w cc nL RX0 h) (hd : decode cc pc = .ok (.getfield 43, 3)) (hp : pc + 3 = n) (kk : gW E w nL σ n L (.ref (w.1 (g + 15)) :: st)) : gW E w nL σ pc L (.ref (w.1 g) :: st) := by
  rcases isG_e hg with rfl | rfl
  · exact g_get X (k := 10) (j := 15) (by decide) rfl rfl (by decide) rfl uw_1 gl_RX0_43 rfl hd hp kk
  · exact g_get X (k := 28) (j := 15) (by decide) rfl rfl (by decide) rfl uw_1 gl_RX0_43 rfl hd hp kk
theorem gl_RX8_175 : Cond.fieldLink RX8 175 RX1 (TX1 15).2.1 (TX1 15).2.2.1 ∈ lw_tbl := tq1 233 rfl
theorem gf_RX8_175 {g : Nat} (hg : isG g = true) (X : gC E w cc nL RX8 h) (hd : decode cc pc = .ok (.getfield 175, 3)) (hp : pc + 3 = n) (kk : gW E w nL σ n L (.ref (w.1 (g + 15)) :: st)) : gW E w nL σ pc L (.ref (w.1 g) :: st) := by
  rcases isG_e hg with rfl | rfl
  · exact g_get X (k := 10) (j := 15) (by decide) rfl rfl (by decide) rfl uw_1 gl_RX8_175 rfl hd hp kk
  · exact g_get X (k := 28) (j := 15) (by decide) rfl rfl (by decide) rfl uw_1 gl_RX8_175 rfl hd hp kk
theorem gl_RX1_62 : Cond.fieldLink RX1 62 RX1 (TX1 16).2.1 (TX1 16).2.2.1 ∈ lw_tbl := tq1 234 rfl
theorem gf_RX1_62 {g : Nat} (hg : isG g = true) (X : gC E w cc nL RX1 h) (hd : decode cc pc = .ok (.getfield 62, 3)) (hp : pc + 3 = n) (kk : gW E w nL σ n L (.ref (w.1 (g + 16)) :: st)) : gW E w nL σ pc L (.ref (w.1 g) :: st) := by
  rcases isG_e hg with rfl | rfl
  · exact g_get X (k := 10) (j := 16) (by decide) rfl rfl (by decide) rfl uw_1 gl_RX1_62 rfl hd hp kk
  · exact g_get X (k := 28) (j := 16) (by decide) rfl rfl (by decide) rfl uw_1 gl_RX1_62 rfl hd hp kk
theorem gl_RX6_61 : Cond.fieldLink RX6 61 RX1 (TX1 16).2.1 (TX1 16).2.2.1 ∈ lw_tbl := tq1 235 rfl
theorem gf_RX6_61 {g : Nat} (hg : isG g = true) (X : gC E w cc nL RX6 h) (hd : decode cc pc = .ok (.getfield 61, 3)) (hp : pc + 3 = n) (kk : gW E w nL σ n L (.ref (w.1 (g + 16)) :: st)) : gW E w nL σ pc L (.ref (w.1 g) :: st) := by
  rcases isG_e hg with rfl | rfl
  · exact g_get X (k := 10) (j := 16) (by decide) rfl rfl (by decide) rfl uw_1 gl_RX6_61 rfl hd hp kk
  · exact g_get X (k := 28) (j := 16) (by decide) rfl rfl (by decide) rfl uw_1 gl_RX6_61 rfl hd hp kk
theorem gl_RX1_65 : Cond.fieldLink RX1 65 RX1 (TX1 17).2.1 (TX1 17).2.2.1 ∈ lw_tbl := tq1 236 rfl
theorem gf_RX1_65 {g : Nat} (hg : isG g = true) (X : gC E w cc nL RX1 h) (hd : decode cc pc = .ok (.getfield 65, 3)) (hp : pc + 3 = n) (kk : gW E w nL σ n L (.ref (w.1 (g + 17)) :: st)) : gW E w nL σ pc L (.ref (w.1 g) :: st) := by
  rcases isG_e hg with rfl | rfl
  · exact g_get X (k := 10) (j := 17) (by decide) rfl rfl (by decide) rfl uw_1 gl_RX1_65 rfl hd hp kk
  · exact g_get X (k := 28) (j := 17) (by decide) rfl rfl (by decide) rfl uw_1 gl_RX1_65 rfl hd hp kk
theorem gl_RX8_181 : Cond.fieldLink RX8 181 RX1 (TX1 17).2.1 (TX1 17).2.2.1 ∈ lw_tbl := tq1 237 rfl
theorem gf_RX8_181 {g : Nat} (hg : isG g = true) (X : gC E w cc nL RX8 h) (hd : decode cc pc = .ok (.getfield 181, 3)) (hp : pc + 3 = n) (kk : gW E w nL σ n L (.ref (w.1 (g + 17)) :: st)) : gW E w nL σ pc L (.ref (w.1 g) :: st) := by
  rcases isG_e hg with rfl | rfl
  · exact g_get X (k := 10) (j := 17) (by decide) rfl rfl (by decide) rfl uw_1 gl_RX8_181 rfl hd hp kk
  · exact g_get X (k := 28) (j := 17) (by decide) rfl rfl (by decide) rfl uw_1 gl_RX8_181 rfl hd hp kk
theorem gl_RX8_12 : Cond.fieldLink RX8 12 RX8 (TX8 0).2.1 (TX8 0).2.2.1 ∈ lw_tbl := tq2 36 rfl
theorem gf_RX8_12 (X : gC E w cc nL RX8 h) (hd : decode cc pc = .ok (.getfield 12, 3)) (hp : pc + 3 = n) (kk : gW E w nL σ n L (.ref (w.1 1) :: st)) : gW E w nL σ pc L (.ref (w.1 0) :: st) := g_get X (k := 0) (j := 0) (by decide) rfl rfl (by decide) rfl uw_8 gl_RX8_12 rfl hd hp kk
theorem gl_RX8_19 : Cond.fieldLink RX8 19 RX8 (TX8 1).2.1 (TX8 1).2.2.1 ∈ lw_tbl := tq2 37 rfl
theorem gf_RX8_19 (X : gC E w cc nL RX8 h) (hd : decode cc pc = .ok (.getfield 19, 3)) (hp : pc + 3 = n) (kk : gW E w nL σ n L (.ref (w.1 2) :: st)) : gW E w nL σ pc L (.ref (w.1 0) :: st) := g_get X (k := 0) (j := 1) (by decide) rfl rfl (by decide) rfl uw_8 gl_RX8_19 rfl hd hp kk
theorem gl_RX8_26 : Cond.fieldLink RX8 26 RX8 (TX8 2).2.1 (TX8 2).2.2.1 ∈ lw_tbl := tq2 38 rfl
theorem gf_RX8_26 (X : gC E w cc nL RX8 h) (hd : decode cc pc = .ok (.getfield 26, 3)) (hp : pc + 3 = n) (kk : gW E w nL σ n L (.ref (w.1 3) :: st)) : gW E w nL σ pc L (.ref (w.1 0) :: st) := g_get X (k := 0) (j := 2) (by decide) rfl rfl (by decide) rfl uw_8 gl_RX8_26 rfl hd hp kk
theorem gl_RX8_33 : Cond.fieldLink RX8 33 RX8 (TX8 3).2.1 (TX8 3).2.2.1 ∈ lw_tbl := tq2 39 rfl
theorem gf_RX8_33 (X : gC E w cc nL RX8 h) (hd : decode cc pc = .ok (.getfield 33, 3)) (hp : pc + 3 = n) (kk : gW E w nL σ n L (.ref (w.1 4) :: st)) : gW E w nL σ pc L (.ref (w.1 0) :: st) := g_get X (k := 0) (j := 3) (by decide) rfl rfl (by decide) rfl uw_8 gl_RX8_33 rfl hd hp kk
theorem gl_RX8_40 : Cond.fieldLink RX8 40 RX8 (TX8 4).2.1 (TX8 4).2.2.1 ∈ lw_tbl := tq2 40 rfl
theorem gf_RX8_40 (X : gC E w cc nL RX8 h) (hd : decode cc pc = .ok (.getfield 40, 3)) (hp : pc + 3 = n) (kk : gW E w nL σ n L (.ref (w.1 6) :: st)) : gW E w nL σ pc L (.ref (w.1 0) :: st) := g_get X (k := 0) (j := 4) (by decide) rfl rfl (by decide) rfl uw_8 gl_RX8_40 rfl hd hp kk
theorem gl_RX8_47 : Cond.fieldLink RX8 47 RX8 (TX8 5).2.1 (TX8 5).2.2.1 ∈ lw_tbl := tq2 41 rfl
theorem gf_RX8_47 (X : gC E w cc nL RX8 h) (hd : decode cc pc = .ok (.getfield 47, 3)) (hp : pc + 3 = n) (kk : gW E w nL σ n L (.ref (w.1 7) :: st)) : gW E w nL σ pc L (.ref (w.1 0) :: st) := g_get X (k := 0) (j := 5) (by decide) rfl rfl (by decide) rfl uw_8 gl_RX8_47 rfl hd hp kk
theorem gl_RX8_54 : Cond.fieldLink RX8 54 RX8 (TX8 6).2.1 (TX8 6).2.2.1 ∈ lw_tbl := tq2 42 rfl
theorem gf_RX8_54 (X : gC E w cc nL RX8 h) (hd : decode cc pc = .ok (.getfield 54, 3)) (hp : pc + 3 = n) (kk : gW E w nL σ n L (.ref (w.1 8) :: st)) : gW E w nL σ pc L (.ref (w.1 0) :: st) := g_get X (k := 0) (j := 6) (by decide) rfl rfl (by decide) rfl uw_8 gl_RX8_54 rfl hd hp kk
theorem gl_RX8_58 : Cond.fieldLink RX8 58 RX8 (TX8 7).2.1 (TX8 7).2.2.1 ∈ lw_tbl := tq2 43 rfl
theorem gf_RX8_58 (X : gC E w cc nL RX8 h) (hd : decode cc pc = .ok (.getfield 58, 3)) (hp : pc + 3 = n) (kk : gW E w nL σ n L (.ref (w.1 46) :: st)) : gW E w nL σ pc L (.ref (w.1 0) :: st) := g_get X (k := 0) (j := 7) (by decide) rfl rfl (by decide) rfl uw_8 gl_RX8_58 rfl hd hp kk
theorem gl_RX8_65 : Cond.fieldLink RX8 65 RX8 (TX8 8).2.1 (TX8 8).2.2.1 ∈ lw_tbl := tq2 44 rfl
theorem gf_RX8_65 (X : gC E w cc nL RX8 h) (hd : decode cc pc = .ok (.getfield 65, 3)) (hp : pc + 3 = n) (kk : gW E w nL σ n L (.ref (w.1 (rR σ 0)) :: st)) : gW E w nL σ pc L (.ref (w.1 0) :: st) := g_get X (k := 0) (j := 8) (by decide) rfl rfl (by decide) rfl uw_8 gl_RX8_65 rfl hd hp kk
theorem gp_RX8_65 {x : Nat} (X : gC E w cc nL RX8 h) (hd : decode cc pc = .ok (.putfield 65, 3)) (hp : pc + 3 = n) (kk : ∀ σ1 : St, σ1 = stR σ 0 x → gW E w nL σ1 n L st) : gW E w nL σ pc L (.ref (w.1 x) :: .ref (w.1 0) :: st) := g_putR X (k := 0) (j := 8) (D0 := RX1) tyX8 tyX8_ok nmX8 (by decide) rfl rfl (by decide) rfl (by decide) uw_8 gl_RX8_65 rfl rfl (by decide +kernel) hd hp kk
theorem gl_RX8_69 : Cond.fieldLink RX8 69 RX8 (TX8 9).2.1 (TX8 9).2.2.1 ∈ lw_tbl := tq2 45 rfl
theorem gf_RX8_69 (X : gC E w cc nL RX8 h) (hd : decode cc pc = .ok (.getfield 69, 3)) (hp : pc + 3 = n) (kk : gW E w nL σ n L (.ref (w.1 (rR σ 1)) :: st)) : gW E w nL σ pc L (.ref (w.1 0) :: st) := g_get X (k := 0) (j := 9) (by decide) rfl rfl (by decide) rfl uw_8 gl_RX8_69 rfl hd hp kk
theorem gp_RX8_69 {x : Nat} (X : gC E w cc nL RX8 h) (hd : decode cc pc = .ok (.putfield 69, 3)) (hp : pc + 3 = n) (kk : ∀ σ1 : St, σ1 = stR σ 1 x → gW E w nL σ1 n L st) : gW E w nL σ pc L (.ref (w.1 x) :: .ref (w.1 0) :: st) := g_putR X (k := 0) (j := 9) (D0 := RX1) tyX8 tyX8_ok nmX8 (by decide) rfl rfl (by decide) rfl (by decide) uw_8 gl_RX8_69 rfl rfl (by decide +kernel) hd hp kk
theorem gl_RX8_72 : Cond.fieldLink RX8 72 RX8 (TX8 10).2.1 (TX8 10).2.2.1 ∈ lw_tbl := tq2 46 rfl
theorem gf_RX8_72 (X : gC E w cc nL RX8 h) (hd : decode cc pc = .ok (.getfield 72, 3)) (hp : pc + 3 = n) (kk : gW E w nL σ n L (.int (rF σ 0) :: st)) : gW E w nL σ pc L (.ref (w.1 0) :: st) := g_get X (k := 0) (j := 10) (by decide) rfl rfl (by decide) rfl uw_8 gl_RX8_72 rfl hd hp kk
theorem gp_RX8_72 {x : Int32} (X : gC E w cc nL RX8 h) (hd : decode cc pc = .ok (.putfield 72, 3)) (hp : pc + 3 = n) (kk : ∀ σ1 : St, σ1 = stF σ 0 x → gW E w nL σ1 n L st) : gW E w nL σ pc L (.int x :: .ref (w.1 0) :: st) := g_putI X (k := 0) (j := 10) tyX8 tyX8_ok nmX8 (by decide) rfl rfl (by decide) rfl (by decide) uw_8 gl_RX8_72 rfl rfl rfl hd hp kk
theorem gl_RX8_76 : Cond.fieldLink RX8 76 RX8 (TX8 11).2.1 (TX8 11).2.2.1 ∈ lw_tbl := tq2 47 rfl
theorem gf_RX8_76 (X : gC E w cc nL RX8 h) (hd : decode cc pc = .ok (.getfield 76, 3)) (hp : pc + 3 = n) (kk : gW E w nL σ n L (.int (rF σ 1) :: st)) : gW E w nL σ pc L (.ref (w.1 0) :: st) := g_get X (k := 0) (j := 11) (by decide) rfl rfl (by decide) rfl uw_8 gl_RX8_76 rfl hd hp kk
theorem gp_RX8_76 {x : Int32} (X : gC E w cc nL RX8 h) (hd : decode cc pc = .ok (.putfield 76, 3)) (hp : pc + 3 = n) (kk : ∀ σ1 : St, σ1 = stF σ 1 x → gW E w nL σ1 n L st) : gW E w nL σ pc L (.int x :: .ref (w.1 0) :: st) := g_putI X (k := 0) (j := 11) tyX8 tyX8_ok nmX8 (by decide) rfl rfl (by decide) rfl (by decide) uw_8 gl_RX8_76 rfl rfl rfl hd hp kk
theorem gl_RX9_7 : Cond.fieldLink RX9 7 RX9 (TX9 0).2.1 (TX9 0).2.2.1 ∈ lw_tbl := tq4 118 rfl
theorem gf_RX9_7 (X : gC E w cc nL RX9 h) (hd : decode cc pc = .ok (.getfield 7, 3)) (hp : pc + 3 = n) (kk : gW E w nL σ n L (.ref (w.1 63) :: st)) : gW E w nL σ pc L (.ref (w.1 9) :: st) := g_get X (k := 9) (j := 0) (by decide) rfl rfl (by decide) rfl uw_9 gl_RX9_7 rfl hd hp kk
theorem gl_RX9_13 : Cond.fieldLink RX9 13 RX9 (TX9 1).2.1 (TX9 1).2.2.1 ∈ lw_tbl := tq4 119 rfl
theorem gf_RX9_13 (X : gC E w cc nL RX9 h) (hd : decode cc pc = .ok (.getfield 13, 3)) (hp : pc + 3 = n) (kk : gW E w nL σ n L (.ref (w.1 64) :: st)) : gW E w nL σ pc L (.ref (w.1 9) :: st) := g_get X (k := 9) (j := 1) (by decide) rfl rfl (by decide) rfl uw_9 gl_RX9_13 rfl hd hp kk
theorem gl_RX9_16 : Cond.fieldLink RX9 16 RX9 (TX9 2).2.1 (TX9 2).2.2.1 ∈ lw_tbl := tq4 120 rfl
theorem gf_RX9_16 (X : gC E w cc nL RX9 h) (hd : decode cc pc = .ok (.getfield 16, 3)) (hp : pc + 3 = n) (kk : gW E w nL σ n L (.ref (w.1 65) :: st)) : gW E w nL σ pc L (.ref (w.1 9) :: st) := g_get X (k := 9) (j := 2) (by decide) rfl rfl (by decide) rfl uw_9 gl_RX9_16 rfl hd hp kk
theorem gl_RX9_95 : Cond.fieldLink RX9 95 RX9 (TX9 3).2.1 (TX9 3).2.2.1 ∈ lw_tbl := tq4 121 rfl
theorem gf_RX9_95 (X : gC E w cc nL RX9 h) (hd : decode cc pc = .ok (.getfield 95, 3)) (hp : pc + 3 = n) (kk : gW E w nL σ n L (.int (rF σ 40) :: st)) : gW E w nL σ pc L (.ref (w.1 9) :: st) := g_get X (k := 9) (j := 3) (by decide) rfl rfl (by decide) rfl uw_9 gl_RX9_95 rfl hd hp kk
theorem gp_RX9_95 {x : Int32} (X : gC E w cc nL RX9 h) (hd : decode cc pc = .ok (.putfield 95, 3)) (hp : pc + 3 = n) (kk : ∀ σ1 : St, σ1 = stF σ 40 x → gW E w nL σ1 n L st) : gW E w nL σ pc L (.int x :: .ref (w.1 9) :: st) := g_putI X (k := 9) (j := 3) tyX9 tyX9_ok nmX9 (by decide) rfl rfl (by decide) rfl (by decide) uw_9 gl_RX9_95 rfl rfl rfl hd hp kk
theorem gl_RX9_19 : Cond.fieldLink RX9 19 RX9 (TX9 4).2.1 (TX9 4).2.2.1 ∈ lw_tbl := tq4 122 rfl
theorem gf_RX9_19 (X : gC E w cc nL RX9 h) (hd : decode cc pc = .ok (.getfield 19, 3)) (hp : pc + 3 = n) (kk : gW E w nL σ n L (.ref (w.1 66) :: st)) : gW E w nL σ pc L (.ref (w.1 9) :: st) := g_get X (k := 9) (j := 4) (by decide) rfl rfl (by decide) rfl uw_9 gl_RX9_19 rfl hd hp kk
theorem gl_RX9_119 : Cond.fieldLink RX9 119 RX9 (TX9 5).2.1 (TX9 5).2.2.1 ∈ lw_tbl := tq4 123 rfl
theorem gf_RX9_119 (X : gC E w cc nL RX9 h) (hd : decode cc pc = .ok (.getfield 119, 3)) (hp : pc + 3 = n) (kk : gW E w nL σ n L (.int (rF σ 41) :: st)) : gW E w nL σ pc L (.ref (w.1 9) :: st) := g_get X (k := 9) (j := 5) (by decide) rfl rfl (by decide) rfl uw_9 gl_RX9_119 rfl hd hp kk
theorem gp_RX9_119 {x : Int32} (X : gC E w cc nL RX9 h) (hd : decode cc pc = .ok (.putfield 119, 3)) (hp : pc + 3 = n) (kk : ∀ σ1 : St, σ1 = stF σ 41 x → gW E w nL σ1 n L st) : gW E w nL σ pc L (.int x :: .ref (w.1 9) :: st) := g_putI X (k := 9) (j := 5) tyX9 tyX9_ok nmX9 (by decide) rfl rfl (by decide) rfl (by decide) uw_9 gl_RX9_119 rfl rfl rfl hd hp kk
theorem gl_RX9_187 : Cond.fieldLink RX9 187 RX9 (TX9 6).2.1 (TX9 6).2.2.1 ∈ lw_tbl := tq4 124 rfl
theorem gf_RX9_187 (X : gC E w cc nL RX9 h) (hd : decode cc pc = .ok (.getfield 187, 3)) (hp : pc + 3 = n) (kk : gW E w nL σ n L (.int (rF σ 42) :: st)) : gW E w nL σ pc L (.ref (w.1 9) :: st) := g_get X (k := 9) (j := 6) (by decide) rfl rfl (by decide) rfl uw_9 gl_RX9_187 rfl hd hp kk
theorem gp_RX9_187 {x : Int32} (X : gC E w cc nL RX9 h) (hd : decode cc pc = .ok (.putfield 187, 3)) (hp : pc + 3 = n) (kk : ∀ σ1 : St, σ1 = stF σ 42 x → gW E w nL σ1 n L st) : gW E w nL σ pc L (.int x :: .ref (w.1 9) :: st) := g_putI X (k := 9) (j := 6) tyX9 tyX9_ok nmX9 (by decide) rfl rfl (by decide) rfl (by decide) uw_9 gl_RX9_187 rfl rfl rfl hd hp kk
theorem gl_RX9_22 : Cond.fieldLink RX9 22 RX9 (TX9 7).2.1 (TX9 7).2.2.1 ∈ lw_tbl := tq4 125 rfl
theorem gf_RX9_22 (X : gC E w cc nL RX9 h) (hd : decode cc pc = .ok (.getfield 22, 3)) (hp : pc + 3 = n) (kk : gW E w nL σ n L (.ref (w.1 67) :: st)) : gW E w nL σ pc L (.ref (w.1 9) :: st) := g_get X (k := 9) (j := 7) (by decide) rfl rfl (by decide) rfl uw_9 gl_RX9_22 rfl hd hp kk
theorem gl_RX9_25 : Cond.fieldLink RX9 25 RX9 (TX9 8).2.1 (TX9 8).2.2.1 ∈ lw_tbl := tq4 126 rfl
theorem gf_RX9_25 (X : gC E w cc nL RX9 h) (hd : decode cc pc = .ok (.getfield 25, 3)) (hp : pc + 3 = n) (kk : gW E w nL σ n L (.ref (w.1 68) :: st)) : gW E w nL σ pc L (.ref (w.1 9) :: st) := g_get X (k := 9) (j := 8) (by decide) rfl rfl (by decide) rfl uw_9 gl_RX9_25 rfl hd hp kk
theorem gl_RX9_28 : Cond.fieldLink RX9 28 RX9 (TX9 9).2.1 (TX9 9).2.2.1 ∈ lw_tbl := tq4 127 rfl
theorem gf_RX9_28 (X : gC E w cc nL RX9 h) (hd : decode cc pc = .ok (.getfield 28, 3)) (hp : pc + 3 = n) (kk : gW E w nL σ n L (.ref (w.1 69) :: st)) : gW E w nL σ pc L (.ref (w.1 9) :: st) := g_get X (k := 9) (j := 9) (by decide) rfl rfl (by decide) rfl uw_9 gl_RX9_28 rfl hd hp kk
theorem gl_RX9_31 : Cond.fieldLink RX9 31 RX9 (TX9 10).2.1 (TX9 10).2.2.1 ∈ lw_tbl := tq4 128 rfl
theorem gf_RX9_31 (X : gC E w cc nL RX9 h) (hd : decode cc pc = .ok (.getfield 31, 3)) (hp : pc + 3 = n) (kk : gW E w nL σ n L (.ref (w.1 70) :: st)) : gW E w nL σ pc L (.ref (w.1 9) :: st) := g_get X (k := 9) (j := 10) (by decide) rfl rfl (by decide) rfl uw_9 gl_RX9_31 rfl hd hp kk
theorem gl_RX9_34 : Cond.fieldLink RX9 34 RX9 (TX9 11).2.1 (TX9 11).2.2.1 ∈ lw_tbl := tq4 129 rfl
theorem gf_RX9_34 (X : gC E w cc nL RX9 h) (hd : decode cc pc = .ok (.getfield 34, 3)) (hp : pc + 3 = n) (kk : gW E w nL σ n L (.ref (w.1 71) :: st)) : gW E w nL σ pc L (.ref (w.1 9) :: st) := g_get X (k := 9) (j := 11) (by decide) rfl rfl (by decide) rfl uw_9 gl_RX9_34 rfl hd hp kk
theorem gl_RX9_37 : Cond.fieldLink RX9 37 RX9 (TX9 12).2.1 (TX9 12).2.2.1 ∈ lw_tbl := tq4 130 rfl
theorem gf_RX9_37 (X : gC E w cc nL RX9 h) (hd : decode cc pc = .ok (.getfield 37, 3)) (hp : pc + 3 = n) (kk : gW E w nL σ n L (.ref (w.1 72) :: st)) : gW E w nL σ pc L (.ref (w.1 9) :: st) := g_get X (k := 9) (j := 12) (by decide) rfl rfl (by decide) rfl uw_9 gl_RX9_37 rfl hd hp kk
theorem gl_RX9_40 : Cond.fieldLink RX9 40 RX9 (TX9 13).2.1 (TX9 13).2.2.1 ∈ lw_tbl := tq4 131 rfl
theorem gf_RX9_40 (X : gC E w cc nL RX9 h) (hd : decode cc pc = .ok (.getfield 40, 3)) (hp : pc + 3 = n) (kk : gW E w nL σ n L (.ref (w.1 73) :: st)) : gW E w nL σ pc L (.ref (w.1 9) :: st) := g_get X (k := 9) (j := 13) (by decide) rfl rfl (by decide) rfl uw_9 gl_RX9_40 rfl hd hp kk
theorem gl_RX9_43 : Cond.fieldLink RX9 43 RX9 (TX9 14).2.1 (TX9 14).2.2.1 ∈ lw_tbl := tq4 132 rfl
theorem gf_RX9_43 (X : gC E w cc nL RX9 h) (hd : decode cc pc = .ok (.getfield 43, 3)) (hp : pc + 3 = n) (kk : gW E w nL σ n L (.ref (w.1 74) :: st)) : gW E w nL σ pc L (.ref (w.1 9) :: st) := g_get X (k := 9) (j := 14) (by decide) rfl rfl (by decide) rfl uw_9 gl_RX9_43 rfl hd hp kk
theorem gl_RX9_46 : Cond.fieldLink RX9 46 RX9 (TX9 15).2.1 (TX9 15).2.2.1 ∈ lw_tbl := tq4 133 rfl
theorem gf_RX9_46 (X : gC E w cc nL RX9 h) (hd : decode cc pc = .ok (.getfield 46, 3)) (hp : pc + 3 = n) (kk : gW E w nL σ n L (.ref (w.1 75) :: st)) : gW E w nL σ pc L (.ref (w.1 9) :: st) := g_get X (k := 9) (j := 15) (by decide) rfl rfl (by decide) rfl uw_9 gl_RX9_46 rfl hd hp kk
theorem gl_RX9_192 : Cond.fieldLink RX9 192 RX9 (TX9 16).2.1 (TX9 16).2.2.1 ∈ lw_tbl := tq4 134 rfl
theorem gf_RX9_192 (X : gC E w cc nL RX9 h) (hd : decode cc pc = .ok (.getfield 192, 3)) (hp : pc + 3 = n) (kk : gW E w nL σ n L (.int (rF σ 43) :: st)) : gW E w nL σ pc L (.ref (w.1 9) :: st) := g_get X (k := 9) (j := 16) (by decide) rfl rfl (by decide) rfl uw_9 gl_RX9_192 rfl hd hp kk
theorem gp_RX9_192 {x : Int32} (X : gC E w cc nL RX9 h) (hd : decode cc pc = .ok (.putfield 192, 3)) (hp : pc + 3 = n) (kk : ∀ σ1 : St, σ1 = stF σ 43 x → gW E w nL σ1 n L st) : gW E w nL σ pc L (.int x :: .ref (w.1 9) :: st) := g_putI X (k := 9) (j := 16) tyX9 tyX9_ok nmX9 (by decide) rfl rfl (by decide) rfl (by decide) uw_9 gl_RX9_192 rfl rfl rfl hd hp kk
theorem gl_RX9_49 : Cond.fieldLink RX9 49 RX9 (TX9 17).2.1 (TX9 17).2.2.1 ∈ lw_tbl := tq4 135 rfl
theorem gf_RX9_49 (X : gC E w cc nL RX9 h) (hd : decode cc pc = .ok (.getfield 49, 3)) (hp : pc + 3 = n) (kk : gW E w nL σ n L (.ref (w.1 76) :: st)) : gW E w nL σ pc L (.ref (w.1 9) :: st) := g_get X (k := 9) (j := 17) (by decide) rfl rfl (by decide) rfl uw_9 gl_RX9_49 rfl hd hp kk
theorem gl_RX9_52 : Cond.fieldLink RX9 52 RX9 (TX9 18).2.1 (TX9 18).2.2.1 ∈ lw_tbl := tq4 136 rfl
theorem gf_RX9_52 (X : gC E w cc nL RX9 h) (hd : decode cc pc = .ok (.getfield 52, 3)) (hp : pc + 3 = n) (kk : gW E w nL σ n L (.ref (w.1 77) :: st)) : gW E w nL σ pc L (.ref (w.1 9) :: st) := g_get X (k := 9) (j := 18) (by decide) rfl rfl (by decide) rfl uw_9 gl_RX9_52 rfl hd hp kk
theorem gl_RX9_55 : Cond.fieldLink RX9 55 RX9 (TX9 19).2.1 (TX9 19).2.2.1 ∈ lw_tbl := tq4 137 rfl
theorem gf_RX9_55 (X : gC E w cc nL RX9 h) (hd : decode cc pc = .ok (.getfield 55, 3)) (hp : pc + 3 = n) (kk : gW E w nL σ n L (.ref (w.1 78) :: st)) : gW E w nL σ pc L (.ref (w.1 9) :: st) := g_get X (k := 9) (j := 19) (by decide) rfl rfl (by decide) rfl uw_9 gl_RX9_55 rfl hd hp kk
theorem gl_RX9_58 : Cond.fieldLink RX9 58 RX9 (TX9 20).2.1 (TX9 20).2.2.1 ∈ lw_tbl := tq4 138 rfl
theorem gf_RX9_58 (X : gC E w cc nL RX9 h) (hd : decode cc pc = .ok (.getfield 58, 3)) (hp : pc + 3 = n) (kk : gW E w nL σ n L (.ref (w.1 79) :: st)) : gW E w nL σ pc L (.ref (w.1 9) :: st) := g_get X (k := 9) (j := 20) (by decide) rfl rfl (by decide) rfl uw_9 gl_RX9_58 rfl hd hp kk
theorem gl_RX9_195 : Cond.fieldLink RX9 195 RX9 (TX9 21).2.1 (TX9 21).2.2.1 ∈ lw_tbl := tq4 139 rfl
theorem gf_RX9_195 (X : gC E w cc nL RX9 h) (hd : decode cc pc = .ok (.getfield 195, 3)) (hp : pc + 3 = n) (kk : gW E w nL σ n L (.int (rF σ 44) :: st)) : gW E w nL σ pc L (.ref (w.1 9) :: st) := g_get X (k := 9) (j := 21) (by decide) rfl rfl (by decide) rfl uw_9 gl_RX9_195 rfl hd hp kk
theorem gp_RX9_195 {x : Int32} (X : gC E w cc nL RX9 h) (hd : decode cc pc = .ok (.putfield 195, 3)) (hp : pc + 3 = n) (kk : ∀ σ1 : St, σ1 = stF σ 44 x → gW E w nL σ1 n L st) : gW E w nL σ pc L (.int x :: .ref (w.1 9) :: st) := g_putI X (k := 9) (j := 21) tyX9 tyX9_ok nmX9 (by decide) rfl rfl (by decide) rfl (by decide) uw_9 gl_RX9_195 rfl rfl rfl hd hp kk
theorem gl_RX9_61 : Cond.fieldLink RX9 61 RX9 (TX9 22).2.1 (TX9 22).2.2.1 ∈ lw_tbl := tq4 140 rfl
theorem gf_RX9_61 (X : gC E w cc nL RX9 h) (hd : decode cc pc = .ok (.getfield 61, 3)) (hp : pc + 3 = n) (kk : gW E w nL σ n L (.ref (w.1 80) :: st)) : gW E w nL σ pc L (.ref (w.1 9) :: st) := g_get X (k := 9) (j := 22) (by decide) rfl rfl (by decide) rfl uw_9 gl_RX9_61 rfl hd hp kk
theorem gl_RX9_294 : Cond.fieldLink RX9 294 RX9 (TX9 23).2.1 (TX9 23).2.2.1 ∈ lw_tbl := tq4 141 rfl
theorem gf_RX9_294 (X : gC E w cc nL RX9 h) (hd : decode cc pc = .ok (.getfield 294, 3)) (hp : pc + 3 = n) (kk : gW E w nL σ n L (.int (rF σ 45) :: st)) : gW E w nL σ pc L (.ref (w.1 9) :: st) := g_get X (k := 9) (j := 23) (by decide) rfl rfl (by decide) rfl uw_9 gl_RX9_294 rfl hd hp kk
theorem gp_RX9_294 {x : Int32} (X : gC E w cc nL RX9 h) (hd : decode cc pc = .ok (.putfield 294, 3)) (hp : pc + 3 = n) (kk : ∀ σ1 : St, σ1 = stF σ 45 x → gW E w nL σ1 n L st) : gW E w nL σ pc L (.int x :: .ref (w.1 9) :: st) := g_putI X (k := 9) (j := 23) tyX9 tyX9_ok nmX9 (by decide) rfl rfl (by decide) rfl (by decide) uw_9 gl_RX9_294 rfl rfl rfl hd hp kk
theorem gl_RX9_126 : Cond.fieldLink RX9 126 RX9 (TX9 24).2.1 (TX9 24).2.2.1 ∈ lw_tbl := tq4 142 rfl
theorem gf_RX9_126 (X : gC E w cc nL RX9 h) (hd : decode cc pc = .ok (.getfield 126, 3)) (hp : pc + 3 = n) (kk : gW E w nL σ n L (.int (rF σ 46) :: st)) : gW E w nL σ pc L (.ref (w.1 9) :: st) := g_get X (k := 9) (j := 24) (by decide) rfl rfl (by decide) rfl uw_9 gl_RX9_126 rfl hd hp kk
theorem gp_RX9_126 {x : Int32} (X : gC E w cc nL RX9 h) (hd : decode cc pc = .ok (.putfield 126, 3)) (hp : pc + 3 = n) (kk : ∀ σ1 : St, σ1 = stF σ 46 x → gW E w nL σ1 n L st) : gW E w nL σ pc L (.int x :: .ref (w.1 9) :: st) := g_putI X (k := 9) (j := 24) tyX9 tyX9_ok nmX9 (by decide) rfl rfl (by decide) rfl (by decide) uw_9 gl_RX9_126 rfl rfl rfl hd hp kk
theorem gl_RX9_129 : Cond.fieldLink RX9 129 RX9 (TX9 25).2.1 (TX9 25).2.2.1 ∈ lw_tbl := tq4 143 rfl
theorem gf_RX9_129 (X : gC E w cc nL RX9 h) (hd : decode cc pc = .ok (.getfield 129, 3)) (hp : pc + 3 = n) (kk : gW E w nL σ n L (.int (rF σ 47) :: st)) : gW E w nL σ pc L (.ref (w.1 9) :: st) := g_get X (k := 9) (j := 25) (by decide) rfl rfl (by decide) rfl uw_9 gl_RX9_129 rfl hd hp kk
theorem gp_RX9_129 {x : Int32} (X : gC E w cc nL RX9 h) (hd : decode cc pc = .ok (.putfield 129, 3)) (hp : pc + 3 = n) (kk : ∀ σ1 : St, σ1 = stF σ 47 x → gW E w nL σ1 n L st) : gW E w nL σ pc L (.int x :: .ref (w.1 9) :: st) := g_putI X (k := 9) (j := 25) tyX9 tyX9_ok nmX9 (by decide) rfl rfl (by decide) rfl (by decide) uw_9 gl_RX9_129 rfl rfl rfl hd hp kk
theorem gl_RX9_132 : Cond.fieldLink RX9 132 RX9 (TX9 26).2.1 (TX9 26).2.2.1 ∈ lw_tbl := tq4 144 rfl
theorem gf_RX9_132 (X : gC E w cc nL RX9 h) (hd : decode cc pc = .ok (.getfield 132, 3)) (hp : pc + 3 = n) (kk : gW E w nL σ n L (.int (rF σ 48) :: st)) : gW E w nL σ pc L (.ref (w.1 9) :: st) := g_get X (k := 9) (j := 26) (by decide) rfl rfl (by decide) rfl uw_9 gl_RX9_132 rfl hd hp kk
theorem gp_RX9_132 {x : Int32} (X : gC E w cc nL RX9 h) (hd : decode cc pc = .ok (.putfield 132, 3)) (hp : pc + 3 = n) (kk : ∀ σ1 : St, σ1 = stF σ 48 x → gW E w nL σ1 n L st) : gW E w nL σ pc L (.int x :: .ref (w.1 9) :: st) := g_putI X (k := 9) (j := 26) tyX9 tyX9_ok nmX9 (by decide) rfl rfl (by decide) rfl (by decide) uw_9 gl_RX9_132 rfl rfl rfl hd hp kk
theorem gl_RX9_143 : Cond.fieldLink RX9 143 RX9 (TX9 27).2.1 (TX9 27).2.2.1 ∈ lw_tbl := tq4 145 rfl
theorem gf_RX9_143 (X : gC E w cc nL RX9 h) (hd : decode cc pc = .ok (.getfield 143, 3)) (hp : pc + 3 = n) (kk : gW E w nL σ n L (.int (rF σ 49) :: st)) : gW E w nL σ pc L (.ref (w.1 9) :: st) := g_get X (k := 9) (j := 27) (by decide) rfl rfl (by decide) rfl uw_9 gl_RX9_143 rfl hd hp kk
theorem gp_RX9_143 {x : Int32} (X : gC E w cc nL RX9 h) (hd : decode cc pc = .ok (.putfield 143, 3)) (hp : pc + 3 = n) (kk : ∀ σ1 : St, σ1 = stF σ 49 x → gW E w nL σ1 n L st) : gW E w nL σ pc L (.int x :: .ref (w.1 9) :: st) := g_putI X (k := 9) (j := 27) tyX9 tyX9_ok nmX9 (by decide) rfl rfl (by decide) rfl (by decide) uw_9 gl_RX9_143 rfl rfl rfl hd hp kk
theorem gl_RX9_64 : Cond.fieldLink RX9 64 RX9 (TX9 28).2.1 (TX9 28).2.2.1 ∈ lw_tbl := tq4 146 rfl
theorem gf_RX9_64 (X : gC E w cc nL RX9 h) (hd : decode cc pc = .ok (.getfield 64, 3)) (hp : pc + 3 = n) (kk : gW E w nL σ n L (.ref (w.1 81) :: st)) : gW E w nL σ pc L (.ref (w.1 9) :: st) := g_get X (k := 9) (j := 28) (by decide) rfl rfl (by decide) rfl uw_9 gl_RX9_64 rfl hd hp kk
theorem gl_RX9_67 : Cond.fieldLink RX9 67 RX9 (TX9 29).2.1 (TX9 29).2.2.1 ∈ lw_tbl := tq4 147 rfl
theorem gf_RX9_67 (X : gC E w cc nL RX9 h) (hd : decode cc pc = .ok (.getfield 67, 3)) (hp : pc + 3 = n) (kk : gW E w nL σ n L (.ref (w.1 82) :: st)) : gW E w nL σ pc L (.ref (w.1 9) :: st) := g_get X (k := 9) (j := 29) (by decide) rfl rfl (by decide) rfl uw_9 gl_RX9_67 rfl hd hp kk
theorem gl_RX9_70 : Cond.fieldLink RX9 70 RX9 (TX9 30).2.1 (TX9 30).2.2.1 ∈ lw_tbl := tq4 148 rfl
theorem gf_RX9_70 (X : gC E w cc nL RX9 h) (hd : decode cc pc = .ok (.getfield 70, 3)) (hp : pc + 3 = n) (kk : gW E w nL σ n L (.ref (w.1 83) :: st)) : gW E w nL σ pc L (.ref (w.1 9) :: st) := g_get X (k := 9) (j := 30) (by decide) rfl rfl (by decide) rfl uw_9 gl_RX9_70 rfl hd hp kk
theorem gl_RX9_160 : Cond.fieldLink RX9 160 RX9 (TX9 31).2.1 (TX9 31).2.2.1 ∈ lw_tbl := tq4 149 rfl
theorem gf_RX9_160 (X : gC E w cc nL RX9 h) (hd : decode cc pc = .ok (.getfield 160, 3)) (hp : pc + 3 = n) (kk : gW E w nL σ n L (.int (rF σ 50) :: st)) : gW E w nL σ pc L (.ref (w.1 9) :: st) := g_get X (k := 9) (j := 31) (by decide) rfl rfl (by decide) rfl uw_9 gl_RX9_160 rfl hd hp kk
theorem gp_RX9_160 {x : Int32} (X : gC E w cc nL RX9 h) (hd : decode cc pc = .ok (.putfield 160, 3)) (hp : pc + 3 = n) (kk : ∀ σ1 : St, σ1 = stF σ 50 x → gW E w nL σ1 n L st) : gW E w nL σ pc L (.int x :: .ref (w.1 9) :: st) := g_putI X (k := 9) (j := 31) tyX9 tyX9_ok nmX9 (by decide) rfl rfl (by decide) rfl (by decide) uw_9 gl_RX9_160 rfl rfl rfl hd hp kk
theorem gl_RX9_157 : Cond.fieldLink RX9 157 RX9 (TX9 32).2.1 (TX9 32).2.2.1 ∈ lw_tbl := tq4 150 rfl
theorem gf_RX9_157 (X : gC E w cc nL RX9 h) (hd : decode cc pc = .ok (.getfield 157, 3)) (hp : pc + 3 = n) (kk : gW E w nL σ n L (.int (rF σ 51) :: st)) : gW E w nL σ pc L (.ref (w.1 9) :: st) := g_get X (k := 9) (j := 32) (by decide) rfl rfl (by decide) rfl uw_9 gl_RX9_157 rfl hd hp kk
theorem gp_RX9_157 {x : Int32} (X : gC E w cc nL RX9 h) (hd : decode cc pc = .ok (.putfield 157, 3)) (hp : pc + 3 = n) (kk : ∀ σ1 : St, σ1 = stF σ 51 x → gW E w nL σ1 n L st) : gW E w nL σ pc L (.int x :: .ref (w.1 9) :: st) := g_putI X (k := 9) (j := 32) tyX9 tyX9_ok nmX9 (by decide) rfl rfl (by decide) rfl (by decide) uw_9 gl_RX9_157 rfl rfl rfl hd hp kk
theorem gl_RX9_73 : Cond.fieldLink RX9 73 RX9 (TX9 33).2.1 (TX9 33).2.2.1 ∈ lw_tbl := tq4 151 rfl
theorem gf_RX9_73 (X : gC E w cc nL RX9 h) (hd : decode cc pc = .ok (.getfield 73, 3)) (hp : pc + 3 = n) (kk : gW E w nL σ n L (.ref (w.1 84) :: st)) : gW E w nL σ pc L (.ref (w.1 9) :: st) := g_get X (k := 9) (j := 33) (by decide) rfl rfl (by decide) rfl uw_9 gl_RX9_73 rfl hd hp kk
theorem gl_RX9_77 : Cond.fieldLink RX9 77 RX9 (TX9 34).2.1 (TX9 34).2.2.1 ∈ lw_tbl := tq4 152 rfl
theorem gf_RX9_77 (X : gC E w cc nL RX9 h) (hd : decode cc pc = .ok (.getfield 77, 3)) (hp : pc + 3 = n) (kk : gW E w nL σ n L (.ref (w.1 85) :: st)) : gW E w nL σ pc L (.ref (w.1 9) :: st) := g_get X (k := 9) (j := 34) (by decide) rfl rfl (by decide) rfl uw_9 gl_RX9_77 rfl hd hp kk
theorem gl_RX9_80 : Cond.fieldLink RX9 80 RX9 (TX9 35).2.1 (TX9 35).2.2.1 ∈ lw_tbl := tq4 153 rfl
theorem gf_RX9_80 (X : gC E w cc nL RX9 h) (hd : decode cc pc = .ok (.getfield 80, 3)) (hp : pc + 3 = n) (kk : gW E w nL σ n L (.ref (w.1 86) :: st)) : gW E w nL σ pc L (.ref (w.1 9) :: st) := g_get X (k := 9) (j := 35) (by decide) rfl rfl (by decide) rfl uw_9 gl_RX9_80 rfl hd hp kk
theorem gl_RX9_83 : Cond.fieldLink RX9 83 RX9 (TX9 36).2.1 (TX9 36).2.2.1 ∈ lw_tbl := tq4 154 rfl
theorem gf_RX9_83 (X : gC E w cc nL RX9 h) (hd : decode cc pc = .ok (.getfield 83, 3)) (hp : pc + 3 = n) (kk : gW E w nL σ n L (.ref (w.1 87) :: st)) : gW E w nL σ pc L (.ref (w.1 9) :: st) := g_get X (k := 9) (j := 36) (by decide) rfl rfl (by decide) rfl uw_9 gl_RX9_83 rfl hd hp kk
theorem gl_RX9_86 : Cond.fieldLink RX9 86 RX9 (TX9 37).2.1 (TX9 37).2.2.1 ∈ lw_tbl := tq4 155 rfl
theorem gf_RX9_86 (X : gC E w cc nL RX9 h) (hd : decode cc pc = .ok (.getfield 86, 3)) (hp : pc + 3 = n) (kk : gW E w nL σ n L (.ref (w.1 88) :: st)) : gW E w nL σ pc L (.ref (w.1 9) :: st) := g_get X (k := 9) (j := 37) (by decide) rfl rfl (by decide) rfl uw_9 gl_RX9_86 rfl hd hp kk
theorem gl_RX9_246 : Cond.fieldLink RX9 246 RX9 (TX9 38).2.1 (TX9 38).2.2.1 ∈ lw_tbl := tq4 156 rfl
theorem gf_RX9_246 (X : gC E w cc nL RX9 h) (hd : decode cc pc = .ok (.getfield 246, 3)) (hp : pc + 3 = n) (kk : gW E w nL σ n L (.int (rF σ 52) :: st)) : gW E w nL σ pc L (.ref (w.1 9) :: st) := g_get X (k := 9) (j := 38) (by decide) rfl rfl (by decide) rfl uw_9 gl_RX9_246 rfl hd hp kk
theorem gp_RX9_246 {x : Int32} (X : gC E w cc nL RX9 h) (hd : decode cc pc = .ok (.putfield 246, 3)) (hp : pc + 3 = n) (kk : ∀ σ1 : St, σ1 = stF σ 52 x → gW E w nL σ1 n L st) : gW E w nL σ pc L (.int x :: .ref (w.1 9) :: st) := g_putI X (k := 9) (j := 38) tyX9 tyX9_ok nmX9 (by decide) rfl rfl (by decide) rfl (by decide) uw_9 gl_RX9_246 rfl rfl rfl hd hp kk
theorem gl_RX9_249 : Cond.fieldLink RX9 249 RX9 (TX9 39).2.1 (TX9 39).2.2.1 ∈ lw_tbl := tq4 157 rfl
theorem gf_RX9_249 (X : gC E w cc nL RX9 h) (hd : decode cc pc = .ok (.getfield 249, 3)) (hp : pc + 3 = n) (kk : gW E w nL σ n L (.int (rF σ 53) :: st)) : gW E w nL σ pc L (.ref (w.1 9) :: st) := g_get X (k := 9) (j := 39) (by decide) rfl rfl (by decide) rfl uw_9 gl_RX9_249 rfl hd hp kk
theorem gp_RX9_249 {x : Int32} (X : gC E w cc nL RX9 h) (hd : decode cc pc = .ok (.putfield 249, 3)) (hp : pc + 3 = n) (kk : ∀ σ1 : St, σ1 = stF σ 53 x → gW E w nL σ1 n L st) : gW E w nL σ pc L (.int x :: .ref (w.1 9) :: st) := g_putI X (k := 9) (j := 39) tyX9 tyX9_ok nmX9 (by decide) rfl rfl (by decide) rfl (by decide) uw_9 gl_RX9_249 rfl rfl rfl hd hp kk
end LK
