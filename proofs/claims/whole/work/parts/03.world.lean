/-! the abstract state: int rows, long rows, int fields, moving references, all by their static numbers -/
abbrev St : Type := (Nat → Nat → Int32) × (Nat → Nat → Int64) × (Nat → Int32) × (Nat → Nat)
def stA (σ : St) (k i : Nat) (x : Int32) : St := (fun a => if a = k then upd (σ.1 a) i x else σ.1 a, σ.2)
def stL (σ : St) (k i : Nat) (x : Int64) : St := (σ.1, fun a => if a = k then vp_updL (σ.2.1 a) i x else σ.2.1 a, σ.2.2)
def stF (σ : St) (n : Nat) (x : Int32) : St := (σ.1, σ.2.1, upd σ.2.2.1 n x, σ.2.2.2)
def stR (σ : St) (n a : Nat) : St := (σ.1, σ.2.1, σ.2.2.1, fun j => if j = n then a else σ.2.2.2 j)
def stC (σ : St) (k : Nat) (f : Nat → Int32) : St := (fun a => if a = k then f else σ.1 a, σ.2)
abbrev rI (σ : St) (k : Nat) (i : Int32) : Int32 := σ.1 k i.toNatClampNeg
abbrev rL (σ : St) (k : Nat) (i : Int32) : Int64 := σ.2.1 k i.toNatClampNeg
abbrev rF (σ : St) (n : Nat) : Int32 := σ.2.2.1 n
abbrev rR (σ : St) (n : Nat) : Nat := σ.2.2.2 n
def NC : Nat := 89
def kdL : List Nat := [0, 0, 0, 0, 0, 0, 0, 0, 0, 0, 0, 1, 1, 1, 1, 1, 1, 1, 1, 1, 1, 1, 4, 1, 1, 1, 1, 3, 0, 1, 1, 1, 1, 1, 1, 1, 1, 1, 1, 1, 4, 1, 1, 1, 1, 3, 4, 1, 1, 1, 2, 1, 1, 4, 1, 1, 4, 1, 1, 4, 4, 4, 1, 1, 1, 1, 1, 1, 1, 1, 1, 1, 1, 1, 1, 1, 1, 1, 1, 1, 1, 1, 1, 1, 4, 4, 1, 4, 1]
def lnL : List Nat := [0, 0, 0, 0, 0, 0, 0, 0, 0, 0, 0, 60, 60, 60, 60, 60, 60, 60, 60, 240, 60, 120, 120, 10, 10, 10, 10, 2, 0, 60, 60, 60, 60, 60, 60, 60, 60, 240, 60, 120, 120, 10, 10, 10, 10, 2, 60, 8, 8, 320, 600, 30, 30, 60, 60, 60, 180, 60, 600, 60, 60, 60, 16, 8, 8, 320, 600, 120, 120, 120, 120, 120, 120, 120, 120, 480, 20, 20, 30, 600, 16, 9, 9, 9, 60, 60, 60, 60, 60]
def ocL : List Nat := [8, 5, 7, 4, 3, 3, 6, 2, 0, 9, 1, 0, 0, 0, 0, 0, 0, 0, 0, 0, 0, 0, 0, 0, 0, 0, 0, 0, 1, 0, 0, 0, 0, 0, 0, 0, 0, 0, 0, 0, 0, 0, 0, 0, 0, 0, 0, 0, 0, 0, 0, 0, 0, 0, 0, 0, 0, 0, 0, 0, 0, 0, 0, 0, 0, 0, 0, 0, 0, 0, 0, 0, 0, 0, 0, 0, 0, 0, 0, 0, 0, 0, 0, 0, 0, 0, 0, 0, 0]
def obL : List (List (Nat × Nat)) := [[(0, 1), (0, 2), (0, 3), (0, 4), (0, 6), (0, 7), (0, 8), (0, 46), (2, 0), (2, 1), (1, 0), (1, 1)], [(0, 47), (0, 48), (0, 49)], [(0, 50), (1, 2), (1, 3), (1, 4), (1, 5), (1, 6)], [(1, 7), (1, 8)], [(0, 51)], [(0, 52)], [(0, 53), (0, 54), (0, 55), (0, 56), (0, 57), (1, 9), (1, 10)], [(1, 11), (0, 58), (0, 59), (0, 60), (0, 5), (0, 61)], [(0, 62), (1, 12)], [(0, 63), (0, 64), (0, 65), (1, 40), (0, 66), (1, 41), (1, 42), (0, 67), (0, 68), (0, 69), (0, 70), (0, 71), (0, 72), (0, 73), (0, 74), (0, 75), (1, 43), (0, 76), (0, 77), (0, 78), (0, 79), (1, 44), (0, 80), (1, 45), (1, 46), (1, 47), (1, 48), (1, 49), (0, 81), (0, 82), (0, 83), (1, 50), (1, 51), (0, 84), (0, 85), (0, 86), (0, 87), (0, 88), (1, 52), (1, 53)], [(1, 20), (0, 11), (0, 12), (0, 13), (0, 14), (0, 15), (0, 16), (0, 17), (0, 18), (0, 19), (0, 20), (0, 21), (0, 22), (0, 23), (0, 24), (0, 25), (0, 26), (0, 27)], [], [], [], [], [], [], [], [], [], [], [], [], [], [], [], [], [], [(1, 38), (0, 29), (0, 30), (0, 31), (0, 32), (0, 33), (0, 34), (0, 35), (0, 36), (0, 37), (0, 38), (0, 39), (0, 40), (0, 41), (0, 42), (0, 43), (0, 44), (0, 45)], [], [], [], [], [], [], [], [], [], [], [], [], [], [], [], [], [], [], [], [], [], [], [], [], [], [], [], [], [], [], [], [], [], [], [], [], [], [], [], [], [], [], [], [], [], [], [], [], [], [], [], [], [], [], [], [], [], [], [], []]
def gcl : List vw_C := [(RX0, TX0, 2), (RX1, TX1, 18), (RX2, TX2, 6), (RX3, TX3, 1), (RX4, TX4, 2), (RX5, TX5, 3), (RX6, TX6, 7), (RX7, TX7, 6), (RX8, TX8, 12), (RX9, TX9, 40)]
def kd (k : Nat) : Nat := kdL.getD k 9
def ln (k : Nat) : Nat := lnL.getD k 0
def oc (k : Nat) : Nat := ocL.getD k 0
def obS (k : Nat) : List (Nat × Nat) := obL.getD k []
/-- addresses; classes and slots; classes of arrays by kind; the String constants' cells and their bytes' -/
abbrev wT : Type := (Nat → Nat) × va_G × (Nat → ClassId) × (Nat → Nat) × (Nat → Nat)
def fv (w : wT) (q : (Nat → Int32) × (Nat → Nat)) (z : Nat × Nat) : Value := match z.1 with
  | 0 => .ref (w.1 z.2)
  | 1 => .int (q.1 z.2)
  | _ => .ref (w.1 (q.2 z.2))
def cellOf (w : wT) (σ : St) (k : Nat) : va_E := match kd k with
  | 0 => .inr (oc k, (obS k).map (fv w σ.2.2))
  | 1 => .inl (w.2.2.1 1, ln k, .inl (σ.1 k))
  | 2 => .inl (w.2.2.1 2, ln k, .inl (σ.1 k))
  | 3 => .inl (w.2.2.1 3, ln k, .inl (σ.1 k))
  | _ => .inl (w.2.2.1 4, ln k, .inr (.inl (σ.2.1 k)))
def cw (w : wT) (σ : St) : va_W := (List.range NC).map fun k => (w.1 k, cellOf w σ k)
def gtys (w : wT) : List (ClassId × FieldType) := [(w.2.2.1 1, .int), (w.2.2.1 2, .byte), (w.2.2.1 3, .boolean), (w.2.2.1 4, .long)]
def inA (w : wT) : Nat → Prop := fun q => ∃ k, k < NC ∧ q = w.1 k
def wInj (w : wT) : Prop := ∀ i j : Nat, i < NC → j < NC → w.1 i = w.1 j → i = j
theorem cw_at {w : wT} {σ : St} {k : Nat} (h : k < NC) : (cw w σ)[k]? = some (w.1 k, cellOf w σ k) := by simp [cw, h]
theorem cw_len {w : wT} {σ : St} : (cw w σ).length = NC := by simp [cw]
theorem cw_set {w : wT} {σ σ' : St} {k : Nat} {e : va_E} (hk : k < NC) (h1 : cellOf w σ' k = e) (h2 : ∀ j, j < NC → j ≠ k → cellOf w σ' j = cellOf w σ j) : (cw w σ).set k (w.1 k, e) = cw w σ' := by
  apply List.ext_getElem?
  intro j
  by_cases hj : j < NC
  · rw [cw_at hj]
    by_cases hjk : j = k
    · subst hjk
      rw [List.getElem?_set_self (by rw [cw_len]; exact hj), h1]
    · rw [List.getElem?_set_ne (Ne.symm hjk), cw_at hj, h2 j hj hjk]
  · rw [List.getElem?_eq_none (by rw [List.length_set, cw_len]; omega), List.getElem?_eq_none (by rw [cw_len]; omega)]
theorem cw_D {w : wT} {σ : St} (h : wInj w) : va_D (inA w) (cw w σ) := by
  have key : ∀ (k : Nat) (q : Nat × va_E), (cw w σ)[k]? = some q → k < NC ∧ q.1 = w.1 k := by
    intro k q hq
    by_cases hk : k < NC
    · rw [cw_at hk] at hq
      cases hq
      exact ⟨hk, rfl⟩
    · rw [List.getElem?_eq_none (by rw [cw_len]; omega)] at hq
      cases hq
  refine ⟨fun i j p q hi hj e => ?_, fun k q hk => ?_⟩
  · obtain ⟨a1, a2⟩ := key i p hi
    obtain ⟨b1, b2⟩ := key j q hj
    exact h i j a1 b1 (by rw [← a2, ← b2, e])
  · obtain ⟨a1, a2⟩ := key k q hk
    exact ⟨k, a1, a2⟩
theorem ce_A {w : wT} {σ : St} {k i j : Nat} {x : Int32} (h : j ≠ k) : cellOf w (stA σ k i x) j = cellOf w σ j := by
  unfold cellOf
  simp [stA, h]
theorem ce_C {w : wT} {σ : St} {k j : Nat} {f : Nat → Int32} (h : j ≠ k) : cellOf w (stC σ k f) j = cellOf w σ j := by
  unfold cellOf
  simp [stC, h]
theorem ce_L {w : wT} {σ : St} {k i j : Nat} {x : Int64} (h : j ≠ k) : cellOf w (stL σ k i x) j = cellOf w σ j := by
  unfold cellOf
  simp [stL, h]
theorem ce_1 {w : wT} {σ : St} {k : Nat} (h : kd k = 1) : cellOf w σ k = .inl (w.2.2.1 1, ln k, .inl (σ.1 k)) := by simp only [cellOf, h]
theorem ce_2 {w : wT} {σ : St} {k : Nat} (h : kd k = 2) : cellOf w σ k = .inl (w.2.2.1 2, ln k, .inl (σ.1 k)) := by simp only [cellOf, h]
theorem ce_3 {w : wT} {σ : St} {k : Nat} (h : kd k = 3) : cellOf w σ k = .inl (w.2.2.1 3, ln k, .inl (σ.1 k)) := by simp only [cellOf, h]
theorem ce_4 {w : wT} {σ : St} {k : Nat} (h : kd k = 4) : cellOf w σ k = .inl (w.2.2.1 4, ln k, .inr (.inl (σ.2.1 k))) := by simp only [cellOf, h]
theorem ce_0 {w : wT} {σ : St} {k : Nat} (h : kd k = 0) : cellOf w σ k = .inr (oc k, (obS k).map (fv w σ.2.2)) := by simp only [cellOf, h]
/-- field z stands once, in object k at place j -/
def once (z : Nat × Nat) (k j : Nat) : Bool := (List.range NC).all fun a => (List.range (obS a).length).all fun b => !((obS a)[b]? == some z) || (a == k && b == j)
theorem once_spec {z : Nat × Nat} {k j : Nat} (h : once z k j = true) {a b : Nat} (ha : a < NC) (hb : (obS a)[b]? = some z) : a = k ∧ b = j := by
  unfold once at h
  rw [List.all_eq_true] at h
  have h1 := h a (List.mem_range.mpr ha)
  rw [List.all_eq_true] at h1
  have hl := (List.getElem?_eq_some_iff.mp hb).1
  have h2 := h1 b (List.mem_range.mpr hl)
  rw [hb] at h2
  simpa using h2
theorem map_eq_of {q q' : (Nat → Int32) × (Nat → Nat)} {w : wT} {l : List (Nat × Nat)} (h : ∀ (b : Nat) (z : Nat × Nat), l[b]? = some z → fv w q' z = fv w q z) : l.map (fv w q') = l.map (fv w q) := by
  apply List.ext_getElem?
  intro b
  rw [List.getElem?_map, List.getElem?_map]
  cases hb : l[b]? with
  | none => rfl
  | some z => simp [h b z hb]
theorem set_map_eq {q q' : (Nat → Int32) × (Nat → Nat)} {w : wT} {l : List (Nat × Nat)} {j : Nat} {z : Nat × Nat} {v : Value} (hj : l[j]? = some z) (hv : fv w q' z = v) (h : ∀ (b : Nat) (y : Nat × Nat), b ≠ j → l[b]? = some y → fv w q' y = fv w q y) : (l.map (fv w q)).set j v = l.map (fv w q') := by
  have hl := (List.getElem?_eq_some_iff.mp hj).1
  apply List.ext_getElem?
  intro b
  by_cases hb : b = j
  · subst hb
    rw [List.getElem?_set_self (by simpa using hl), List.getElem?_map, hj, ← hv]
    rfl
  · rw [List.getElem?_set_ne (Ne.symm hb), List.getElem?_map, List.getElem?_map]
    cases hz : l[b]? with
    | none => rfl
    | some y => simp [h b y hb hz]
theorem fv_F {w : wT} {σ : St} {n : Nat} {x : Int32} {z : Nat × Nat} (h : z ≠ (1, n)) : fv w (stF σ n x).2.2 z = fv w σ.2.2 z := by
  obtain ⟨a, b⟩ := z
  match a with
  | 0 => rfl
  | 1 =>
    have hb : b ≠ n := fun e => h (by rw [e])
    simp [fv, stF, upd, hb]
  | a + 2 => rfl
theorem fv_R {w : wT} {σ : St} {n a : Nat} {z : Nat × Nat} (h : ¬ (2 ≤ z.1 ∧ z.2 = n)) : fv w (stR σ n a).2.2 z = fv w σ.2.2 z := by
  obtain ⟨c, b⟩ := z
  match c with
  | 0 => rfl
  | 1 => rfl
  | c + 2 =>
    have hb : b ≠ n := fun e => h ⟨by simp, e⟩
    simp [fv, stR, hb]
theorem cw_F {w : wT} {σ : St} {k j n : Nat} {x : Int32} (hk : k < NC) (h0 : kd k = 0) (hj : (obS k)[j]? = some (1, n)) (ho : once (1, n) k j = true) : (cw w σ).set k (w.1 k, .inr (oc k, ((obS k).map (fv w σ.2.2)).set j (.int x))) = cw w (stF σ n x) := by
  refine cw_set hk ?_ ?_
  · rw [ce_0 h0, ← set_map_eq (q := σ.2.2) (q' := (stF σ n x).2.2) hj (v := .int x) (by simp [fv, stF, upd]) (fun b y hb hy => fv_F (fun e => hb (once_spec ho hk (e ▸ hy)).2))]
  · intro a ha hak
    unfold cellOf
    have : (obS a).map (fv w (stF σ n x).2.2) = (obS a).map (fv w σ.2.2) := map_eq_of fun b z hb => fv_F (fun e => hak (once_spec ho ha (e ▸ hb)).1)
    rw [this]
    rfl
def onceR (n k j : Nat) : Bool := (List.range NC).all fun a => (List.range (obS a).length).all fun b => !(((obS a).getD b (0, 0)).1 ≥ 2 && ((obS a).getD b (0, 0)).2 == n) || (a == k && b == j)
theorem onceR_spec {n k j : Nat} (h : onceR n k j = true) {a b : Nat} {z : Nat × Nat} (ha : a < NC) (hb : (obS a)[b]? = some z) (hz : 2 ≤ z.1 ∧ z.2 = n) : a = k ∧ b = j := by
  unfold onceR at h
  rw [List.all_eq_true] at h
  have h1 := h a (List.mem_range.mpr ha)
  rw [List.all_eq_true] at h1
  have hl := (List.getElem?_eq_some_iff.mp hb).1
  have h2 := h1 b (List.mem_range.mpr hl)
  have hg : (obS a).getD b (0, 0) = z := by simp [List.getD, hb]
  rw [hg] at h2
  simp [hz.1, hz.2] at h2
  exact h2
theorem cw_R {w : wT} {σ : St} {k j n a : Nat} (hk : k < NC) (h0 : kd k = 0) (hj : (obS k)[j]? = some (2, n)) (ho : onceR n k j = true) : (cw w σ).set k (w.1 k, .inr (oc k, ((obS k).map (fv w σ.2.2)).set j (.ref (w.1 a)))) = cw w (stR σ n a) := by
  refine cw_set hk ?_ ?_
  · rw [ce_0 h0, ← set_map_eq (q := σ.2.2) (q' := (stR σ n a).2.2) hj (v := .ref (w.1 a)) (by simp [fv, stR]) (fun b y hb hy => fv_R (fun e => hb (onceR_spec ho hk hy e).2))]
  · intro c hc hck
    unfold cellOf
    have : (obS c).map (fv w (stR σ n a).2.2) = (obS c).map (fv w σ.2.2) := map_eq_of fun b z hb => fv_R (fun e => hck (onceR_spec ho hc hb e).1)
    rw [this]
    rfl
