/-! numbers that may be none: 1000 stands for none -/
def nz (m : Nat) : Int32 := if m = 1000 then -1000000 else nI m
theorem nz_lt {m : Nat} (h : m < 1000) : nz m = nI m := if_neg (by omega)
theorem nz_none : nz 1000 = -1000000 := rfl
theorem nz_neg : ∀ m, m < 1000 → ¬ nI m = (-1000000 : Int32) := by
  intro m h e
  have := congrArg Int32.toInt e
  rw [nI_toInt (by omega)] at this
  have h2 : (-1000000 : Int32).toInt = -1000000 := by decide
  omega
theorem nz_eq {a b : Nat} (ha : a ≤ 1000) (hb : b ≤ 1000) : nz a = nz b ↔ a = b := by
  constructor
  · intro h
    unfold nz at h
    by_cases c : a = 1000
    · by_cases d : b = 1000
      · omega
      · rw [if_pos c, if_neg d] at h
        exact absurd h.symm (nz_neg b (by omega))
    · by_cases d : b = 1000
      · rw [if_neg c, if_pos d] at h
        exact absurd h (nz_neg a (by omega))
      · rw [if_neg c, if_neg d] at h
        exact (nI_eq (by omega) (by omega)).mp h
  · intro h; rw [h]
theorem nz_eq0 {a : Nat} (ha : a ≤ 1000) : nz a = -1000000 ↔ a = 1000 := nz_eq (b := 1000) ha (by omega)
theorem nz_eqI {a b : Nat} (ha : a ≤ 1000) (hb : b < 1000) : nz a = nI b ↔ a = b := by rw [← nz_lt hb]; exact nz_eq ha (by omega)
theorem nl0 : (0 : Int32) = nI 0 := rfl
theorem nl1 : (1 : Int32) = nI 1 := rfl
theorem nl2 : (2 : Int32) = nI 2 := rfl
theorem nl3 : (3 : Int32) = nI 3 := rfl
theorem nl4 : (4 : Int32) = nI 4 := rfl
theorem nl5 : (5 : Int32) = nI 5 := rfl
theorem nl6 : (6 : Int32) = nI 6 := rfl
theorem nl7 : (7 : Int32) = nI 7 := rfl
theorem nl8 : (8 : Int32) = nI 8 := rfl
theorem nl9 : (9 : Int32) = nI 9 := rfl
theorem nl10 : (10 : Int32) = nI 10 := rfl
theorem nl11 : (11 : Int32) = nI 11 := rfl
theorem nl12 : (12 : Int32) = nI 12 := rfl
theorem nl20 : (20 : Int32) = nI 20 := rfl
theorem nl40 : (40 : Int32) = nI 40 := rfl
theorem nl60 : (60 : Int32) = nI 60 := rfl
theorem nl1m : (-1000000 : Int32) = nz 1000 := rfl
theorem ibN {i n : Nat} (hi : i < 2 ^ 31) (hn : n < 2 ^ 31) : ib (nI i) n = decide (i < n) := by
  by_cases h : i < n
  · rw [ib_nI h hn, decide_eq_true h]
  · rw [decide_eq_false h]
    unfold ib
    rw [decide_eq_false]
    intro c
    apply c
    right
    rw [nI_clamp hi]
    omega
theorem nI_sub1 {a b : Nat} (h : b ≤ a) : nI a - nI b = nI (a - b) := pk_sub h
/-! the text read: a pure reading -/
abbrev TT : Type := Nat → Nat → Nat
abbrev SS : Type := Nat × Nat × TT
abbrev RR : Type := Sum (Nat × Nat) SS
def sb (r : RR) (k : SS → RR) : RR := match r with
  | .inl e => .inl e
  | .inr s => k s
/-- place n: word w, pay, set, ways, above a, depth d, turn t, share x -/
def nod (T : TT) (n w a t x d py st nw : Nat) : TT := fun j i =>
  if i = n ∧ j = 1 then w else if i = n ∧ j = 2 then py else if i = n ∧ j = 3 then st else if i = n ∧ j = 4 then nw else if i = n ∧ j = 5 then a else if i = n ∧ j = 6 then d else if i = n ∧ j = 7 then t else if i = n ∧ j = 8 then x else if j = 9 ∧ a < 1000 ∧ i = 4 * a + t then n else T j i
def put (T : TT) (n w st nw : Nat) : TT := fun j i =>
  if i = st ∧ j = 13 then w - 2 else if i = st ∧ j = 14 then nw else if i = st ∧ j = 15 then T 15 st + 1 else if i = st ∧ j = 16 then (if T 15 st = 0 then n else T 16 st) else T j i
/-- the head of a place at a token place q: above a, turn t, share x, depth d -/
def hd (B : Nat → Nat) (L a t x d : Nat) (s : SS) : RR :=
  if 4 ≤ tC B L s.1 then .inl (1, tS B L s.1)
  else if 60 ≤ s.2.1 ∨ (8 ≤ d ∧ tC B L s.1 ≠ 0) then .inl (3, tS B L s.1)
  else if tC B L (tE B L s.1) ≠ 4 then .inl (1, tS B L (tE B L s.1))
  else if tC B L s.1 = 0 then .inr (tE B L (tE B L s.1), s.2.1 + 1, nod s.2.2 s.2.1 0 a t x d (tV B L (tE B L s.1)) 1000 0)
  else if tC B L s.1 = 1 then (if tV B L (tE B L s.1) < 2 ∨ 4 < tV B L (tE B L s.1) then .inl (2, tS B L (tE B L s.1)) else .inr (tE B L (tE B L s.1), s.2.1 + 1, nod s.2.2 s.2.1 1 a t x d 1000 1000 (tV B L (tE B L s.1))))
  else if 10 ≤ tV B L (tE B L s.1) ∨ (s.2.2 13 (tV B L (tE B L s.1)) ≠ 1000 ∧ s.2.2 13 (tV B L (tE B L s.1)) ≠ tC B L s.1 - 2) then .inl (2, tS B L (tE B L s.1))
  else if tC B L (tE B L (tE B L s.1)) ≠ 4 then .inl (1, tS B L (tE B L (tE B L s.1)))
  else if tV B L (tE B L (tE B L s.1)) < 2 ∨ 3 < tV B L (tE B L (tE B L s.1)) ∨ (s.2.2 14 (tV B L (tE B L s.1)) ≠ 0 ∧ s.2.2 14 (tV B L (tE B L s.1)) ≠ tV B L (tE B L (tE B L s.1))) then .inl (2, tS B L (tE B L (tE B L s.1)))
  else .inr (tE B L (tE B L (tE B L s.1)), s.2.1 + 1, put (nod s.2.2 s.2.1 (tC B L s.1) a t x d 1000 (tV B L (tE B L s.1)) (tV B L (tE B L (tE B L s.1)))) s.2.1 (tC B L s.1) (tV B L (tE B L s.1)) (tV B L (tE B L (tE B L s.1))))
/-- the ways of a deal: k to come, l left of 12, turn t of place m -/
def dl (B : Nat → Nat) (L : Nat) (P : Nat → Nat → Nat → SS → RR) (m : Nat) : Nat → Nat → Nat → SS → RR
  | 0, _, _, s => .inr s
  | k + 1, l, t, s =>
    if tC B L s.1 ≠ 4 then .inl (1, tS B L s.1)
    else if tV B L s.1 < 1 ∨ 12 ≤ tV B L s.1 ∨ l < tV B L s.1 ∨ (k = 0 ∧ tV B L s.1 < l) then .inl (2, tS B L s.1)
    else sb (P m t (tV B L s.1) (tE B L s.1, s.2)) (fun s' => dl B L P m k (l - tV B L s.1) (t + 1) s')
def hl (P : Nat → Nat → Nat → SS → RR) (m : Nat) : Nat → Nat → SS → RR
  | 0, _, s => .inr s
  | k + 1, t, s => sb (P m t 0 s) (fun s' => hl P m k (t + 1) s')
/-- a place and all below it: above a, turn t, share x; depth d -/
def pl (B : Nat → Nat) (L : Nat) : Nat → Nat → Nat → Nat → Nat → SS → RR
  | 0, _, _, _, _, _ => .inl (0, 0)
  | f + 1, d, a, t, x, s => sb (hd B L a t x d s) (fun s' =>
      if s'.2.2 1 s.2.1 = 0 then .inr s'
      else if s'.2.2 1 s.2.1 = 1 then dl B L (fun m t x s => pl B L f (d + 1) m t x s) s.2.1 (s'.2.2 4 s.2.1) 12 0 s'
      else hl (fun m t x s => pl B L f (d + 1) m t x s) s.2.1 (s'.2.2 4 s.2.1) 0 s')
theorem tV_lt (B : Nat → Nat) (L q : Nat) (h : tC B L q = 4) : tV B L q < 100 := by
  unfold tC at h
  by_cases c0 : tS B L q = L
  · rw [if_pos c0] at h; omega
  · rw [if_neg c0] at h
    by_cases c1 : ltB (B (tS B L q)) = true
    · rw [if_pos c1] at h
      unfold wdK at h
      repeat' split at h
      all_goals omega
    · rw [if_neg c1] at h
      by_cases c2 : dgB (B (tS B L q)) = true
      · rw [if_pos c2] at h
        have h1 := dgB_i c2
        by_cases c3 : tE B L q - tS B L q ≤ 2
        · unfold tV
          by_cases c4 : tE B L q - tS B L q ≤ 1
          · rw [if_pos c4]; omega
          · rw [if_neg c4]
            have h2 : dgB (B (tS B L q + 1)) = true := by
              apply spn_in dgB B (L - tS B L q) (tS B L q)
              · omega
              · have : tE B L q = spn dgB B (L - tS B L q) (tS B L q) := by
                  unfold tE
                  rw [if_neg c0, if_neg c1, if_pos c2]
                rw [← this]
                omega
            have h3 := dgB_i h2
            omega
        · rw [if_neg c3] at h; omega
      · rw [if_neg c2] at h
        split at h <;> omega
