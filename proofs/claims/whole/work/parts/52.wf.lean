/-! what a text read is like -/
def cn (T : TT) (s : Nat) : Nat → Nat
  | 0 => 0
  | n + 1 => cn T s n + if T 3 n = s then 1 else 0
def wK (T : TT) (p : Nat) : Prop := T 6 p ≤ 8 ∧ ((T 1 p = 0 ∧ T 2 p < 100 ∧ T 3 p = 1000 ∧ T 4 p = 0) ∨ (T 1 p = 1 ∧ T 2 p = 1000 ∧ T 3 p = 1000 ∧ 2 ≤ T 4 p ∧ T 4 p ≤ 4 ∧ T 6 p < 8) ∨ ((T 1 p = 2 ∨ T 1 p = 3) ∧ T 2 p = 1000 ∧ T 3 p < 10 ∧ 2 ≤ T 4 p ∧ T 4 p ≤ 3 ∧ T 6 p < 8 ∧ T 13 (T 3 p) = T 1 p - 2 ∧ T 14 (T 3 p) = T 4 p))
def wA (T : TT) (p : Nat) : Prop := T 5 p < p ∧ T 6 p = T 6 (T 5 p) + 1 ∧ T 7 p < T 4 (T 5 p) ∧ (T 1 (T 5 p) = 1 → 1 ≤ T 8 p ∧ T 8 p ≤ 11) ∧ T 9 (4 * T 5 p + T 7 p) = p ∧ ∀ r, T 5 p < r → r < p → T 6 p ≤ T 6 r
def wS (T : TT) (n s : Nat) : Prop := T 15 s = cn T s n ∧ (0 < T 15 s → T 16 s < n ∧ T 3 (T 16 s) = s) ∧ ∀ p, p < n → T 3 p = s → T 16 s ≤ p ∧ 0 < T 15 s
def wf1 (n : Nat) (T : TT) : Prop := (∀ p, p < n → wK T p) ∧ (∀ p, p < n → 0 < p → wA T p) ∧ (0 < n → T 5 0 = 1000 ∧ T 6 0 = 0) ∧ (∀ s, s < 10 → wS T n s) ∧ so T n
theorem wK4 {T : TT} {p : Nat} (h : wK T p) : T 4 p ≤ 4 := by
  obtain ⟨h1, h2⟩ := h
  omega
theorem cn_cg {T T' : TT} {s : Nat} : ∀ n, (∀ p, p < n → T' 3 p = T 3 p) → cn T' s n = cn T s n
  | 0, _ => rfl
  | n + 1, h => by
    unfold cn
    rw [cn_cg n (fun p hp => h p (by omega)), h n (by omega)]
theorem cn_le (T : TT) (s : Nat) : ∀ n, cn T s n ≤ n
  | 0 => Nat.le_refl _
  | n + 1 => by
    unfold cn
    have := cn_le T s n
    split <;> omega
theorem hd_sum {B : Nat → Nat} {L q n a t x d : Nat} {T : TT} {s' : SS} (h : hd B L a t x d (q, n, T) = .inr s') : (s'.2.2 1 n = 0 ∧ s'.2.2 2 n < 100 ∧ s'.2.2 3 n = 1000 ∧ s'.2.2 4 n = 0 ∧ ∀ j i, 13 ≤ j → s'.2.2 j i = T j i) ∨ (s'.2.2 1 n = 1 ∧ s'.2.2 2 n = 1000 ∧ s'.2.2 3 n = 1000 ∧ 2 ≤ s'.2.2 4 n ∧ s'.2.2 4 n ≤ 4 ∧ d < 8 ∧ ∀ j i, 13 ≤ j → s'.2.2 j i = T j i) ∨ (∃ w v u, (w = 2 ∨ w = 3) ∧ s'.2.2 1 n = w ∧ s'.2.2 2 n = 1000 ∧ s'.2.2 3 n = v ∧ v < 10 ∧ s'.2.2 4 n = u ∧ 2 ≤ u ∧ u ≤ 3 ∧ d < 8 ∧ (T 13 v = 1000 ∨ T 13 v = w - 2) ∧ (T 14 v = 0 ∨ T 14 v = u) ∧ (∀ i, s'.2.2 13 i = if i = v then w - 2 else T 13 i) ∧ (∀ i, s'.2.2 14 i = if i = v then u else T 14 i) ∧ (∀ i, s'.2.2 15 i = if i = v then T 15 v + 1 else T 15 i) ∧ (∀ i, s'.2.2 16 i = if i = v then (if T 15 v = 0 then n else T 16 v) else T 16 i)) := by
  obtain ⟨hn, q', T', rfl, h1⟩ := hd_ok h
  rcases h1 with ⟨v, hv, rfl⟩ | ⟨v, h2, h4, h8, rfl⟩ | ⟨w, v, u, hw, h8, hv, hu, hu3, h13, h14, rfl⟩
  · left
    exact ⟨by simp [nod], by simp [nod, hv], by simp [nod], by simp [nod], fun j i hj => nod_big (by omega)⟩
  · right; left
    exact ⟨by simp [nod], by simp [nod], by simp [nod], by simp [nod, h2], by simp [nod, h4], h8, fun j i hj => nod_big (by omega)⟩
  · right; right
    refine ⟨w, v, u, hw, ?_, ?_, ?_, hv, ?_, hu, hu3, h8, h13, h14, fun i => ?_, fun i => ?_, fun i => ?_, fun i => ?_⟩
    · show put _ n w v u 1 n = w
      rw [put_low (by omega)]; simp [nod]
    · show put _ n w v u 2 n = 1000
      rw [put_low (by omega)]; simp [nod]
    · show put _ n w v u 3 n = v
      rw [put_low (by omega)]; simp [nod]
    · show put _ n w v u 4 n = u
      rw [put_low (by omega)]; simp [nod]
    · by_cases c : i = v <;> simp [put, c, nod_big]
    · by_cases c : i = v <;> simp [put, c, nod_big]
    · by_cases c : i = v <;> simp [put, c, nod_big]
    · by_cases c : i = v <;> simp [put, c, nod_big]
/-- where a place may be put -/
def pre (d a t x : Nat) (s : SS) : Prop := (d = 0 ∧ a = 1000 ∧ t = 0 ∧ s.2.1 = 0) ∨ (a < s.2.1 ∧ s.2.2 6 a + 1 = d ∧ t < s.2.2 4 a ∧ (s.2.2 1 a = 1 → 1 ≤ x ∧ x ≤ 11) ∧ (∀ p, p < s.2.1 → s.2.2 5 p = a → s.2.2 7 p < t) ∧ (∀ r, a < r → r < s.2.1 → d ≤ s.2.2 6 r))
theorem hd_so {B : Nat → Nat} {L q n a t x d : Nat} {T : TT} {s' : SS} (h : hd B L a t x d (q, n, T) = .inr s') (hs : so T n) : so s'.2.2 (n + 1) := by
  obtain ⟨hn, q', T', rfl, h1⟩ := hd_ok h
  rcases h1 with ⟨v, hv, rfl⟩ | ⟨v, h2, h4, h8, rfl⟩ | ⟨w, v, u, hw, h8, hv, hu, hu3, h13, h14, rfl⟩
  · exact so_nod hs
  · exact so_nod hs
  · exact so_put hs hn hw hu hu3
theorem hd_wf {B : Nat → Nat} {L q n a t x d : Nat} {T : TT} {s' : SS} (h : hd B L a t x d (q, n, T) = .inr s') (hw : wf1 n T) (hpr : pre d a t x (q, n, T)) (hd8 : d ≤ 8) : wf1 (n + 1) s'.2.2 := by
  obtain ⟨w1, w2, w3, w4, w5⟩ := hw
  obtain ⟨⟨y0, y1⟩, y2, y3, y4⟩ := hd_ext h
  obtain ⟨z1, z2, z3, z4⟩ := hd_n h
  have hn : n < 60 := (hd_ok h).1
  have hs := hd_sum h
  have ol : ∀ j p, 1 ≤ j → j ≤ 8 → p < n → s'.2.2 j p = T j p := y1
  have kn : ∀ p, p < n → wK s'.2.2 p := by
    intro p hp
    have k := w1 p hp
    unfold wK at k ⊢
    rw [ol 6 p (by omega) (by omega) hp, ol 1 p (by omega) (by omega) hp, ol 2 p (by omega) (by omega) hp, ol 3 p (by omega) (by omega) hp, ol 4 p (by omega) (by omega) hp]
    refine ⟨k.1, ?_⟩
    rcases k.2 with k | k | k
    · exact Or.inl k
    · exact Or.inr (Or.inl k)
    · right; right
      obtain ⟨k1, k2, k3, k4, k5, k6, k7, k8⟩ := k
      refine ⟨k1, k2, k3, k4, k5, k6, ?_, ?_⟩
      · rcases hs with ⟨_, _, _, _, g⟩ | ⟨_, _, _, _, _, _, g⟩ | ⟨w, v, u, g0, _, _, _, _, _, _, _, _, g1, g2, g3, g4, _, _⟩
        · rw [g 13 _ (by omega)]; exact k7
        · rw [g 13 _ (by omega)]; exact k7
        · rw [g3]
          by_cases c : T 3 p = v
          · rw [if_pos c, ← k7]; rw [c] at k7 ⊢; omega
          · rw [if_neg c]; exact k7
      · rcases hs with ⟨_, _, _, _, g⟩ | ⟨_, _, _, _, _, _, g⟩ | ⟨w, v, u, g0, _, _, _, _, _, _, _, _, g1, g2, g3, g4, _, _⟩
        · rw [g 14 _ (by omega)]; exact k8
        · rw [g 14 _ (by omega)]; exact k8
        · rw [g4]
          by_cases c : T 3 p = v
          · rw [if_pos c, ← k8]; rw [c] at k8 ⊢; omega
          · rw [if_neg c]; exact k8
  refine ⟨fun p hp => ?_, fun p hp p0 => ?_, fun _ => ?_, fun s h10 => ?_, hd_so h w5⟩
  · by_cases c : p < n
    · exact kn p c
    · have : p = n := by omega
      subst this
      refine ⟨by rw [y3]; exact hd8, ?_⟩
      rcases hs with ⟨g1, g2, g3, g4, _⟩ | ⟨g1, g2, g3, g4, g5, g6, _⟩ | ⟨w, v, u, g0, g1, g2, g3, g4, g5, g6, g7, g8, _, _, g9, g10, _, _⟩
      · exact Or.inl ⟨g1, g2, g3, g4⟩
      · exact Or.inr (Or.inl ⟨g1, g2, g3, g4, g5, by omega⟩)
      · right; right
        rw [g1, g2, g3, g5, g9, g10, if_pos rfl, if_pos rfl]
        exact ⟨g0, rfl, g4, g6, g7, by omega, rfl, rfl⟩
  · by_cases c : p < n
    · obtain ⟨a1, a2, a3, a4, a5, a6⟩ := w2 p c p0
      unfold wA
      rw [ol 5 p (by omega) (by omega) c, ol 6 p (by omega) (by omega) c, ol 7 p (by omega) (by omega) c, ol 8 p (by omega) (by omega) c, ol 6 (T 5 p) (by omega) (by omega) (by omega), ol 4 (T 5 p) (by omega) (by omega) (by omega), ol 1 (T 5 p) (by omega) (by omega) (by omega)]
      refine ⟨a1, a2, a3, a4, ?_, fun r r1 r2 => ?_⟩
      · rw [z4]
        by_cases e : a < 1000 ∧ 4 * T 5 p + T 7 p = 4 * a + t
        · exfalso
          have t4 := wK4 (w1 (T 5 p) (by omega))
          rcases hpr with ⟨_, hp', _⟩ | ⟨q1, q2, q3, q4, q5, q6⟩
          · omega
          · have t4' := wK4 (w1 a q1)
            simp only at q3 q5
            have : T 5 p = a := by omega
            have := q5 p c this
            omega
        · rw [if_neg e]; exact a5
      · rw [ol 6 r (by omega) (by omega) (by omega)]; exact a6 r r1 r2
    · have : p = n := by omega
      subst this
      rcases hpr with ⟨_, hp', _, e⟩ | ⟨q1, q2, q3, q4, q5, q6⟩
      · simp only at e; omega
      · simp only at q1 q2 q3 q4 q5 q6
        unfold wA
        rw [z1, z2, z3, y3, ol 6 a (by omega) (by omega) q1, ol 4 a (by omega) (by omega) q1, ol 1 a (by omega) (by omega) q1]
        refine ⟨q1, by omega, q3, q4, ?_, fun r r1 r2 => ?_⟩
        · rw [z4, if_pos ⟨by omega, rfl⟩]
        · rw [ol 6 r (by omega) (by omega) r2]; exact q6 r r1 r2
  · by_cases c : 0 < n
    · rw [ol 5 0 (by omega) (by omega) c, ol 6 0 (by omega) (by omega) c]; exact w3 c
    · have : n = 0 := by omega
      subst this
      rcases hpr with ⟨e1, e2, _, _⟩ | ⟨q1, _⟩
      · rw [z1, y3]; exact ⟨e2, e1⟩
      · simp only at q1; omega
  · obtain ⟨s1, s2, s3⟩ := w4 s h10
    have ecn : cn s'.2.2 s n = cn T s n := cn_cg n (fun p hp => ol 3 p (by omega) (by omega) hp)
    unfold wS cn
    rw [ecn]
    rcases hs with ⟨_, _, g3, _, g⟩ | ⟨_, _, g3, _, _, _, g⟩ | ⟨w, v, u, g0, _, _, g3, gv, _, _, _, _, _, _, _, _, g15, g16⟩
    · rw [g 15 s (by omega), g 16 s (by omega), g3, if_neg (by omega)]
      refine ⟨s1, fun hp => ?_, fun p hp e => ?_⟩
      · rw [ol 3 _ (by omega) (by omega) (s2 hp).1]; exact ⟨by have := (s2 hp).1; omega, (s2 hp).2⟩
      · by_cases c : p < n
        · rw [ol 3 p (by omega) (by omega) c] at e; exact s3 p c e
        · have : p = n := by omega
          subst this
          omega
    · rw [g 15 s (by omega), g 16 s (by omega), g3, if_neg (by omega)]
      refine ⟨s1, fun hp => ?_, fun p hp e => ?_⟩
      · rw [ol 3 _ (by omega) (by omega) (s2 hp).1]; exact ⟨by have := (s2 hp).1; omega, (s2 hp).2⟩
      · by_cases c : p < n
        · rw [ol 3 p (by omega) (by omega) c] at e; exact s3 p c e
        · have : p = n := by omega
          subst this
          omega
    · rw [g15, g16, g3]
      by_cases e : s = v
      · subst e
        rw [if_pos rfl, if_pos rfl, if_pos rfl]
        refine ⟨by omega, fun _ => ?_, fun p hp e => ⟨?_, by omega⟩⟩
        · by_cases c : T 15 s = 0
          · rw [if_pos c, g3]; exact ⟨by omega, rfl⟩
          · rw [if_neg c]
            have := s2 (by omega)
            rw [ol 3 _ (by omega) (by omega) this.1]; exact ⟨by omega, this.2⟩
        · by_cases c : T 15 s = 0
          · rw [if_pos c]
            by_cases cp : p < n
            · rw [ol 3 p (by omega) (by omega) cp] at e
              have := s3 p cp e
              omega
            · omega
          · rw [if_neg c]
            by_cases cp : p < n
            · rw [ol 3 p (by omega) (by omega) cp] at e
              exact (s3 p cp e).1
            · have := (s2 (by omega)).1
              omega
      · rw [if_neg e, if_neg e, if_neg (fun h => e h.symm)]
        refine ⟨s1, fun hp => ?_, fun p hp e2 => ?_⟩
        · rw [ol 3 _ (by omega) (by omega) (s2 hp).1]; exact ⟨by have := (s2 hp).1; omega, (s2 hp).2⟩
        · by_cases c : p < n
          · rw [ol 3 p (by omega) (by omega) c] at e2; exact s3 p c e2
          · have : p = n := by omega
            subst this
            omega
