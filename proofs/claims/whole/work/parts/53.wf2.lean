def ch (s : SS) (p k : Nat) : Prop := p < s.2.2 9 (4 * p + k) ∧ s.2.2 9 (4 * p + k) < s.2.1 ∧ s.2.2 5 (s.2.2 9 (4 * p + k)) = p ∧ s.2.2 7 (s.2.2 9 (4 * p + k)) = k
def post (d a t : Nat) (s s' : SS) : Prop := wf1 s'.2.1 s'.2.2 ∧ exE s s' ∧ s.2.1 < s'.2.1 ∧ s'.2.2 5 s.2.1 = a ∧ s'.2.2 7 s.2.1 = t ∧ (∀ p, s.2.1 ≤ p → p < s'.2.1 → (p = s.2.1 ∨ s.2.1 ≤ s'.2.2 5 p) ∧ d ≤ s'.2.2 6 p ∧ ∀ k, k < s'.2.2 4 p → ch s' p k) ∧ (∀ p k, p < s.2.1 → k < 4 → ¬ (p = a ∧ k = t) → s'.2.2 9 (4 * p + k) = s.2.2 9 (4 * p + k)) ∧ (a < 1000 → s'.2.2 9 (4 * a + t) = s.2.1)
/-- while the ways of place m, of depth d, are read; s0: as its head was read -/
def jw (d m t : Nat) (s0 s : SS) : Prop := wf1 s.2.1 s.2.2 ∧ exE s0 s ∧ m < s0.2.1 ∧ s0.2.2 6 m = d ∧ (∀ p, p < s.2.1 → s.2.2 5 p = m → s.2.2 7 p < t) ∧ (∀ k, k < t → ch s m k) ∧ (∀ p, m < p → p < s.2.1 → m ≤ s.2.2 5 p ∧ d + 1 ≤ s.2.2 6 p ∧ ∀ k, k < s.2.2 4 p → ch s p k) ∧ (∀ p k, p < m → k < 4 → s.2.2 9 (4 * p + k) = s0.2.2 9 (4 * p + k))
theorem jw_step {d m t x : Nat} {s0 s s' : SS} (h : jw d m t s0 s) (hp : post (d + 1) m t s s') (ht : t < 4) (m1 : m < 1000) : jw d m (t + 1) s0 s' := by
  obtain ⟨j1, j2, j3, j4, j5, j6, j7, j8⟩ := h
  obtain ⟨p1, p2, p3, p4, p5, p6, p7, p8⟩ := hp
  have j3' : m < s.2.1 := Nat.lt_of_lt_of_le j3 j2.1
  have ol := p2.2
  refine ⟨p1, j2.tr p2, j3, j4, fun p hp e => ?_, fun k hk => ?_, fun p hm hp => ?_, fun p k hp hk => ?_⟩
  · by_cases c : p < s.2.1
    · rw [ol 5 p (by omega) (by omega) c] at e
      rw [ol 7 p (by omega) (by omega) c]
      have := j5 p c e
      omega
    · rcases (p6 p (by omega) hp).1 with c2 | c2
      · rw [c2, p5]; omega
      · omega
  · by_cases c : k < t
    · obtain ⟨c1, c2, c3, c4⟩ := j6 k c
      have e9 := p7 m k j3' (by omega) (by omega)
      unfold ch
      rw [e9, ol 5 _ (by omega) (by omega) c2, ol 7 _ (by omega) (by omega) c2]
      exact ⟨c1, by omega, c3, c4⟩
    · have : k = t := by omega
      subst this
      have e9 := p8 m1
      unfold ch
      rw [e9]
      exact ⟨j3', p3, p4, p5⟩
  · by_cases c : p < s.2.1
    · obtain ⟨c1, c2, c3⟩ := j7 p hm c
      rw [ol 5 p (by omega) (by omega) c, ol 6 p (by omega) (by omega) c, ol 4 p (by omega) (by omega) c]
      refine ⟨c1, c2, fun k hk => ?_⟩
      obtain ⟨d1, d2, d3, d4⟩ := c3 k hk
      have k4 : k < 4 := by have := wK4 (j1.1 p c); omega
      have e9 := p7 p k c k4 (by omega)
      unfold ch
      rw [e9, ol 5 _ (by omega) (by omega) d2, ol 7 _ (by omega) (by omega) d2]
      exact ⟨d1, by omega, d3, d4⟩
    · obtain ⟨c1, c2, c3⟩ := p6 p (by omega) hp
      refine ⟨?_, c2, c3⟩
      rcases c1 with c1 | c1
      · rw [c1, p4]; exact Nat.le_refl _
      · omega
  · rw [p7 p k (by omega) hk (by omega)]
    exact j8 p k hp hk
theorem jw_pre {d m t x : Nat} {s0 s : SS} (h : jw d m t s0 s) (ht : t < s0.2.2 4 m) (hx : s0.2.2 1 m = 1 → 1 ≤ x ∧ x ≤ 11) : pre (d + 1) m t x s := by
  obtain ⟨j1, j2, j3, j4, j5, j6, j7, j8⟩ := h
  right
  refine ⟨Nat.lt_of_lt_of_le j3 j2.1, ?_, ?_, ?_, j5, fun r r1 r2 => (j7 r r1 r2).2.1⟩
  · rw [j2.2 6 m (by omega) (by omega) j3, j4]
  · rw [j2.2 4 m (by omega) (by omega) j3]; exact ht
  · rw [j2.2 1 m (by omega) (by omega) j3]; exact hx
theorem jw_fin {B : Nat → Nat} {L d a t x : Nat} {s s1 s' : SS} (hr : hd B L a t x d s = .inr s1) (h : jw d s.2.1 (s1.2.2 4 s.2.1) s1 s') : post d a t s s' := by
  obtain ⟨q, n, T⟩ := s
  obtain ⟨j1, j2, j3, j4, j5, j6, j7, j8⟩ := h
  obtain ⟨y1, y2, y3, y4⟩ := hd_ext hr
  obtain ⟨z1, z2, z3, z4⟩ := hd_n hr
  simp only at *
  have hn : n < 60 := (hd_ok hr).1
  have o := j2.2
  have hx : n < s'.2.1 := Nat.lt_of_lt_of_le j3 j2.1
  refine ⟨j1, y1.tr j2, hx, ?_, ?_, fun p h1 h2 => ?_, fun p k h1 h2 h3 => ?_, fun ha => ?_⟩
  · show s'.2.2 5 n = a
    rw [o 5 n (by omega) (by omega) j3]; exact z1
  · show s'.2.2 7 n = t
    rw [o 7 n (by omega) (by omega) j3]; exact z3
  · simp only at h1 ⊢
    by_cases c : p = n
    · subst c
      refine ⟨Or.inl rfl, ?_, ?_⟩
      · rw [o 6 p (by omega) (by omega) j3, y3]; exact Nat.le_refl _
      · rw [o 4 p (by omega) (by omega) j3]; exact j6
    · obtain ⟨c1, c2, c3⟩ := j7 p (by omega) h2
      exact ⟨Or.inr c1, by omega, c3⟩
  · simp only at h1 ⊢
    rw [j8 p k h1 h2, z4, if_neg ?_]
    intro e
    by_cases t4 : t < 4
    · omega
    · -- the place above has at most four ways
      have hA := j1.2.1 n hx
      by_cases c0 : 0 < n
      · obtain ⟨a1, a2, a3, _⟩ := hA c0
        have e5 : s'.2.2 5 n = a := by rw [o 5 n (by omega) (by omega) j3]; exact z1
        have e7 : s'.2.2 7 n = t := by rw [o 7 n (by omega) (by omega) j3]; exact z3
        rw [e5] at a1 a3
        rw [e7] at a3
        have := wK4 (j1.1 a (by omega))
        omega
      · omega
  · show s'.2.2 9 (4 * a + t) = n
    by_cases c0 : 0 < n
    · have a5 := (j1.2.1 n hx c0).2.2.2.2.1
      have e5 : s'.2.2 5 n = a := by rw [o 5 n (by omega) (by omega) j3]; exact z1
      have e7 : s'.2.2 7 n = t := by rw [o 7 n (by omega) (by omega) j3]; exact z3
      rw [e5, e7] at a5
      exact a5
    · have n0 : n = 0 := by omega
      subst n0
      have := (j1.2.2.1 hx).1
      rw [o 5 0 (by omega) (by omega) j3, z1] at this
      omega
theorem dl_wf {B : Nat → Nat} {L d m : Nat} {P : Nat → Nat → Nat → SS → RR} {s0 : SS} (hP : ∀ t x s s', P m t x s = .inr s' → wf1 s.2.1 s.2.2 → pre (d + 1) m t x s → post (d + 1) m t s s') (h4 : s0.2.2 4 m ≤ 4) (m1 : m < 1000) : ∀ k l t s s', dl B L P m k l t s = .inr s' → jw d m t s0 s → t + k = s0.2.2 4 m → jw d m (s0.2.2 4 m) s0 s'
  | 0, l, t, s, s', h, hj, hk => by
    unfold dl at h
    cases h
    rw [← hk]
    exact hj
  | k + 1, l, t, s, s', h, hj, hk => by
    unfold dl at h
    split at h
    · cases h
    · split at h
      · cases h
      · rename_i c1 c2
        cases hr : P m t (tV B L s.1) (tE B L s.1, s.2) with
        | inl e =>
          rw [hr] at h
          cases h
        | inr s2 =>
          rw [hr] at h
          have hj' : jw d m t s0 (tE B L s.1, s.2) := hj
          have p := hP t _ _ s2 hr hj.1 (jw_pre hj' (by omega) (fun _ => by omega))
          exact dl_wf hP h4 m1 k _ (t + 1) s2 s' h (jw_step (x := 0) hj' p (by omega) m1) (by omega)
theorem hl_wf {d m : Nat} {P : Nat → Nat → Nat → SS → RR} {s0 : SS} (hP : ∀ t x s s', P m t x s = .inr s' → wf1 s.2.1 s.2.2 → pre (d + 1) m t x s → post (d + 1) m t s s') (h4 : s0.2.2 4 m ≤ 4) (m1 : m < 1000) (h1 : s0.2.2 1 m ≠ 1) : ∀ k t s s', hl P m k t s = .inr s' → jw d m t s0 s → t + k = s0.2.2 4 m → jw d m (s0.2.2 4 m) s0 s'
  | 0, t, s, s', h, hj, hk => by
    unfold hl at h
    cases h
    rw [← hk]
    exact hj
  | k + 1, t, s, s', h, hj, hk => by
    unfold hl at h
    cases hr : P m t 0 s with
    | inl e =>
      rw [hr] at h
      cases h
    | inr s2 =>
      rw [hr] at h
      have p := hP t _ _ s2 hr hj.1 (jw_pre hj (by omega) (fun c => absurd c h1))
      exact hl_wf hP h4 m1 h1 k (t + 1) s2 s' h (jw_step (x := 0) hj p (by omega) m1) (by omega)
theorem pl_wf (B : Nat → Nat) (L : Nat) : ∀ f d a t x s s', pl B L f d a t x s = .inr s' → wf1 s.2.1 s.2.2 → pre d a t x s → d ≤ 8 → post d a t s s'
  | 0, d, a, t, x, s, s', h, _, _, _ => by
    unfold pl at h
    cases h
  | f + 1, d, a, t, x, s, s', h, hw, hp, hd8 => by
    unfold pl at h
    cases hr : hd B L a t x d s with
    | inl e =>
      rw [hr] at h
      cases h
    | inr s1 =>
      rw [hr] at h
      obtain ⟨y1, y2, y3, y4⟩ := hd_ext (q := s.1) (n := s.2.1) (T := s.2.2) hr
      obtain ⟨z1, z2, z3, z4⟩ := hd_n (q := s.1) (n := s.2.1) (T := s.2.2) hr
      have w1 : wf1 s1.2.1 s1.2.2 := by
        rw [y2]
        exact hd_wf (q := s.1) (n := s.2.1) (T := s.2.2) hr hw hp hd8
      have j0 : jw d s.2.1 0 s1 s1 := by
        refine ⟨w1, ⟨Nat.le_refl _, fun _ _ _ _ _ => rfl⟩, by omega, y3, fun p hp e => ?_, fun k hk => by omega, fun p h1 h2 => by omega, fun _ _ _ _ => rfl⟩
        exfalso
        by_cases c : 0 < p
        · have := (w1.2.1 p hp c).1
          omega
        · have c0 : p = 0 := by omega
          subst c0
          have := (w1.2.2.1 hp).1
          have := (hd_ok (q := s.1) (n := s.2.1) (T := s.2.2) hr).1
          omega
      apply jw_fin hr
      have h' : (if s1.2.2 1 s.2.1 = 0 then (.inr s1 : RR) else if s1.2.2 1 s.2.1 = 1 then dl B L (fun m t x s => pl B L f (d + 1) m t x s) s.2.1 (s1.2.2 4 s.2.1) 12 0 s1 else hl (fun m t x s => pl B L f (d + 1) m t x s) s.2.1 (s1.2.2 4 s.2.1) 0 s1) = .inr s' := h
      have hk := (w1.1 s.2.1 (by omega)).2
      have n6 := (hd_ok (q := s.1) (n := s.2.1) (T := s.2.2) hr).1
      by_cases w0 : s1.2.2 1 s.2.1 = 0
      · rw [if_pos w0] at h'
        have e : s1 = s' := by injection h'
        have : s1.2.2 4 s.2.1 = 0 := by omega
        rw [this, ← e]
        exact j0
      · rw [if_neg w0] at h'
        have hP : ∀ t x s2 s3, pl B L f (d + 1) s.2.1 t x s2 = .inr s3 → wf1 s2.2.1 s2.2.2 → pre (d + 1) s.2.1 t x s2 → post (d + 1) s.2.1 t s2 s3 := fun t x s2 s3 b1 b2 b3 => pl_wf B L f (d + 1) s.2.1 t x s2 s3 b1 b2 b3 (by omega)
        by_cases w1' : s1.2.2 1 s.2.1 = 1
        · rw [if_pos w1'] at h'
          exact dl_wf (P := fun m t x s => pl B L f (d + 1) m t x s) hP (by omega) (by omega) _ _ 0 s1 s' h' j0 (by omega)
        · rw [if_neg w1'] at h'
          exact hl_wf (P := fun m t x s => pl B L f (d + 1) m t x s) hP (by omega) (by omega) w1' _ 0 s1 s' h' j0 (by omega)
/-- a game: n places, T their rows -/
def wf (n : Nat) (T : TT) : Prop := wf1 n T ∧ n ≤ 60 ∧ ∀ p k, p < n → k < T 4 p → p < T 9 (4 * p + k) ∧ T 9 (4 * p + k) < n ∧ T 5 (T 9 (4 * p + k)) = p ∧ T 7 (T 9 (4 * p + k)) = k
def T0 : TT := fun j _ => if j = 13 then 1000 else 0
theorem wf1_0 : wf1 0 T0 := by
  refine ⟨fun p hp => by omega, fun p hp => by omega, fun h => by omega, fun s hs => ⟨rfl, fun h => ?_, fun p hp => by omega⟩, fun s hs => ⟨Or.inl ⟨rfl, rfl, rfl⟩, Nat.le_refl _, by show 0 ≤ 60; omega⟩⟩
  simp [T0] at h
theorem wf_0 : wf 0 T0 := ⟨wf1_0, by omega, fun p k h => by omega⟩
theorem pl_all {B : Nat → Nat} {L q : Nat} {s' : SS} (h : pl B L 12 0 1000 0 0 (q, 0, T0) = .inr s') (h60 : s'.2.1 ≤ 60) : wf s'.2.1 s'.2.2 ∧ 0 < s'.2.1 := by
  have p := pl_wf B L 12 0 1000 0 0 (q, 0, T0) s' h wf1_0 (Or.inl ⟨rfl, rfl, rfl, rfl⟩) (by omega)
  exact ⟨⟨p.1, h60, fun p' k hp hk => (p.2.2.2.2.2.1 p' (by show 0 ≤ p'; omega) hp).2.2 k hk⟩, p.2.2.1⟩
