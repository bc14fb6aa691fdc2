theorem hd_n {B : Nat → Nat} {L q n a t x d : Nat} {T : TT} {s' : SS} (h : hd B L a t x d (q, n, T) = .inr s') : s'.2.2 5 n = a ∧ s'.2.2 8 n = x ∧ s'.2.2 7 n = t ∧ (∀ i, s'.2.2 9 i = if a < 1000 ∧ i = 4 * a + t then n else T 9 i) := by
  obtain ⟨hn, q', T', rfl, h1⟩ := hd_ok h
  rcases h1 with ⟨v, _, rfl⟩ | ⟨v, _, _, _, rfl⟩ | ⟨w, v, u, _, _, _, _, _, _, _, rfl⟩
  · exact ⟨by simp [nod], by simp [nod], by simp [nod], fun i => nod_9⟩
  · exact ⟨by simp [nod], by simp [nod], by simp [nod], fun i => nod_9⟩
  · refine ⟨?_, ?_, ?_, fun i => ?_⟩
    · show put _ n w v u 5 n = a
      rw [put_low (by omega)]; simp [nod]
    · show put _ n w v u 8 n = x
      rw [put_low (by omega)]; simp [nod]
    · show put _ n w v u 7 n = t
      rw [put_low (by omega)]; simp [nod]
    · show put _ n w v u 9 i = _
      rw [put_low (by omega)]; exact nod_9
theorem m_place (B : Nat → Nat) (L : Nat) : ∀ f d a t x s σ F y, mS B L d s σ → mCC s.2.1 s.2.2 σ → d ≤ 8 → 9 ≤ f + d → (d = 0 → a = 1000 ∧ t = 0) → (0 < d → a < s.2.1 ∧ t < s.2.2 4 a ∧ s.2.2 4 a ≤ 4 ∧ σ.1 81 (d - 1) = nI (60 + a) ∧ σ.1 82 (d - 1) = nI (s.2.2 4 a - t)) → (0 < d → s.2.2 1 a = 1 → y = nI x) → 70 ≤ F + s.2.1 → mRes B L d a t s σ F (pl B L f d a t x s) (f_HM_readsAll_b96 (K46 F) y σ)
  | 0, d, a, t, x, s, σ, F, y, h, hc, hd8, hf, h0, h1, hy, hF => by omega
  | f + 1, d, a, t, x, (q, n, T), σ, F, y, h, hc, hd8, hf, h0, h1, hy, hF => by
    have hh := @m_head B L q n a t x d T σ h hd8 h0 h1
    have h51 : σ.2.2.1 51 = nI n := h.2.2.2.1
    have e60 : (60 : Int32) + nI n = nI (60 + n) := nI_add 60 n
    show mRes B L d a t (q, n, T) σ F (sb (hd B L a t x d (q, n, T)) _) _
    unfold f_HM_readsAll_b96
    cases hr : hd B L a t x d (q, n, T) with
    | inl e =>
      rw [hr] at hh
      obtain ⟨σ', x1, x2, x3, x4, x5⟩ := hh
      rw [x1, bd_s, if_neg (nI_ne0 x2 (by omega))]
      exact ⟨σ', rfl, x2, x3, x4, x5⟩
    | inr s1 =>
      rw [hr] at hh
      obtain ⟨σ2, x1, x2, x3, x4, x5, x6, x7, x8, x9, x10, x11, x12, x13, x14⟩ := hh
      obtain ⟨y1, y2, y3, y4⟩ := hd_ext hr
      obtain ⟨z1, z2, z3, z4⟩ := hd_n hr
      have hn : n < 60 := (hd_ok hr).1
      have e5 : ib (nI (60 + n)) 120 = true := ib_nI (by omega) (by decide)
      have e6 : (nI (60 + n)).toNatClampNeg = 60 + n := nI_clamp (by omega)
      rw [x1, bd_s, if_pos rfl]
      simp only [rF, h51, e60, e5, e6, ck_t, lE_d]
      have fm6 : fm σ (stA σ2 73 (60 + n) y) := x2.A (by decide) _ _ (by simp [lom])
      have ex1 : ∀ j p, 1 ≤ j → j ≤ 8 → p < n → s1.2.2 j p = T j p := y1.2
      have c6 : mCC s1.2.1 s1.2.2 (stA σ2 73 (60 + n) y) := by
        intro p p0 pn h5 hw
        rw [y2] at pn
        rw [sA1, if_pos rfl, updD]
        by_cases c : p = n
        · subst c
          rw [if_pos rfl, z2]
          rw [z1] at h5 hw
          have d0 : 0 < d := by
            rcases Nat.eq_zero_or_pos d with c | c
            · have := (h0 c).1; omega
            · exact c
          rw [ex1 1 a (by omega) (by omega) h5] at hw
          exact hy d0 hw
        · rw [if_neg (by omega), x14, ex1 8 p (by omega) (by omega) (by omega)]
          rw [ex1 5 p (by omega) (by omega) (by omega)] at h5 hw
          rw [ex1 1 (T 5 p) (by omega) (by omega) (by omega)] at hw
          exact hc p p0 (by show p < n; omega) h5 hw
      have t6 : tm B L (stA σ2 73 (60 + n) y) := x3.fr (fr.rf.A (ka := [73]) (kl := []) (kf := []) (by decide) _ _) (by decide) (by decide) (by decide) (by decide)
      have R6 : mR 60 10 s1.2.1 s1.2.2 (stA σ2 73 (60 + n) y) := by
        refine mR_cg x10 (fun j j1 j2 => ?_) ?_ ?_ ?_
        · rw [sA1, if_neg (mr_le j j1 j2).2.2.2]
        · rw [sA1, if_neg (by decide)]
        · rw [sA1, if_neg (by decide)]
        · rw [sA1, if_neg (by decide)]
      have st6 : ∀ k j, k = 81 ∨ k = 82 ∨ k = 83 → (stA σ2 73 (60 + n) y).1 k j = σ2.1 k j := by
        intro k j hk
        rw [sA1, if_neg (by omega)]
      show mRes B L d a t (q, n, T) σ F (if s1.2.2 1 n = 0 then .inr s1 else if s1.2.2 1 n = 1 then dl B L (fun m t x s => pl B L f (d + 1) m t x s) n (s1.2.2 4 n) 12 0 s1 else hl (fun m t x s => pl B L f (d + 1) m t x s) n (s1.2.2 4 n) 0 s1) (MR F FU (stA σ2 73 (60 + n) y))
      by_cases w0 : s1.2.2 1 n = 0
      · rw [if_pos w0]
        refine ⟨_, FU, F, rfl, by unfold FU; omega, by show F + s1.2.1 = F + n + 1; omega, ⟨t6, x4, x5, x6, ?_, x8, x9, R6⟩, c6, fm6, fun k j hk hj => ?_, fun j hj => ?_⟩
        · rw [if_pos w0] at x7; exact x7
        · rw [st6 k j (by omega)]; exact x12 k j hk hj
        · rw [st6 82 j (by omega)]; exact x13 j hj
      · rw [if_neg w0]
        rw [if_neg w0] at x7
        have dl8 : d < 8 := by omega
        obtain ⟨g1, g2, g3⟩ := x11 w0
        have hS : mS B L (d + 1) s1 (stA σ2 73 (60 + n) y) := ⟨t6, x4, x5, x6, x7, x8, x9, R6⟩
        have hP : ∀ t x s σ F y, mS B L (d + 1) s σ → mCC s.2.1 s.2.2 σ → n < s.2.1 → s.2.2 6 n = d → t < s.2.2 4 n → s.2.2 4 n ≤ 4 → σ.1 81 d = nI (60 + n) → σ.1 82 d = nI (s.2.2 4 n - t) → (s.2.2 1 n = 1 → y = nI x) → 70 ≤ F + s.2.1 → mRes B L (d + 1) n t s σ F (pl B L f (d + 1) n t x s) (f_HM_readsAll_b96 (K46 F) y σ) := fun t x s σ F y b1 b2 b3 b4 b5 b6 b7 b8 b9 b10 => m_place B L f (d + 1) n t x s σ F y b1 b2 (by omega) (by omega) (fun c => by omega) (fun _ => ⟨b3, b5, b6, b7, b8⟩) (fun _ => b9) b10
        have hE : ∀ t x s s', pl B L f (d + 1) n t x s = .inr s' → exE s s' := fun t x s s' hh => (pl_ext B L f (d + 1) n t x s s' hh).1
        have fin : ∀ r : RR, mRsl B L d s1 (stA σ2 73 (60 + n) y) F r (MR F FU (stA σ2 73 (60 + n) y)) → mRes B L d a t (q, n, T) σ F r (MR F FU (stA σ2 73 (60 + n) y)) := by
          intro r hr
          cases r with
          | inl e => exact mErr.tr hr fm6
          | inr s2 =>
            obtain ⟨σ3, G, F', k1, k2, k3, k4, k5, k6, k7⟩ := hr
            refine ⟨σ3, G, F', k1, k2, by show F' + s2.2.1 = F + n + 1; omega, k4, k5, fm6.tr k6, fun k j hk hj => ?_, fun j hj => ?_⟩
            · rw [k7 k j (by omega) hj, st6 k j (by omega)]; exact x12 k j hk hj
            · rw [k7 82 j (by omega) hj, st6 82 j (by omega)]; exact x13 j hj
        have hn1 : n < s1.2.1 := by omega
        have hF1 : 71 ≤ F + s1.2.1 := by have : 70 ≤ F + n := hF; omega
        by_cases w1 : s1.2.2 1 n = 1
        · rw [if_pos w1]
          apply fin
          exact m_deal (P := fun m t x s => pl B L f (d + 1) m t x s) hP hE dl8 (s1.2.2 4 n) 12 0 s1 _ F FU hS c6 hn1 y3 w1 (by omega) (by omega) (by omega) (by rw [st6 81 d (by omega)]; exact g1) (by rw [st6 82 d (by omega)]; exact g2) (by rw [st6 83 d (by omega)]; exact g3) (by unfold FU; omega) hF1
        · rw [if_neg w1]
          apply fin
          exact m_held (P := fun m t x s => pl B L f (d + 1) m t x s) hP hE dl8 (s1.2.2 4 n) 0 s1 _ F FU hS c6 hn1 y3 (by omega) (by omega) (by omega) (by rw [st6 81 d (by omega)]; exact g1) (by rw [st6 82 d (by omega)]; exact g2) (by unfold FU; omega) hF1
