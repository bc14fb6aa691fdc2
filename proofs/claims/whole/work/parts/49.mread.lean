def mHd (B : Nat → Nat) (L n d a t : Nat) (T : TT) (σ : St) (r : RR) (m : Option (Int32 × St)) : Prop := match r with
  | .inl e => ∃ σ', m = some (nI e.1, σ') ∧ 0 < e.1 ∧ e.1 ≤ 3 ∧ σ'.2.2.1 47 = nI e.2 ∧ fm σ σ'
  | .inr s => ∃ σ', m = some (0, σ') ∧ fm σ σ' ∧ tm B L σ' ∧ s.1 ≤ L ∧ σ'.2.2.1 46 = nI s.1 ∧ σ'.2.2.1 51 = nI s.2.1 ∧ σ'.2.2.1 50 = nI (if s.2.2 1 n = 0 then d else d + 1) ∧ s.2.1 ≤ 60 ∧ so s.2.2 s.2.1 ∧ mR 60 10 s.2.1 s.2.2 σ' ∧ (s.2.2 1 n ≠ 0 → σ'.1 81 d = nI (60 + n) ∧ σ'.1 82 d = nI (s.2.2 4 n) ∧ σ'.1 83 d = 0) ∧ (∀ k j, k = 81 ∨ k = 83 → j < d → σ'.1 k j = σ.1 k j) ∧ (∀ j, j < d → σ'.1 82 j = if j = d - 1 then nI (T 4 a - t - 1) else σ.1 82 j) ∧ σ'.1 73 = σ.1 73
theorem hd_w {B : Nat → Nat} {L q n a t x d : Nat} {T : TT} {s : SS} (h : hd B L a t x d (q, n, T) = .inr s) : s.2.2 1 n = tC B L q := by
  unfold hd at h
  simp only at h
  split at h
  · cases h
  · split at h
    · cases h
    · split at h
      · cases h
      · split at h
        · rename_i c
          cases h
          simp [nod, c]
        · split at h
          · rename_i c
            split at h
            · cases h
            · cases h
              simp [nod, c]
          · split at h
            · cases h
            · split at h
              · cases h
              · split at h
                · cases h
                · cases h
                  simp [nod, put]
theorem m_head {B : Nat → Nat} {L q n a t x d : Nat} {T : TT} {σ : St} (h : mS B L d (q, n, T) σ) (hd8 : d ≤ 8) (h0 : d = 0 → a = 1000 ∧ t = 0) (h1 : 0 < d → a < n ∧ t < T 4 a ∧ T 4 a ≤ 4 ∧ σ.1 81 (d - 1) = nI (60 + a) ∧ σ.1 82 (d - 1) = nI (T 4 a - t)) : mHd B L n d a t T σ (hd B L a t x d (q, n, T)) (f_HM_readsPlace σ) := by
  have hw' := @hd_w B L q n a t x d T
  obtain ⟨ht, hq, h6, h51, h50, hn60, hso, hR⟩ := h
  simp only at hq h6 h51 h50 hn60 hso hR
  obtain ⟨σ2, t1, t2, t3, t4, t5, t6, t7⟩ := m_token ht hq h6
  have hE := tE_le B hq
  have fm2 : fm σ σ2 := fm.tok t2 (by decide)
  have e21 : ∀ k, σ2.1 k = σ.1 k := fun k => t2.1 k (by simp)
  have o50 : σ2.2.2.1 50 = nI d := by rw [t2.2.2.1 50 (by decide)]; exact h50
  have o51 : σ2.2.2.1 51 = nI n := by rw [t2.2.2.1 51 (by decide)]; exact h51
  have i60 : (nI n = 60) ↔ n = 60 := nI_eq (b := 60) (by omega) (by decide)
  have i8 : (nI d = 8) ↔ d = 8 := nI_eq (b := 8) (by omega) (by decide)
  unfold f_HM_readsPlace
  rw [t1, bv_s, q_wordNow t3 hq t5 t4 t6, bd_s]
  have t8 := tC_lt B L q
  generalize hr : hd B L a t x d (q, n, T) = r
  by_cases c4 : tC B L q < 4
  · have p0 : (0 : Int32) ≤ nI (tC B L q) := nI_pos' (by omega)
    simp only [if_pos c4, if_pos p0, rF, o51, i60, o50, i8]
    have iw0 : (nI (tC B L q) = 0) ↔ tC B L q = 0 := nI_eq (b := 0) (by omega) (by decide)
    simp only [iw0]
    by_cases c3 : 60 ≤ n ∨ (8 ≤ d ∧ tC B L q ≠ 0)
    · have : r = .inl (3, tS B L q) := by
        rw [← hr]
        unfold hd
        simp only
        rw [if_neg (by omega), if_pos c3]
      subst this
      have e3 : (if n = 60 then some ((3 : Int32), σ2) else if d = 8 then if tC B L q = 0 then f_HM_readsPlace_b39 (nI (tC B L q)) σ2 else some (3, σ2) else f_HM_readsPlace_b39 (nI (tC B L q)) σ2) = some (3, σ2) := by
        by_cases c : n = 60
        · rw [if_pos c]
        · rw [if_neg c, if_pos (by omega), if_neg (by omega)]
      rw [e3]
      exact ⟨_, rfl, by simp, by simp, t4, fm2⟩
    · have e3 : (if n = 60 then some ((3 : Int32), σ2) else if d = 8 then if tC B L q = 0 then f_HM_readsPlace_b39 (nI (tC B L q)) σ2 else some (3, σ2) else f_HM_readsPlace_b39 (nI (tC B L q)) σ2) = f_HM_readsPlace_b39 (nI (tC B L q)) σ2 := by
        rw [if_neg (by omega)]
        by_cases c : d = 8
        · rw [if_pos c, if_pos (by omega)]
        · rw [if_neg c]
      rw [e3]
      have hn : n < 60 := by omega
      obtain ⟨σ3, a1, a2, a3, a4, a5, a6, a7, a8⟩ := @m_add n (tC B L q) a t x d T σ2 hn o51 o50 (by omega) hd8 h0 (fun hp => by
        obtain ⟨b1, b2, b3, b4, b5⟩ := h1 hp
        refine ⟨b1, by omega, b2, b3, ?_, by rw [e21]; exact b4, by rw [e21]; exact b5⟩
        have := hR.1 4 a (by omega) (by omega) b1
        rw [nz_lt (by omega)] at this
        rw [e21]
        exact this)
      rw [a1]
      have key := @m_b213 B L (tE B L q) n (tC B L q) a t x d T σ2 σ3 ?_ hE.2 ?_ hn a4 ?_ hd8 (by omega) (by omega) hso ?_ a5 a6 (a7 76 (by omega)) (a7 77 (by omega))
      · have hr' : r = (if tC B L (tE B L q) ≠ 4 then .inl (1, tS B L (tE B L q))
  else if tC B L q = 0 then .inr (tE B L (tE B L q), n + 1, nod T n 0 a t x d (tV B L (tE B L q)) 1000 0)
  else if tC B L q = 1 then (if tV B L (tE B L q) < 2 ∨ 4 < tV B L (tE B L q) then .inl (2, tS B L (tE B L q)) else .inr (tE B L (tE B L q), n + 1, nod T n 1 a t x d 1000 1000 (tV B L (tE B L q))))
  else if 10 ≤ tV B L (tE B L q) ∨ (T 13 (tV B L (tE B L q)) ≠ 1000 ∧ T 13 (tV B L (tE B L q)) ≠ tC B L q - 2) then .inl (2, tS B L (tE B L q))
  else if tC B L (tE B L (tE B L q)) ≠ 4 then .inl (1, tS B L (tE B L (tE B L q)))
  else if tV B L (tE B L (tE B L q)) < 2 ∨ 3 < tV B L (tE B L (tE B L q)) ∨ (T 14 (tV B L (tE B L q)) ≠ 0 ∧ T 14 (tV B L (tE B L q)) ≠ tV B L (tE B L (tE B L q))) then .inl (2, tS B L (tE B L (tE B L q)))
  else .inr (tE B L (tE B L (tE B L q)), n + 1, put (nod T n (tC B L q) a t x d 1000 (tV B L (tE B L q)) (tV B L (tE B L (tE B L q)))) n (tC B L q) (tV B L (tE B L q)) (tV B L (tE B L (tE B L q))))) := by
          rw [← hr]
          unfold hd
          simp only
          rw [if_neg (by omega), if_neg (by omega)]
        rw [← hr'] at key
        have fm3 : fm σ σ3 := fm2.tr a2
        cases r with
        | inl e =>
          obtain ⟨σ', k1, k2, k3, k4, k5⟩ := key
          exact ⟨σ', k1, k2, k3, k4, fm3.tr k5⟩
        | inr s =>
          obtain ⟨σ', k1, k2, k3, k4, k5, k6, k7, k8, k9, k10, k11, k12, k13⟩ := key
          rw [← hw' hr] at k7 k11
          refine ⟨σ', k1, fm3.tr k2, k3, k4, k5, k6, k7, k8, k9, k10, k11, fun k j hk hj => ?_, fun j hj => ?_, ?_⟩
          · rw [k12 k j (by omega) hj, a7 k (by omega), e21]
          · rw [k12 82 j (by omega) hj, a8 j, e21]
            by_cases c : j = d - 1
            · rw [if_pos (by omega), if_pos c]
            · rw [if_neg (by omega), if_neg c]
          · rw [k13, a7 73 (by omega), e21]
      · exact t3.fr a2.1 (by decide) (by decide) (by decide) (by decide)
      · rw [a3 46 (by decide)]; exact t5
      · rw [a3 50 (by decide)]; exact o50
      · obtain ⟨r1, r2, r3, r4⟩ := hR
        refine ⟨fun j p x1 x2 x3 => ?_, fun i x1 x2 => ?_, fun s x1 => ?_, fun s x1 => ?_⟩
        · rw [e21]; exact r1 j p x1 x2 x3
        · rw [e21]; exact r2 i x1 x2
        · rw [e21]; exact r3 s x1
        · rw [e21]; exact r4 s x1
  · have p0 : ¬ (0 : Int32) ≤ -1 := by decide
    simp only [if_neg c4, if_neg p0]
    have : r = .inl (1, tS B L q) := by
      rw [← hr]
      unfold hd
      simp only
      rw [if_pos (by omega)]
    subst this
    exact ⟨_, rfl, by simp, by simp, t4, fm2⟩
