theorem Sol.cg {n : Nat} {T : TT} {w : Nat} {c c' : Nat → Int64} {gf : Nat → Nat} {bs ba : Nat} {W : Nat → Int64} {b : Nat → Nat} (h : Sol T n w c gf bs ba W b) (hc : ∀ p, p < n → c p = c' p) : Sol T n w c' gf bs ba W b := ⟨fun p hp => by rw [h.1 p hp]; unfold wv; rw [hc p hp], h.2⟩
section
variable {n : Nat} {T : TT}
theorem q_b60 {s : St} {R : Nat} {D : Nat → Nat → Nat} (h : gI s n T) (hR : R < 60) (h11 : s.2.2.1 11 = nI R) (h58 : ∀ r q, r ≤ R → q < 10 → D r q < 3 ∧ s.1 58 (10 * r + q) = nI (D r q) ∧ (T 13 q ≠ 1000 → D r q < T 14 q)) (hc : ∀ w p, w < 2 → p < n → s.2.1 (59 + w) p = cnt T D w R p) : ∃ t, f_History_playOn_b60 (rR s 0) s = some t ∧ fr [52] [59, 60, 61] [11] s t ∧ rC t n T (R + 1) D := by
  obtain ⟨s1, a1, a2, a3⟩ := q_putInto (s := s) (Q := 5) (k := R) (d := D R) rfl hR (fun q hq => ⟨(h58 R q (Nat.le_refl _) hq).1, (h58 R q (Nat.le_refl _) hq).2.1⟩)
  have a2' : fr [52] [] [] s s1 := a2
  have h1 : gI s1 n T := h.fr a2' (by decide) (by decide)
  have hg1 : rR s1 0 = rR s 0 := by show s1.2.2.2 0 = s.2.2.2 0; rw [a2'.2.2.2]
  obtain ⟨s2, b1, b2, b3⟩ := q_addReach (w := 0) (R := R) (D := D) h1 (by omega) a3 (fun p hp => by rw [a2'.2.1 _ (by simp)]; exact hc 0 p (by omega) hp)
  have b2' : fr [] [61, 59] [] s1 s2 := b2
  have h2 : gI s2 n T := h1.fr b2' (by decide) (by decide)
  have hg2 : rR s2 0 = rR s 0 := by rw [← hg1]; show s2.2.2.2 0 = s1.2.2.2 0; rw [b2'.2.2.2]
  obtain ⟨s3, c1, c2, c3⟩ := q_addReach (w := 1) (R := R) (D := D) h2 (by omega) (fun q a hq ha => by rw [b2'.1 52 (by simp)]; exact a3 q a hq ha) (fun p hp => by rw [b2'.2.1 60 (by simp), a2'.2.1 _ (by simp)]; exact hc 1 p (by omega) hp)
  have c2' : fr [] [61, 60] [] s2 s3 := c2
  rw [hg1] at b1
  rw [hg2] at c1
  have b1' : f_History_addReach (rR s 0) 0 s1 = some s2 := b1
  have c1' : f_History_addReach (rR s 0) 1 s2 = some s3 := c1
  have e11 : rF s3 11 = nI R := by rw [rF, c2'.2.2.1 11 (by simp), b2'.2.2.1 11 (by simp), a2'.2.2.1 11 (by simp)]; exact h11
  have F : fr [52] [59, 60, 61] [] s s3 := ((a2'.mo (by simp) (by simp) (by simp)).tr (b2'.mo (by simp) (by simp) (by simp))).tr (c2'.mo (by simp) (by simp) (by simp))
  refine ⟨stF s3 11 (nI (R + 1)), ?_, (F.mo (fun k z => z) (fun k z => z) (by simp)).F (by simp) _, ⟨by omega, by rw [sF3, if_pos rfl], fun r q hr hq => ?_, fun w p hw hp => ?_⟩⟩
  · unfold f_History_playOn_b60
    rw [rF, h11, a1, bv_s, b1', bv_s, c1', bv_s, e11, nI_1, lE_d]
  · rw [sF1, F.1 58 (by simp)]
    exact h58 r q (by omega) hq
  · show s3.2.1 (59 + w) p = _
    have : w = 0 ∨ w = 1 := by omega
    rcases this with rfl | rfl
    · rw [c2'.2.1 59 (by simp)]; exact b3 p hp
    · exact c3 p hp
theorem q_play {s : St} {R : Nat} {D : Nat → Nat → Nat} (h : gI s n T) (hC : rC s n T R D) (hR : R < 60) (nf : ∀ w, w < 2 → ¬ fgt T n w) (h9 : s.2.2.1 9 = -1000000) (h10 : s.2.2.1 10 = -1000000) : ∃ t D', f_History_playOn (rR s 0) s = some t ∧ fr [52, 54, 55, 57, 58] [53, 56, 59, 60, 61] [11] s t ∧ rC t n T (R + 1) D' ∧ (∀ r q, r < R → D' r q = D r q) ∧ genAt T n D' R := by
  obtain ⟨r1, r2, r3, r4⟩ := hC
  have n60 := h.n60
  have l60 : rF s 11 < 60 := by rw [rF, r2]; exact nI_lt (b := 60) hR (by decide)
  unfold f_History_playOn f_History_playOn_l12
  rw [h.g, ck_t, if_pos l60]
  generalize hgE : rR s 0 = g
  obtain ⟨s1, e1, z1, z2⟩ := lp_u0 (z := fun _ _ => none) (body := f_History_playOn_b12 g) (fun k j (t : St) => k (nI j) t) (fun j t => fr [58] [] [] s t ∧ ∀ m, t.1 58 m = if 10 * R ≤ m ∧ m < 10 * R + j then 0 else s.1 58 m) 10 (fun t => if (rF t 11) ≤ 0 then (f_History_playOn_b60 g t) else (bv (f_History_noteAnswer g 0 t) fun σ4 => bv (f_History_noteAnswer g 1 σ4) fun σ6 => f_History_playOn_b60 g σ6)) (fun k j t hj hI => by
    obtain ⟨f1, f2⟩ := hI
    have t11 : rF t 11 = nI R := by rw [rF, f1.2.2.1 11 (by simp)]; exact r2
    show ∃ s', f_History_playOn_b12 g k (nI j) t = _ ∧ _
    rw [f_History_playOn_b12, if_neg (show ¬ (10 : Int32) ≤ nI j from nI_ge (b := 10) hj (by decide)), t11, show nI R * 10 + nI j = nI (10 * R + j) by rw [show (10 : Int32) = nI 10 from rfl, pk_mul, nI_add, Nat.mul_comm], ck_p (ib_nI (show 10 * R + j < 600 by omega) (by decide)), lE_d, nI_clamp (by omega), nI_1]
    refine ⟨_, rfl, f1.A (by simp) _ _, fun m => ?_⟩
    rw [sA1, if_pos rfl, updD, f2 m]
    by_cases y : m = 10 * R + j
    · rw [if_pos y, if_pos (show 10 * R ≤ m ∧ m < 10 * R + (j + 1) by omega)]
    · rw [if_neg y]
      by_cases x : 10 * R ≤ m ∧ m < 10 * R + j
      · rw [if_pos x, if_pos (show 10 * R ≤ m ∧ m < 10 * R + (j + 1) by omega)]
      · rw [if_neg x, if_neg (show ¬ (10 * R ≤ m ∧ m < 10 * R + (j + 1)) by omega)]) (fun k t hI => by
    show f_History_playOn_b12 g k (nI 10) t = _
    rw [f_History_playOn_b12, if_pos (show (10 : Int32) ≤ nI 10 by decide)]) (i := 0) (s := s) (by omega) (by omega) ⟨fr.rf, fun m => by rw [if_neg (by omega)]⟩
  have h1 : gI s1 n T := h.fr z1 (by decide) (by decide)
  have hg1 : rR s1 0 = g := by rw [← hgE]; show s1.2.2.2 0 = _; rw [z1.2.2.2]
  have s11 : s1.2.2.1 11 = nI R := by rw [z1.2.2.1 11 (by simp)]; exact r2
  have low : ∀ r q, r < R → q < 10 → s1.1 58 (10 * r + q) = nI (D r q) := fun r q hr hq => by
    rw [z2, if_neg (by omega)]
    exact (r3 r q hr hq).2.1
  -- the end, at a state with the acts d
  have fin : ∀ (u : St) (d : Nat → Nat), fr [54, 55, 57, 58] [53, 56] [] s1 u → (∀ q, q < 10 → d q < 3 ∧ u.1 58 (10 * R + q) = nI (d q) ∧ (T 13 q ≠ 1000 → d q < T 14 q)) → (∀ r q, r < R → q < 10 → u.1 58 (10 * r + q) = nI (D r q)) → ∃ t, f_History_playOn_b60 g u = some t ∧ fr [52, 54, 55, 57, 58] [53, 56, 59, 60, 61] [11] s t ∧ rC t n T (R + 1) (fun r q => if r = R then d q else D r q) := by
    intro u d hu hd hl
    have hgu : gI u n T := h1.fr hu (by decide) (by decide)
    have hg2 : rR u 0 = g := by rw [← hg1]; show u.2.2.2 0 = s1.2.2.2 0; rw [hu.2.2.2]
    obtain ⟨t, b1, b2, b3⟩ := q_b60 (s := u) (R := R) (D := fun r q => if r = R then d q else D r q) hgu hR (by rw [hu.2.2.1 11 (by simp)]; exact s11) (fun r q hr hq => by
      by_cases x : r = R
      · subst x
        simp only [if_pos]
        exact hd q hq
      · simp only [if_neg x]
        obtain ⟨y1, y2, y3⟩ := r3 r q (by omega) hq
        exact ⟨y1, hl r q (by omega) hq, y3⟩) (fun w p hw hp => by
      rw [hu.2.1 (59 + w) (by simp; omega), z1.2.1 _ (by simp), r4 w p hw hp]
      exact cnt_cg h.1 (fun r q hr hq => by simp only [if_neg (show ¬ r = R by omega)]) p hp)
    rw [hg2] at b1
    exact ⟨t, b1, ((z1.mo (by decide) (by decide) (by simp)).tr (hu.mo (by decide) (by decide) (by simp))).tr (b2.mo (by decide) (by decide) (by decide)), b3⟩
  by_cases R0 : R = 0
  · obtain ⟨t, b1, b2, b3⟩ := fin s1 (fun _ => 0) fr.rf (fun q hq => ⟨by omega, by rw [z2, if_pos (by omega)]; rfl, fun z => by have := h.so hq; omega⟩) low
    refine ⟨t, _, ?_, b2, b3, fun r q hr => by omega, fun q hq h13 => ⟨fun _ => ?_, fun z => by omega⟩⟩
    · refine e1.trans ?_
      show (if rF s1 11 ≤ 0 then _ else _) = _
      rw [if_pos (by rw [rF, s11, R0]; decide), b1]
    · simp only [if_pos]
  · obtain ⟨s2, W0, b0, c1, c2, c3, c4, c5⟩ := q_note (w := 0) (R := R) (c := cnt T D 0 R) h1 (by omega) (nf 0 (by omega)) (by rw [z1.2.2.1 9 (by simp)]; exact h9) (by rw [z1.2.2.1 10 (by simp)]; exact h10) hR s11 (fun p hp => by rw [z1.2.1 _ (by simp)]; exact r4 0 p (by omega) hp)
    have h2 : gI s2 n T := h1.fr c2 (by decide) (by decide)
    have hg2 : rR s2 0 = g := by rw [← hg1]; show s2.2.2.2 0 = s1.2.2.2 0; rw [c2.2.2.2]
    obtain ⟨s3, W1, b1, d1, d2, d3, d4, d5⟩ := q_note (w := 1) (R := R) (c := cnt T D 1 R) h2 (by omega) (nf 1 (by omega)) (by rw [c2.2.2.1 9 (by simp), z1.2.2.1 9 (by simp)]; exact h9) (by rw [c2.2.2.1 10 (by simp), z1.2.2.1 10 (by simp)]; exact h10) hR (by rw [c2.2.2.1 11 (by simp)]; exact s11) (fun p hp => by rw [c2.2.1 60 (by decide), z1.2.1 _ (by simp)]; exact r4 1 p (by omega) hp)
    rw [hg1] at c1
    rw [hg2] at d1
    obtain ⟨t, b1', b2', b3'⟩ := fin s3 (fun q => if T 13 q = 0 then b0 (T 16 q) else if T 13 q = 1 then b1 (T 16 q) else 0) (c2.tr d2) (fun q hq => by
      have so := h.so hq
      by_cases x0 : T 13 q = 0
      · simp only [if_pos x0]
        obtain ⟨y1, y2⟩ := c4 q hq x0
        refine ⟨by omega, ?_, fun _ => y2⟩
        rw [d5 (10 * R + q) (fun q' hq' hqw => by
          intro z
          have : q' = q := by omega
          rw [this, x0] at hqw
          omega)]
        exact y1
      · simp only [if_neg x0]
        by_cases x1 : T 13 q = 1
        · simp only [if_pos x1]
          obtain ⟨y1, y2⟩ := d4 q hq x1
          exact ⟨by omega, y1, fun _ => y2⟩
        · simp only [if_neg x1]
          refine ⟨by omega, ?_, fun z => by omega⟩
          have ne : ∀ w, (w = 0 ∨ w = 1) → ∀ q', q' < 10 → T 13 q' = w → 10 * R + q ≠ 10 * R + q' := by
            intro w hw q' hq' hqw z
            have : q' = q := by omega
            rw [this] at hqw
            omega
          rw [d5 _ (ne 1 (Or.inr rfl)), c5 _ (ne 0 (Or.inl rfl)), z2, if_pos (by omega)]
          rfl) (fun r q hr hq => by
      rw [d5 _ (fun q' _ _ => by omega), c5 _ (fun q' _ _ => by omega)]
      exact low r q hr hq)
    refine ⟨t, _, ?_, b2', b3', fun r q hr => by simp only [if_neg (show ¬ r = R by omega)], fun q hq h13 => ⟨fun z => absurd z R0, fun _ => ?_⟩⟩
    · refine e1.trans ?_
      show (if rF s1 11 ≤ 0 then _ else _) = _
      have c1' : f_History_noteAnswer g 0 s1 = some s2 := c1
      have d1' : f_History_noteAnswer g 1 s2 = some s3 := d1
      rw [if_neg (by rw [rF, s11]; exact nI_nle (by omega) (by omega)), c1', bv_s, d1', bv_s, b1']
    · have so := h.so hq
      have cc : ∀ w p, p < n → cnt T D w R p = cnt T (fun r q => if r = R then (if T 13 q = 0 then b0 (T 16 q) else if T 13 q = 1 then b1 (T 16 q) else 0) else D r q) w R p := fun w p hp => cnt_cg h.1 (fun r q hr hq => by simp only [if_neg (show ¬ r = R by omega)]) p hp
      by_cases x0 : T 13 q = 0
      · rw [x0]
        exact ⟨W0, b0, c3.cg (cc 0), by simp only [if_pos x0, if_pos]⟩
      · have x1 : T 13 q = 1 := by omega
        rw [x1]
        exact ⟨W1, b1, d3.cg (cc 1), by simp only [if_neg x0, if_pos x1, if_pos]⟩
/-- the class's rounds -/
theorem q_playAll : ∀ m k f R D (s : St), gI s n T → rC s n T R D → R = k → R + m ≤ 60 → m < f → (∀ w, w < 2 → ¬ fgt T n w) → s.2.2.1 9 = -1000000 → s.2.2.1 10 = -1000000 → ∃ t D', lp (fun _ _ _ => none) f_HG_rounds_b73 f (nI (R + m)) (nI k) s = some ((nI (R + m)).toInt64, t) ∧ fr [52, 54, 55, 57, 58] [53, 56, 59, 60, 61] [11] s t ∧ rC t n T (R + m) D' ∧ (∀ r q, r < R → D' r q = D r q) ∧ (∀ r, R ≤ r → r < R + m → genAt T n D' r)
  | 0, k, f + 1, R, D, s, h, hC, hk, h60, hf, nf, h9, h10 => by
    subst hk
    refine ⟨s, D, ?_, fr.rf, hC, fun _ _ _ => rfl, fun r a b => by omega⟩
    rw [lp_s, f_HG_rounds_b73, if_pos (nI_le (by omega) (by omega)), rF, hC.2.1]
    rfl
  | m + 1, k, f + 1, R, D, s, h, hC, hk, h60, hf, nf, h9, h10 => by
    subst hk
    obtain ⟨s1, D1, a1, a2, a3, a4, a5⟩ := q_play h hC (by omega) nf h9 h10
    have h1 : gI s1 n T := h.fr a2 (by decide) (by decide)
    obtain ⟨t, D2, b1, b2, b3, b4, b5⟩ := q_playAll m (R + 1) f (R + 1) D1 s1 h1 a3 rfl (by omega) (by omega) nf (by rw [a2.2.2.1 9 (by decide)]; exact h9) (by rw [a2.2.2.1 10 (by decide)]; exact h10)
    rw [show R + 1 + m = R + (m + 1) by omega] at b1 b3 b5
    refine ⟨t, D2, ?_, a2.tr b2, b3, fun r q hr => by rw [b4 r q (by omega), a4 r q hr], fun r hr1 hr2 => ?_⟩
    · rw [lp_s, f_HG_rounds_b73, if_neg (nI_ge (by omega) (by omega)), a1, bv_s, nI_1]
      exact b1
    · by_cases x : r = R
      · subst x
        intro q hq h13
        obtain ⟨g1, g2⟩ := a5 q hq h13
        refine ⟨fun z => by rw [b4 r q (by omega)]; exact g1 z, fun z => ?_⟩
        obtain ⟨W, b, w1, w2⟩ := g2 z
        refine ⟨W, b, w1.cg (fun p hp => cnt_cg h.1 (fun r' q' hr' _ => (b4 r' q' (by omega)).symm) p hp), by rw [b4 r q (by omega)]; exact w2⟩
      · exact b5 r (by omega) hr2
/-! the reference's -/
theorem q_against {s : St} {w R : Nat} {D : Nat → Nat → Nat} (h : gI s n T) (hw : w < 2) (nf : ¬ fgt T n w) (hR : R ≤ 60) (hM : rM s T R D) (hD : ∀ r q, r < R → q < 10 → T 13 q ≠ 1000 → D r q < 3) : ∃ t W b, f_HM_againstRounds (nI w) s = some (W 0, t) ∧ fr scA scL scF s t ∧ Sol T n w (cnt T D w R) (gmS T) 1000 1000 W b ∧ (∀ p, p < n → T 1 p = 2 + w → t.1 88 (gmS T p) = nI (b p)) := by
  have n60 := h.n60
  obtain ⟨s1, a1, a2, a3, a4, a5⟩ := q_layGroups h
  have f1 : fr scA scL scF s s1 := a2.mo (by decide) (by decide) (by decide)
  have h1 := h.sc f1
  -- counts 0
  obtain ⟨s2, e2, z1, z2⟩ := lp_u0 (z := fun _ _ _ => none) (body := f_HM_againstRounds_b6) (fun k j (t : St) => k (nI w) (nI j) t) (fun j t => fr [] [85] [] s1 t ∧ ∀ p, p < j → t.2.1 85 p = 0) n (fun t => f_HM_againstRounds_l29 (nI w) 0 t) (fun k j t hj hI => by
    obtain ⟨g1, g2⟩ := hI
    have ht : gI t n T := h1.fr g1 (by decide) (by decide)
    show ∃ s', f_HM_againstRounds_b6 k (nI w) (nI j) t = _ ∧ _
    rw [f_HM_againstRounds_b6, if_neg (by rw [ht.c2]; exact nI_ge hj (by omega)), ck_p (ib_nI (show j < 60 by omega) (by decide)), lE_d, nI_clamp (by omega), nI_1]
    refine ⟨_, rfl, g1.L (by simp) _ _, fun p hp => ?_⟩
    rw [sL2, if_pos rfl, updLD]
    by_cases x : p = j
    · rw [if_pos x]
    · rw [if_neg x]; exact g2 p (by omega)) (fun k t hI => by
    have ht : gI t n T := h1.fr hI.1 (by decide) (by decide)
    show f_HM_againstRounds_b6 k (nI w) (nI n) t = _
    rw [f_HM_againstRounds_b6, if_pos (by rw [ht.c2]; exact nI_le (Nat.le_refl _) (by omega))]) (i := 0) (s := s1) (by omega) (Nat.zero_le _) ⟨fr.rf, fun p hp => by omega⟩
  have h2 : gI s2 n T := h1.fr z1 (by decide) (by decide)
  obtain ⟨s3, e3, y1, y2⟩ := lp_u0 (z := fun _ _ _ => none) (body := f_HM_againstRounds_b29) (fun k r (t : St) => k (nI w) (nI r) t) (fun r t => fr [] [84, 85] [] s2 t ∧ ∀ p, p < n → t.2.1 85 p = cnt T D w r p) R (fun t => bd (f_HM_answerBy (nI w) t) fun r4 σ3 => some (r4, σ3)) (fun k r t hr hI => by
    obtain ⟨g1, g2⟩ := hI
    have ht : gI t n T := h2.fr g1 (by decide) (by decide)
    have e79 : t.1 79 = s.1 79 := by rw [g1.1 79 (by simp), z1.1 79 (by simp), a2.1 79 (by simp)]
    have e44 : rF t 44 = nI R := by rw [rF, g1.2.2.1 44 (by simp), z1.2.2.1 44 (by simp), a2.2.2.1 44 (by decide)]; exact hM.1
    obtain ⟨t1, b1, b2, b3⟩ := q_layReach (x1 := nI w) (x3 := nI r) (pt := prt T (rsh D r) w) ht (fun u k1 k2 p p0 hp => q_shareTo (ht.L k1 k2) (hxw hw) (Or.inr ⟨r, D, by omega, rfl, rfl, fun q hq h13 => ⟨hD r q hr hq h13, by rw [k1, e79]; exact hM.2 r q hr hq h13⟩⟩) p0 hp)
    have ht1 : gI t1 n T := ht.fr b2 (by decide) (by decide)
    -- add
    obtain ⟨t2, c1, c2, c3, c4⟩ := lp_u0 (z := fun _ _ _ _ => none) (body := f_HM_againstRounds_b45 k) (fun k2 j (u : St) => k2 (nI w) (nI r) (nI j) u) (fun j u => fr [] [85] [] t1 u ∧ (∀ p, p < j → u.2.1 85 p = cnt T D w (r + 1) p) ∧ (∀ p, j ≤ p → u.2.1 85 p = t1.2.1 85 p)) n (fun u => k (nI w) (nI (r + 1)) u) (fun k2 j u hj hI => by
      obtain ⟨f1, f2, f3⟩ := hI
      have hu : gI u n T := ht1.fr f1 (by decide) (by decide)
      have b1' : ib (nI j) 60 = true := ib_nI (by omega) (by decide)
      have v1 : rL u 85 (nI j) = cnt T D w r j := by
        rw [rL, nI_clamp (by omega), f3 j (Nat.le_refl _), b2.2.1 85 (by decide)]
        exact g2 j hj
      have v2 : rL u 84 (nI j) = rc T (prt T (rsh D r) w) j := by
        rw [rL, nI_clamp (by omega), f1.2.1 84 (by decide)]
        exact b3 j hj
      show ∃ s', f_HM_againstRounds_b45 k k2 (nI w) (nI r) (nI j) u = _ ∧ _
      rw [f_HM_againstRounds_b45, if_neg (by rw [hu.c2]; exact nI_ge hj (by omega)), ck_p b1', ck_p b1', ck_p b1', v1, v2, lE_d, nI_clamp (by omega), nI_1]
      refine ⟨_, rfl, f1.L (by simp) _ _, fun p hp => ?_, fun p hp => ?_⟩
      · rw [sL2, if_pos rfl, updLD]
        by_cases x : p = j
        · rw [if_pos x, x]; rfl
        · rw [if_neg x]; exact f2 p (by omega)
      · rw [sL2, if_pos rfl, updLD, if_neg (by omega)]; exact f3 p (by omega)) (fun k2 u hI => by
      have hu : gI u n T := ht1.fr hI.1 (by decide) (by decide)
      show f_HM_againstRounds_b45 k k2 (nI w) (nI r) (nI n) u = _
      rw [f_HM_againstRounds_b45, if_pos (by rw [hu.c2]; exact nI_le (Nat.le_refl _) (by omega)), nI_1]) (i := 0) (s := t1) (by omega) (Nat.zero_le _) ⟨fr.rf, fun p hp => by omega, fun p _ => rfl⟩
    refine ⟨t2, ?_, (g1.tr (b2.mo (by simp) (by decide) (by simp))).tr (c2.mo (by simp) (by decide) (by simp)), c3⟩
    show f_HM_againstRounds_b29 k (nI w) (nI r) t = _
    rw [f_HM_againstRounds_b29, e44, if_neg (nI_ge hr (by omega)), b1, bv_s]
    exact c1) (fun k t hI => by
    have e44 : rF t 44 = nI R := by rw [rF, hI.1.2.2.1 44 (by simp), z1.2.2.1 44 (by simp), a2.2.2.1 44 (by decide)]; exact hM.1
    show f_HM_againstRounds_b29 k (nI w) (nI R) t = _
    rw [f_HM_againstRounds_b29, e44, if_pos (nI_le (Nat.le_refl _) (by omega))]) (i := 0) (s := s2) (by omega) (Nat.zero_le _) ⟨fr.rf, fun p hp => z2 p hp⟩
  have fs3 : fr scA scL scF s s3 := (f1.tr (z1.mo (by simp) (by decide) (by simp))).tr (y1.mo (by simp) (by decide) (by simp))
  have hMB : MB 1000 1000 (gmS T) (cnt T D w R) n T s3 := by
    refine ⟨h.sc fs3, fun p hp => ?_, y2, ?_, ?_⟩
    · rw [y1.1 86 (by simp), z1.1 86 (by simp)]; exact a3 p hp
    · rw [y1.2.2.1 52 (by simp), z1.2.2.1 52 (by simp)]; exact a4
    · rw [y1.2.2.1 53 (by simp), z1.2.2.1 53 (by simp)]; exact a5
  obtain ⟨t, W, b, c1, c2, c3, c4⟩ := q_answerBy (w := w) hMB hw (by omega) (by omega) (gmS_ok h.1 hw nf) (cnt_bnd h.1 D w hR)
  refine ⟨t, W, b, ?_, fs3.tr (c2.mo (by decide) (by decide) (by simp)), c3, c4⟩
  unfold f_HM_againstRounds f_HM_againstRounds_l6
  rw [a1, bv_s]
  refine e2.trans ?_
  refine e3.trans ?_
  show (bd (f_HM_answerBy (nI w) s3) fun r4 σ3 => some (r4, σ3)) = _
  rw [c1, bd_s]
end
