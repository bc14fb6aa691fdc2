def kaR : List Nat := 79 :: scA
section
variable {n : Nat} {T : TT}
theorem q_l82 {u : St} {w R : Nat} {v : Nat → Nat} (h : gI u n T) (hw : w < 2) (hR : R < 60) (h44 : u.2.2.1 44 = nI R) (hv : ∀ q, q < 10 → T 13 q = w → (R = 0 → v q = 0) ∧ (0 < R → u.1 88 q = nI (v q))) (k61 : Int32 → Int32 → Int32 → St → Option (Int64 × St)) (x1 x2 : Int32) : ∃ t, f_HM_rounds_l82 k61 x1 x2 (nI w) 0 u = k61 x1 x2 (nI (w + 1)) t ∧ fr [79] [] [] u t ∧ (∀ q, q < 10 → T 13 q = w → t.1 79 (10 * R + q) = nI (v q)) ∧ (∀ m, (∀ q, q < 10 → T 13 q = w → m ≠ 10 * R + q) → t.1 79 m = u.1 79 m) := by
  unfold f_HM_rounds_l82
  obtain ⟨t, e, i1, i2, i3⟩ := lp_u0 (z := fun _ _ _ _ _ => none) (body := f_HM_rounds_b82 k61) (fun k q (t : St) => k x1 x2 (nI w) (nI q) t) (fun j t => fr [79] [] [] u t ∧ (∀ q, q < j → T 13 q = w → t.1 79 (10 * R + q) = nI (v q)) ∧ (∀ m, (∀ q, q < 10 → T 13 q = w → m ≠ 10 * R + q) → t.1 79 m = u.1 79 m)) 10 (fun t => k61 x1 x2 (nI (w + 1)) t) (fun k q t hq hI => by
    obtain ⟨f1, f2, f3⟩ := hI
    have ht : gI t n T := h.fr f1 (by decide) (by decide)
    have so := h.so hq
    have b2 : ib (nI q) 20 = true := ib_nI (by omega) (by decide)
    have b6 : ib (nI q) 60 = true := ib_nI (by omega) (by decide)
    have t44 : rF t 44 = nI R := by rw [rF, f1.2.2.1 44 (by simp)]; exact h44
    have ix : 10 * nI R + nI q = nI (10 * R + q) := by rw [show (10 : Int32) = nI 10 from rfl, pk_mul, nI_add]
    have e0 : (nI R = 0) ↔ R = 0 := nI_eq (b := 0) (by omega) (by decide)
    have ep : (rI t 76 (nI q) = nI w) ↔ T 13 q = w := by
      rw [ht.P hq]
      by_cases x : T 13 q = 1000
      · rw [if_pos x]
        exact ⟨fun z => by have := (hxM w hw).mp z.symm; omega, fun z => by omega⟩
      · rw [if_neg x]
        exact nI_eq (by omega) (by omega)
    show ∃ s', f_HM_rounds_b82 k61 k x1 x2 (nI w) (nI q) t = _ ∧ _
    rw [f_HM_rounds_b82, if_neg (show ¬ (10 : Int32) ≤ nI q from nI_ge (b := 10) hq (by decide)), ck_p b2, t44, ix, ck_p b6]
    unfold f_HM_rounds_b132 f_HM_rounds_b133
    rw [ck_p (ib_nI (show 10 * R + q < 600 by omega) (by decide)), lE_d, ck_p (ib_nI (show 10 * R + q < 600 by omega) (by decide)), lE_d, nI_clamp (by omega), nI_1]
    by_cases x : T 13 q = w
    · obtain ⟨v1, v2⟩ := hv q hq x
      have put : ∀ y : Int32, y = nI (v q) → fr [79] [] [] u (stA t 79 (10 * R + q) y) ∧ (∀ q', q' < q + 1 → T 13 q' = w → (stA t 79 (10 * R + q) y).1 79 (10 * R + q') = nI (v q')) ∧ (∀ m, (∀ q, q < 10 → T 13 q = w → m ≠ 10 * R + q) → (stA t 79 (10 * R + q) y).1 79 m = u.1 79 m) := by
        intro y hy
        refine ⟨f1.A (by simp) _ _, fun q' hq' hqw => ?_, fun m hm => ?_⟩
        · rw [sA1, if_pos rfl, updD]
          by_cases z : q' = q
          · rw [if_pos (by omega), hy, z]
          · rw [if_neg (by omega)]; exact f2 q' (by omega) hqw
        · rw [sA1, if_pos rfl, updD, if_neg (hm q hq x)]; exact f3 m hm
      rw [if_pos (ep.mpr x)]
      by_cases y : R = 0
      · rw [if_pos (e0.mpr y)]
        exact ⟨_, rfl, put 0 (by rw [v1 y]; rfl)⟩
      · rw [if_neg (fun z => y (e0.mp z))]
        exact ⟨_, rfl, put _ (by rw [rI, nI_clamp (by omega), f1.1 88 (by simp)]; exact v2 (by omega))⟩
    · rw [if_neg (fun z => x (ep.mp z))]
      refine ⟨_, rfl, f1, fun q' hq' hqw => ?_, f3⟩
      by_cases z : q' = q
      · rw [z] at hqw; exact absurd hqw x
      · exact f2 q' (by omega) hqw) (fun k t hI => by
    show f_HM_rounds_b82 k61 k x1 x2 (nI w) (nI 10) t = _
    rw [f_HM_rounds_b82, if_pos (show (10 : Int32) ≤ nI 10 by decide), nI_1]) (i := 0) (s := u) (by omega) (by omega) ⟨fr.rf, fun q hq => by omega, fun m _ => rfl⟩
  exact ⟨t, e, i1, i2, i3⟩
theorem q_who {s : St} {w R : Nat} {D : Nat → Nat → Nat} (h : gI s n T) (hw : w < 2) (nf : ¬ fgt T n w) (hR : R < 60) (hM : rM s T R D) (hD : ∀ r q, r < R → q < 10 → T 13 q ≠ 1000 → D r q < 3) (hgen : genAt T n D R) (k45 : Int32 → Int32 → St → Option (Int64 × St)) (k61 : Int32 → Int32 → Int32 → St → Option (Int64 × St)) (x1 x2 : Int32) : ∃ t, f_HM_rounds_b61 k45 k61 x1 x2 (nI w) s = k61 x1 x2 (nI (w + 1)) t ∧ fr kaR scL scF s t ∧ (∀ q, q < 10 → T 13 q = w → t.1 79 (10 * R + q) = nI (D R q)) ∧ (∀ m, (∀ q, q < 10 → T 13 q = w → m ≠ 10 * R + q) → t.1 79 m = s.1 79 m) := by
  have w2 : ¬ (2 : Int32) ≤ nI w := nI_ge (b := 2) hw (by decide)
  rw [f_HM_rounds_b61, if_neg w2]
  unfold f_HM_rounds_b79
  by_cases R0 : R = 0
  · rw [if_pos (by rw [rF, hM.1, R0]; decide)]
    obtain ⟨t, a1, a2, a3, a4⟩ := q_l82 (v := D R) h hw hR hM.1 (fun q hq hqw => ⟨fun z => (hgen q hq (by omega)).1 z, fun z => by omega⟩) k61 x1 x2
    exact ⟨t, a1, a2.mo (by decide) (by simp) (by simp), a3, a4⟩
  · rw [if_neg (by rw [rF, hM.1]; exact nI_nle (by omega) (by omega))]
    obtain ⟨u, W, b, c1, c2, c3, c4⟩ := q_against h hw nf (by omega) hM hD
    have hu := h.sc c2
    obtain ⟨t, a1, a2, a3, a4⟩ := q_l82 (v := D R) hu hw hR (by rw [c2.2.2.1 44 (by decide)]; exact hM.1) (fun q hq hqw => ⟨fun z => absurd z R0, fun z => by
      obtain ⟨f1, f2, f3, f4, f5⟩ := set_first h hq (by omega)
      rw [hqw] at f3
      obtain ⟨W', b', g1, g2⟩ := (hgen q hq (by omega)).2 z
      rw [hqw] at g1
      have un := (Sol.uniq h.1 hw (fun _ _ => rfl) (gr_grOk h.1 hw nf) (fun p q hp hq h1 h2 => gmS_eq h.1 hw hp hq h1 h2) g1 c3 (T 16 q) f1).2 f3
      have := c4 (T 16 q) f1 f3
      rw [f5] at this
      rw [this, g2, un]⟩) k61 x1 x2
    rw [c1, bd_s]
    refine ⟨t, a1, (c2.mo (fun k z => List.mem_cons_of_mem _ z) (fun k z => z) (fun k z => z)).tr (a2.mo (by decide) (by simp) (by simp)), a3, fun m hm => ?_⟩
    rw [a4 m hm, c2.1 79 (by decide)]
theorem q_mround {s : St} {R : Nat} {D : Nat → Nat → Nat} (h : gI s n T) (nf : ∀ w, w < 2 → ¬ fgt T n w) (hR : R < 60) (hM : rM s T R D) (hD : ∀ r q, r < R → q < 10 → T 13 q ≠ 1000 → D r q < 3) (hgen : genAt T n D R) (k45 : Int32 → Int32 → St → Option (Int64 × St)) (x1 x2 : Int32) : ∃ t, f_HM_rounds_l61 k45 x1 x2 0 s = k45 x1 (x2 + 1) t ∧ fr kaR scL (44 :: scF) s t ∧ rM t T (R + 1) D := by
  unfold f_HM_rounds_l61
  obtain ⟨t, e, i1, i2, i3⟩ := lp_u0 (z := fun _ _ _ _ => none) (body := f_HM_rounds_b61 k45) (fun k w (t : St) => k x1 x2 (nI w) t) (fun j t => fr kaR scL scF s t ∧ (∀ q, q < 10 → T 13 q < j → t.1 79 (10 * R + q) = nI (D R q)) ∧ (∀ m, m < 10 * R → t.1 79 m = s.1 79 m)) 2 (fun t => k45 x1 (x2 + 1) (stF t 44 (t.2.2.1 44 + 1))) (fun k w t hw hI => by
    obtain ⟨f1, f2, f3⟩ := hI
    have ht : gI t n T := h.fr f1 (by decide) (by decide)
    have hMt : rM t T R D := ⟨by rw [f1.2.2.1 44 (by decide)]; exact hM.1, fun r q hr hq h13 => by rw [f3 _ (by omega)]; exact hM.2 r q hr hq h13⟩
    obtain ⟨t', a1, a2, a3, a4⟩ := q_who ht hw (nf w hw) hR hMt hD hgen k45 k x1 x2
    refine ⟨t', a1, f1.tr a2, fun q hq hqw => ?_, fun m hm => ?_⟩
    · by_cases x : T 13 q = w
      · exact a3 q hq x
      · rw [a4 _ (fun q' hq' hqw' z => x (by rw [show q = q' by omega]; exact hqw'))]
        exact f2 q hq (by omega)
    · rw [a4 m (fun q' _ _ => by omega)]
      exact f3 m hm) (fun k t hI => by
    show f_HM_rounds_b61 k45 k x1 x2 (nI 2) t = _
    rw [f_HM_rounds_b61, if_pos (show (2 : Int32) ≤ nI 2 by decide), lE_d]) (i := 0) (s := s) (by omega) (by omega) ⟨fr.rf, fun q hq hqw => by omega, fun m _ => rfl⟩
  have e44 : t.2.2.1 44 = nI R := by rw [i1.2.2.1 44 (by decide)]; exact hM.1
  refine ⟨stF t 44 (t.2.2.1 44 + 1), e, (i1.mo (fun k z => z) (fun k z => z) (fun k z => List.mem_cons_of_mem _ z)).F (by simp) _, ⟨by rw [sF3, if_pos rfl, e44, nI_1], fun r q hr hq h13 => ?_⟩⟩
  rw [sF1]
  by_cases x : r = R
  · rw [x]
    have so := h.so hq
    exact i2 q hq (by omega)
  · rw [i3 _ (by omega)]
    exact hM.2 r q (by omega) hq h13
theorem q_mAll {N : Nat} {D : Nat → Nat → Nat} (hN : N ≤ 60) : ∀ m k f R (s : St), gI s n T → (∀ w, w < 2 → ¬ fgt T n w) → k + m ≤ N → (k + m = N ∨ R + m = 60) → R + m ≤ 60 → m < f → rM s T R D → (∀ r q, r < R + m → q < 10 → T 13 q ≠ 1000 → D r q < 3) → (∀ r, R ≤ r → r < R + m → genAt T n D r) → ∃ t, lp (fun _ _ _ => none) f_HM_rounds_b45 f (nI N) (nI k) s = some ((nI (R + m)).toInt64, t) ∧ fr kaR scL (44 :: scF) s t ∧ rM t T (R + m) D
  | 0, k, f + 1, R, s, h, nf, h1, h2, h3, hf, hM, hD, hgen => by
    refine ⟨s, ?_, fr.rf, hM⟩
    rw [lp_s, f_HM_rounds_b45]
    unfold f_HM_rounds_b161
    rw [rF, hM.1]
    by_cases x : N ≤ k
    · rw [if_pos (nI_le (by omega) (by omega))]; rfl
    · rw [if_neg (nI_ge (by omega) (by omega)), if_pos (show (60 : Int32) ≤ nI R from nI_le (a := 60) (by omega) (by omega))]; rfl
  | m + 1, k, f + 1, R, s, h, nf, h1, h2, h3, hf, hM, hD, hgen => by
    obtain ⟨s1, a1, a2, a3⟩ := q_mround h nf (by omega) hM (fun r q hr => hD r q (by omega)) (hgen R (Nat.le_refl _) (by omega)) (lp (fun _ _ _ => none) f_HM_rounds_b45 f) (nI N) (nI k)
    have hs1 : gI s1 n T := h.fr a2 (by decide) (by decide)
    obtain ⟨t, b1, b2, b3⟩ := q_mAll hN m (k + 1) f (R + 1) s1 hs1 nf (by omega) (by omega) (by omega) (by omega) a3 (fun r q hr => hD r q (by omega)) (fun r x y => hgen r (by omega) (by omega))
    rw [show R + 1 + m = R + (m + 1) by omega] at b1 b3
    refine ⟨t, ?_, a2.tr b2, b3⟩
    rw [lp_s, f_HM_rounds_b45, if_neg (nI_ge (by omega) (by omega)), rF, hM.1, if_neg (show ¬ (60 : Int32) ≤ nI R from nI_ge (b := 60) (by omega) (by decide)), a1, nI_1]
    exact b1
end
theorem st_rounds (x1 : Int32) {σ : St} (hI : Inv σ) : stq (f_HG_rounds x1) (f_HM_rounds x1) σ := by
  have hI0 := hI
  obtain ⟨⟨a1, a2, a3, a4, n, T, sh, R, D, hg, hp, hr⟩, b, c⟩ := hI
  have e0 : ∀ s, f_HM_in x1.toInt64 1 60 s = some (if x1 < 1 ∨ (61 : Int32) ≤ x1 then 0 else 1, s) := fun s => q_HM_inN x1 1 60 (by decide) (by decide) s
  have le60 : x1 ≤ 60 ↔ ¬ (61 : Int32) ≤ x1 := by
    have h3 : (61 : Int32).toInt = 61 := by decide
    have h2 : (60 : Int32).toInt = 60 := by decide
    rw [fa_le, fa_le, h2, h3]
    omega
  unfold stq f_HG_rounds f_HM_rounds
  by_cases c1 : x1 < 1
  · rw [if_pos c1]
    refine ⟨_, σ, σ, rfl, ?_, hI0⟩
    rw [e0, bd_s, if_pos (Or.inl c1), if_pos rfl]
  · rw [if_neg c1]
    by_cases c2 : (61 : Int32) ≤ x1
    · rw [if_neg (fun z => le60.mp z c2)]
      refine ⟨_, σ, σ, rfl, ?_, hI0⟩
      rw [e0, bd_s, if_pos (Or.inr c2), if_pos rfl]
    · rw [if_pos (le60.mpr c2), q_hasGame hg, bd_s]
      have nn : ¬ (x1 < 1 ∨ (61 : Int32) ≤ x1) := fun z => z.elim c1 c2
      obtain ⟨N, hN, hN1, rfl⟩ : ∃ N, N ≤ 60 ∧ 1 ≤ N ∧ x1 = nI N := by
        have p0 : ¬ x1 < 0 := by
          intro z
          apply c1
          rw [fa_lt] at z ⊢
          have h1 : (1 : Int32).toInt = 1 := by decide
          have h0 : (0 : Int32).toInt = 0 := by decide
          omega
        obtain ⟨k, hk, e⟩ := ixn (x := x1) (n := 61) (by decide) (fun z => z.elim p0 c2)
        refine ⟨k, by omega, ?_, e⟩
        rcases Nat.eq_zero_or_pos k with z | z
        · exact absurd (by rw [e, z]; decide) c1
        · exact z
      have MF : ∀ s, gI s n T → (bd (f_HM_in (nI N).toInt64 1 60 s) fun r3 σ2 => if r3 = 0 then (some ((-9000000000000000001), σ2)) else (if (rF σ2 43) = 0 then (some ((-9000000000000000002), σ2)) else (bd (f_HM_isForgetful 0 σ2) fun r8 σ7 => if r8 = 0 then (bd (f_HM_isForgetful 1 σ7) fun r12 σ11 => if r12 = 0 then (f_HM_rounds_l45 (nI N) 0 σ11) else (some ((-9000000000000000002), σ11))) else (some ((-9000000000000000002), σ7))))) = (if n = 0 then (some ((-9000000000000000002), s)) else (bd (f_HM_isForgetful (nI 0) s) fun r8 σ7 => if r8 = 0 then (bd (f_HM_isForgetful (nI 1) σ7) fun r12 σ11 => if r12 = 0 then (f_HM_rounds_l45 (nI N) 0 σ11) else (some ((-9000000000000000002), σ11))) else (some ((-9000000000000000002), σ7)))) := by
        intro s hs
        rw [e0, bd_s, if_neg nn, if_neg i10]
        by_cases n0 : n = 0
        · rw [if_pos ((n0_M hs).mpr n0), if_pos n0]
        · rw [if_neg (fun z => n0 ((n0_M hs).mp z)), if_neg n0]
          rfl
      by_cases n0 : n = 0
      · rw [if_pos n0, if_pos rfl]
        refine ⟨_, σ, σ, rfl, ?_, hI0⟩
        rw [MF σ hg, if_pos n0]
      · rw [if_neg n0, if_neg i10, hg.g, ck_t, ck_p (show ib 0 2 = true by decide), ck_p (show ib 1 2 = true by decide)]
        have q0 := q_forC hg (w := 0) (by omega)
        have q1 := q_forC hg (w := 1) (by omega)
        have i0 : rI σ (rR σ 0 + 17) 0 = rI σ (rR σ 0 + 17) (nI 0) := rfl
        have i1 : rI σ (rR σ 0 + 17) 1 = rI σ (rR σ 0 + 17) (nI 1) := rfl
        rw [i0, i1]
        rcases q0 with ⟨f0, g0⟩ | ⟨f0, g0⟩
        · rw [g0, if_neg i10]
          refine ⟨_, σ, σ, rfl, ?_, hI0⟩
          rw [MF σ hg, if_neg n0, (q_forM hg (w := 0) (by omega)).1 f0, bd_s, if_neg i10]
        · rw [g0, if_pos rfl]
          rcases q1 with ⟨f1, g1⟩ | ⟨f1, g1⟩
          · rw [g1, if_neg i10]
            refine ⟨_, σ, σ, rfl, ?_, hI0⟩
            rw [MF σ hg, if_neg n0, (q_forM hg (w := 0) (by omega)).2 f0, bd_s, if_pos rfl, (q_forM hg (w := 1) (by omega)).1 f1, bd_s, if_neg i10]
          · rw [g1, if_pos rfl]
            obtain ⟨rC0, rM0, _⟩ := rdI_iff.mp hr
            have R60 := rC0.1
            have nf : ∀ w, w < 2 → ¬ fgt T n w := fun w hw => by
              have : w = 0 ∨ w = 1 := by omega
              rcases this with rfl | rfl
              · exact f0
              · exact f1
            obtain ⟨m, hm⟩ : ∃ m, m = min N (60 - R) := ⟨_, rfl⟩
            have unt : (if (rF σ 11 + nI N) < 60 then (rF σ 11 + nI N) else 60) = nI (R + m) := by
              rw [rF, rC0.2.1, nI_add]
              have e : (nI (R + N) < 60) ↔ R + N < 60 := nI_ltI (b := 60) (by omega) (by decide)
              by_cases x : R + N < 60
              · rw [if_pos (e.mpr x), show R + m = R + N by omega]
              · rw [if_neg (fun z => x (e.mp z)), show R + m = 60 by omega]; rfl
            obtain ⟨σ1, D1, p1, p2, p3, p4, p5⟩ := q_playAll m R FU R D σ hg rC0 rfl (by omega) (by unfold FU; omega) nf a3.1 a3.2
            have hg1 : gI σ1 n T := hg.fr p2 (by decide) (by decide)
            have rM1 : rM σ1 T R D1 := ⟨by rw [p2.2.2.1 44 (by decide)]; exact rM0.1, fun r q hr hq h13 => by rw [p2.1 79 (by decide), p4 r q hr]; exact rM0.2 r q hr hq h13⟩
            obtain ⟨σ2, m1, m2, m3⟩ := q_mAll (D := D1) hN m 0 FU R σ1 hg1 nf (by omega) (by omega) (by omega) (by unfold FU; omega) rM1 (fun r q hr hq _ => (p3.2.2.1 r q hr hq).1) p5
            rw [unt, rF, rC0.2.1]
            unfold f_HG_rounds_l73
            rw [p1]
            have F2 : fr [52, 54, 55, 57, 58, 79, 86, 88] [46, 53, 56, 59, 60, 61, 84, 85, 87] [11, 44, 52, 53] σ σ2 := (p2.mo (by decide) (by decide) (by decide)).tr (m2.mo (by decide) (by decide) (by decide))
            refine ⟨_, σ1, σ2, rfl, ?_, ?_⟩
            · rw [MF σ1 hg1, if_neg n0, (q_forM hg1 (w := 0) (by omega)).2 f0, bd_s, if_pos rfl, (q_forM hg1 (w := 1) (by omega)).2 f1, bd_s, if_pos rfl]
              exact m1
            · have F : ∀ k, k ∉ [11, 44, 52, 53] → σ2.2.2.1 k = σ.2.2.1 k := F2.2.2.1
              refine ⟨⟨a1.fr F2 (by decide), ?_, ⟨by rw [F 9 (by decide)]; exact a3.1, by rw [F 10 (by decide)]; exact a3.2⟩, a4.fr F2 (by decide) (by decide) (by decide) (by decide), n, T, sh, R + m, D1, hg.fr F2 (by decide) (by decide), hp.fr F2 (by decide) (by decide), rdI_iff.mpr ⟨?_, m3, fun _ => ⟨by omega, f0, f1⟩⟩⟩, b.fr F2 (by decide) (by decide) (by decide) (by decide), ?_⟩
              · unfold iFnd at a2 ⊢
                rw [F 1 (by decide), F 40 (by decide)]
                exact a2
              · obtain ⟨c1, c2, c3, c4⟩ := p3
                refine ⟨c1, by rw [m2.2.2.1 11 (by decide)]; exact c2, fun r q hr hq => ?_, fun w p hw hp => ?_⟩
                · rw [m2.1 58 (by decide)]; exact c3 r q hr hq
                · rw [m2.2.1 (59 + w) (by simp [scL]; omega)]; exact c4 w p hw hp
              · rw [F 0 (by decide), F 42 (by decide)]; exact c
theorem st_bound (x1 : Int32) {σ : St} (hI : Inv σ) : stq (f_HG_bound x1) (f_HM_bound x1) σ := by
  obtain ⟨n, T, sh, R, D, hg, hp, hr⟩ := hI.1.2.2.2.2
  have h9 := hI.1.2.2.1
  obtain ⟨rC0, rM0, rN⟩ := rdI_iff.mp hr
  have R60 := rC0.1
  unfold stq f_HG_bound f_HM_bound
  by_cases d : x1 < 0 ∨ (3 : Int32) ≤ x1
  · have : ∀ A : Option (Int64 × St), (if x1 < 0 then some ((-9000000000000000001 : Int64), σ) else if x1 ≤ 2 then A else some (-9000000000000000001, σ)) = some (-9000000000000000001, σ) := by
      intro A
      by_cases y : x1 < 0
      · rw [if_pos y]
      · rw [if_neg y, if_neg (fun z => (le_lt2.mp z) (d.resolve_left y))]
    rw [this]
    refine ⟨_, _, σ, rfl, ?_, hI⟩
    rw [in02, bd_s, if_pos d, if_pos rfl]
  · rw [if_neg (fun z => d (Or.inl z)), if_pos (le_lt2.mpr (fun z => d (Or.inr z)))]
    obtain ⟨k, hk, rfl⟩ := ixn (x := x1) (n := 3) (by decide) d
    by_cases k2 : k = 2
    · subst k2
      rw [if_pos (show nI 2 = (2 : Int32) from rfl)]
      refine ⟨_, σ, σ, rfl, ?_, hI⟩
      rw [in02, bd_s, if_neg d, if_neg i10, if_pos (by decide), f_HM_bound_b32, if_pos (show nI 2 = (2 : Int32) from rfl), rF, rM0.1, rF, rC0.2.1]
    · have kw : k < 2 := by omega
      have n2 : ¬ nI k = (2 : Int32) := fun z => k2 ((nI_eq (b := 2) (by omega) (by decide)).mp z)
      have e0 : (nI R = 0) ↔ R = 0 := nI_eq (b := 0) (by omega) (by decide)
      have e1k : (1 : Int32) - nI k = nI (1 - k) := pk_sub (a := 1) (by omega)
      have l2 : ¬ (2 : Int32) ≤ nI k := nI_ge (b := 2) (by omega) (by decide)
      rw [if_neg n2, rF, rC0.2.1]
      by_cases R0 : R = 0
      · rw [if_pos (e0.mpr R0)]
        refine ⟨_, σ, σ, rfl, ?_, hI⟩
        rw [in02, bd_s, if_neg d, if_neg i10, if_neg l2, rF, rM0.1, if_pos (e0.mpr R0)]
      · obtain ⟨n0, f0, f1⟩ := rN (by omega)
        have hw : 1 - k < 2 := by omega
        have nf : ¬ fgt T n (1 - k) := by
          have : k = 0 ∨ k = 1 := by omega
          rcases this with rfl | rfl
          · exact f1
          · exact f0
        have iL : isL (59 + (1 - k)) = true := by
          have : k = 0 ∨ k = 1 := by omega
          rcases this with rfl | rfl <;> rfl
        obtain ⟨σ1, W, bb, a1, a2, a3, _⟩ := q_solve (A := 59 + (1 - k)) (ap := 1000) (bs := 1000) (ba := 1000) hg (Or.inr rfl) hw nf (by omega) (by omega) iL (fun p hp => rC0.2.2.2 (1 - k) p hw hp) h9.1 h9.2 (by omega) (by omega)
        have fs : fr scA scL scF σ σ1 := a2.mo (by decide) (by decide) (by simp)
        have a1' : f_Solver_solve (rR σ 0) (nI (1 - k)) (59 + (1 - k)) (-1000000) σ = some (W 0, σ1) := a1
        obtain ⟨t, W', b', c1, c2, c3, _⟩ := q_against (hg.sc fs) hw nf R60 ((rdI_iff.mp (hr.sc fs)).2.1) (fun r q hr' hq _ => (rC0.2.2.1 r q hr' hq).1)
        have un := (Sol.uniq hg.1 hw (fun _ _ => rfl) (gr_grOk hg.1 hw nf) (fun p q hp hq h1 h2 => gmS_eq hg.1 hw hp hq h1 h2) a3 c3 0 n0).1
        rw [if_neg (fun z => R0 (e0.mp z)), e1k, q_reachOf hw, bd_s, a1', bd_s]
        refine ⟨_, σ1, t, rfl, ?_, (hI.sc fs).sc c2⟩
        have r44 : rF σ1 44 = nI R := by rw [rF, a2.2.2.1 44 (by simp)]; exact rM0.1
        rw [in02, bd_s, if_neg d, if_neg i10, if_neg l2, r44, if_neg (fun z => R0 (e0.mp z)), f_HM_bound_b32, if_neg n2, e1k, c1, bd_s, ← un]
