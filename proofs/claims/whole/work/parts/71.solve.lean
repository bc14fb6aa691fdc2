theorem wv_cg {n : Nat} {T : TT} (h : wf n T) {w p : Nat} {c c' : Nat → Int64} {b b' : Nat → Nat} {W W' : Nat → Int64} (hp : p < n) (hc : c p = c' p) (hb : T 1 p = 2 + w → b p = b' p ∧ b p < T 4 p) (hW : ∀ k, k < T 4 p → W (T 9 (4 * p + k)) = W' (T 9 (4 * p + k))) : wv T w c b W p = wv T w c' b' W' p := by
  unfold wv
  by_cases e0 : T 1 p = 0
  · rw [if_pos e0, if_pos e0, hc]
  · rw [if_neg e0, if_neg e0]
    by_cases e1 : T 1 p = 2 + w
    · obtain ⟨x, y⟩ := hb e1
      rw [if_pos e1, if_pos e1, ← x]
      exact hW _ y
    · rw [if_neg e1, if_neg e1]
      exact sL_cg _ hW
section
variable {A bs ba : Nat} {gf : Nat → Nat} {c : Nat → Int64} {n : Nat} {T : TT} {s : St} {w i : Nat}
theorem q_worthOf (h : SB A bs ba gf c n T s) (hw : w < 2) {p : Nat} (hp : p < n) (hle : ∀ p, gf p ≤ p) (hb : T 1 p = 2 + w → ∃ b, b < T 4 p ∧ s.1 55 (gf p) = nI b) (x4 : Int64) : f_Solver_worthOf (rR s 0) (nI w) (nI p) x4 s = some (wv T w (fun _ => x4) (fun p => (s.1 55 (gf p)).toNatClampNeg) (s.2.1 53) p, s) := by
  have n60 := h.1.n60
  have k := (h.1.1.K hp).2
  have k4 := wK4 (h.1.1.K hp)
  have b1 : ib (nI p) 60 = true := ib_nI (by omega) (by decide)
  have r1 : rI s (rR s 0 + 1) (nI p) = nI (T 1 p) := by rw [h.1.C (by omega) (by omega) hp, nz_lt (by omega)]
  have r2 : rI s (rR s 0 + 2) (nI p) = nz (T 2 p) := h.1.C (by omega) (by omega) hp
  have r4 : rI s (rR s 0 + 4) (nI p) = nI (T 4 p) := by rw [h.1.C (by omega) (by omega) hp, nz_lt (by omega)]
  have r54 : rI s 54 (nI p) = nI (gf p) := by rw [rI, nI_clamp (by omega)]; exact h.2.1 p hp
  have e0 : (nI (T 1 p) = 0) ↔ T 1 p = 0 := nI_eq (b := 0) (by omega) (by decide)
  have e1 : (nI (T 1 p) = nI (2 + w)) ↔ T 1 p = 2 + w := nI_eq (by omega) (by omega)
  have gp := hle p
  unfold f_Solver_worthOf wv
  rw [h.1.g, ck_t, ck_p b1, r1, ck_p b1, r2, ck_p b1, show (2 : Int32) + nI w = nI (2 + w) from nI_add 2 w]
  by_cases x0 : T 1 p = 0
  · rw [if_pos (e0.mpr x0), if_pos x0]
  · rw [if_neg (fun z => x0 (e0.mp z)), if_neg x0]
    by_cases x1 : T 1 p = 2 + w
    · obtain ⟨b, b2, b3⟩ := hb x1
      have cc := h.1.1.2.2 p b hp b2
      have r55 : rI s 55 (nI (gf p)) = nI b := by rw [rI, nI_clamp (by omega)]; exact b3
      rw [if_pos (e1.mpr x1), if_pos x1, ck_p b1, r54, ck_p (ib_nI (show gf p < 60 by omega) (by decide)), r55, q_wayC h.1 hp b2, bd_s, ck_p (ib_nI (show T 9 (4 * p + b) < 60 by omega) (by decide)), rL, nI_clamp (by omega)]
      dsimp only
      rw [b3, nI_clamp (by omega)]
    · rw [if_neg (fun z => x1 (e1.mp z)), if_neg x1]
      unfold f_Solver_worthOf_l60
      have key : ∀ (kk : Int32 → Int64 → Int32 → St → Option (Int64 × St)) (a : Nat), a < T 4 p → f_Solver_worthOf_b60 (rR s 0) kk (nI p) (sL (fun k => s.2.1 53 (T 9 (4 * p + k))) a) (nI a) s = kk (nI p) (sL (fun k => s.2.1 53 (T 9 (4 * p + k))) (a + 1)) (nI (a + 1)) s := by
        intro kk a ha
        have cc := h.1.1.2.2 p a hp ha
        rw [f_Solver_worthOf_b60, ck_p b1, r4, if_neg (nI_ge ha (by omega)), q_wayC h.1 hp ha, bd_s, ck_p (ib_nI (show T 9 (4 * p + a) < 60 by omega) (by decide)), rL, nI_clamp (by omega), nI_1]
        rfl
      obtain ⟨t, e, ht⟩ := lp_u0 (z := fun _ _ _ _ => none) (body := f_Solver_worthOf_b60 (rR s 0)) (fun kk a (t : St) => kk (nI p) (sL (fun k => s.2.1 53 (T 9 (4 * p + k))) a) (nI a) t) (fun a t => t = s) (T 4 p) (fun t => some (sL (fun k => s.2.1 53 (T 9 (4 * p + k))) (T 4 p), t)) (fun kk a t ha hI => by
        rw [hI]
        exact ⟨s, key kk a ha, rfl⟩) (fun kk t hI => by
        rw [hI]
        show f_Solver_worthOf_b60 (rR s 0) kk (nI p) _ (nI (T 4 p)) s = _
        rw [f_Solver_worthOf_b60, ck_p b1, r4, if_pos (nI_le (Nat.le_refl _) (by omega))]) (i := 0) (s := s) (by omega) (Nat.zero_le _) rfl
      rw [ht] at e
      exact e
theorem q_weigh (h : SB A bs ba gf c n T s) (hA1 : A ≠ 53) (hA2 : A ≠ 56) (hL : isL A = true) (hw : w < 2) (hi : i < 1000) (hle : ∀ p, gf p ≤ p) (hb : ∀ p, p < n → T 1 p = 2 + w → lv T w p = i → ∃ b, b < T 4 p ∧ s.1 55 (gf p) = nI b) : ∃ t, f_Solver_weigh (rR s 0) (nI w) (nI i) A s = some t ∧ fr [] [53] [] s t ∧ (∀ p, p < n → lv T w p ≠ i → t.2.1 53 p = s.2.1 53 p) ∧ (∀ p, p < n → lv T w p = i → t.2.1 53 p = wv T w c (fun p => (s.1 55 (gf p)).toNatClampNeg) (t.2.1 53) p) := by
  have n60 := h.1.n60
  unfold f_Solver_weigh f_Solver_weigh_l8
  rw [h.1.g, ck_t, hL, ck_t, h.1.c1, m1sub]
  generalize hgE : rR s 0 = g
  have hbn : ∀ p, p < n → T 1 p = 2 + w → lv T w p = i → (s.1 55 (gf p)).toNatClampNeg < T 4 p := fun p hp ho hl => by
    obtain ⟨b, b1, b2⟩ := hb p hp ho hl
    have := wK4 (h.1.1.K hp)
    rw [b2, nI_clamp (by omega)]
    exact b1
  obtain ⟨t, e, i1, i2, i3⟩ := lp_d0 (z := fun _ _ _ _ => none) (body := f_Solver_weigh_b8 g A) (fun k j (t : St) => k (nI w) (nI i) (nI j + (-1)) t) (fun j t => fr [] [53] [] s t ∧ (∀ p, p < n → (p < j ∨ lv T w p ≠ i) → t.2.1 53 p = s.2.1 53 p) ∧ (∀ p, j ≤ p → p < n → lv T w p = i → t.2.1 53 p = wv T w c (fun p => (s.1 55 (gf p)).toNatClampNeg) (t.2.1 53) p)) n (fun t => some t) (fun k j t hj hI => by
    obtain ⟨f1, f2, f3⟩ := hI
    have ht := h.fr (f1.mo (by simp) (by simp) (by simp)) hA1 hA2
    have hgt : rR t 0 = g := by rw [← hgE]; show t.2.2.2 0 = _; rw [f1.2.2.2]
    have oa := q_oat ht.1 hw hj
    rw [hgt] at oa
    have l8 := lv_8 (w := w) h.1.1 hj
    have el : (nI (lv T w j) = nI i) ↔ lv T w j = i := nI_eq (by omega) (by omega)
    have b1 : ib (nI j) 60 = true := ib_nI (by omega) (by decide)
    show ∃ s', f_Solver_weigh_b8 g A k (nI w) (nI i) (nI (j + 1) + (-1)) t = _ ∧ _
    rw [pk_m1, f_Solver_weigh_b8, if_neg (nI_pos (by omega)), oa, bd_s]
    by_cases x : lv T w j = i
    · have wo := q_worthOf (w := w) ht hw hj hle (fun ho => by rw [f1.1 55 (by simp)]; exact hb j hj ho x) (t.2.1 A j)
      rw [hgt] at wo
      have vA : rL t A (nI j) = t.2.1 A j := by rw [rL, nI_clamp (by omega)]
      have e55 : t.1 55 = s.1 55 := f1.1 55 (by simp)
      have val : wv T w (fun _ => t.2.1 A j) (fun p => (t.1 55 (gf p)).toNatClampNeg) (t.2.1 53) j = wv T w c (fun p => (s.1 55 (gf p)).toNatClampNeg) (t.2.1 53) j := wv_cg h.1.1 hj (ht.2.2.1 j hj) (fun ho => ⟨by rw [e55], by rw [e55]; exact hbn j hj ho x⟩) (fun _ _ => rfl)
      rw [if_pos (el.mpr x), ck_p b1, vA, wo, bd_s, ck_p b1, lE_d, nI_clamp (by omega), f_Solver_weigh_b44, val]
      have ch : ∀ p, j ≤ p → p < n → lv T w p = i → wv T w c (fun p => (s.1 55 (gf p)).toNatClampNeg) (t.2.1 53) p = wv T w c (fun p => (s.1 55 (gf p)).toNatClampNeg) ((stL t 53 j (wv T w c (fun p => (s.1 55 (gf p)).toNatClampNeg) (t.2.1 53) j)).2.1 53) p := fun p hjp hp hl => wv_cg h.1.1 hp rfl (fun ho => ⟨rfl, hbn p hp ho hl⟩) (fun kk hk => by
        have cc := h.1.1.2.2 p kk hp hk
        rw [sL2, if_pos rfl, updLD, if_neg (by omega)])
      refine ⟨_, rfl, f1.L (by simp) _ _, fun p hp hpj => ?_, fun p hjp hp hl => ?_⟩
      · rw [sL2, if_pos rfl, updLD, if_neg (fun z => by rw [z] at hpj; omega)]
        exact f2 p hp (by omega)
      · rw [← ch p hjp hp hl]
        by_cases y : p = j
        · rw [y, sL2, if_pos rfl, updLD, if_pos rfl]
        · rw [sL2, if_pos rfl, updLD, if_neg y]
          exact f3 p (by omega) hp hl
    · rw [if_neg (fun z => x (el.mp z)), f_Solver_weigh_b44]
      refine ⟨_, rfl, f1, fun p hp hpj => f2 p hp (by omega), fun p hjp hp hl => ?_⟩
      by_cases y : p = j
      · rw [y] at hl; exact absurd hl x
      · exact f3 p (by omega) hp hl) (fun k t hI => by
    show f_Solver_weigh_b8 g A k (nI w) (nI i) (nI 0 + (-1)) t = some t
    rw [f_Solver_weigh_b8, if_pos (by decide)]) (s := s) (by omega) ⟨fr.rf, fun p hp _ => rfl, fun p hnp hp => by omega⟩
  exact ⟨t, e, i1, fun p hp hl => i2 p hp (Or.inr hl), fun p hp hl => i3 p (Nat.zero_le _) hp hl⟩
/-- all levels -/
theorem q_levels (h : SB A bs ba gf c n T s) (hA1 : A ≠ 53) (hA2 : A ≠ 56) (hL : isL A = true) (hw : w < 2) (hle : ∀ p, gf p ≤ p) (hii : ∀ p, p < n → T 1 p = 2 + w → gf (gf p) = gf p ∧ T 1 (gf p) = 2 + w) (hok : grOk T n w gf) (hbs : bs ≤ 1000) (hba : ba ≤ 1000) {M : Nat} (hM : M ≤ 8) (hM2 : ∀ p, p < n → lv T w p ≤ M) : ∃ t, f_Solver_solve_l14 (rR s 0) A (nI w) (nI M) s = some (t.2.1 53 0, t) ∧ fr [55] [53, 56] [] s t ∧ (∀ p, p < n → t.2.1 53 p = wv T w c (fun p => (t.1 55 (gf p)).toNatClampNeg) (t.2.1 53) p) ∧ (∀ p, p < n → T 1 p = 2 + w → t.1 55 (gf p) = nI (chs w (su T n w gf (t.2.1 53) (gf p)) (brr bs ba (T 3 p)) (T 4 p))) := by
  have n60 := h.1.n60
  unfold f_Solver_solve_l14
  generalize hgE : rR s 0 = g
  obtain ⟨t, e, i1, i2, i3⟩ := lp_d0 (z := fun _ _ _ => none) (body := f_Solver_solve_b14 g A) (fun k j (t : St) => k (nI w) (nI j + (-1)) t) (fun j t => fr [55] [53, 56] [] s t ∧ (∀ p, p < n → j ≤ lv T w p → t.2.1 53 p = wv T w c (fun p => (t.1 55 (gf p)).toNatClampNeg) (t.2.1 53) p) ∧ (∀ p, p < n → T 1 p = 2 + w → j ≤ lv T w p → t.1 55 (gf p) = nI (chs w (su T n w gf (t.2.1 53) (gf p)) (brr bs ba (T 3 p)) (T 4 p)))) (M + 1) (fun t => some (t.2.1 53 0, t)) (fun k i t hj hI => by
    obtain ⟨f1, f2, f3⟩ := hI
    have ht := h.fr f1 hA1 hA2
    have hgt : rR t 0 = g := by rw [← hgE]; show t.2.2.2 0 = _; rw [f1.2.2.2]
    obtain ⟨t1, a1, a2, a3⟩ := q_addUp (w := w) (i := i) ht hA1 hA2 hw (by omega) hle hii hok
    rw [hgt] at a1
    have ht1 := ht.fr (a2.mo (by simp) (by simp) (by simp)) hA1 hA2
    have hg1 : rR t1 0 = g := by rw [← hgt]; show t1.2.2.2 0 = _; rw [a2.2.2.2]
    obtain ⟨t2, b1, b2, b3⟩ := q_chooseActs (w := w) (i := i) ht1 hA1 hA2 hw (by omega) hle hbs hba
    rw [hg1] at b1
    have ht2 := ht1.fr (b2.mo (by simp) (by simp) (by simp)) hA1 hA2
    have hg2 : rR t2 0 = g := by rw [← hg1]; show t2.2.2.2 0 = _; rw [b2.2.2.2]
    have t1_55 : t1.1 55 = t.1 55 := a2.1 55 (by simp)
    have W2 : t2.2.1 53 = t.2.1 53 := by rw [b2.2.1 53 (by simp), a2.2.1 53 (by decide)]
    have rep : ∀ p, p < n → T 1 p = 2 + w → gf p < n ∧ gf (gf p) = gf p ∧ T 1 (gf p) = 2 + w ∧ lv T w (gf p) = lv T w p ∧ T 3 (gf p) = T 3 p ∧ T 4 (gf p) = T 4 p := by
      intro p hp ho
      obtain ⟨z1, z2⟩ := hii p hp ho
      have zl := hle p
      have zz := hok (gf p) p (by omega) hp z2 ho z1
      have q1 := own_4 h.1.1 hp ho hw
      have q2 := own_4 h.1.1 (show gf p < n by omega) z2 hw
      rw [zz.2] at q2
      exact ⟨by omega, z1, z2, zz.1, zz.2, by omega⟩
    have new55 : ∀ p, p < n → T 1 p = 2 + w → lv T w p = i → t2.1 55 (gf p) = nI (chs w (su T n w gf (t.2.1 53) (gf p)) (brr bs ba (T 3 p)) (T 4 p)) := by
      intro p hp ho hl
      obtain ⟨z0, z1, z2, z3, z4, z5⟩ := rep p hp ho
      have o4 := own_4 h.1.1 hp ho hw
      rw [b3 (gf p), if_pos ⟨z0, z1, z2, by omega⟩, z4, z5]
      congr 1
      refine (chs_cg o4.1 (fun a ha => ?_)).1
      exact a3 (gf p) z0 z2 (by omega) z1 a (by omega)
    have old55 : ∀ p, p < n → T 1 p = 2 + w → lv T w p ≠ i → t2.1 55 (gf p) = t.1 55 (gf p) := by
      intro p hp ho hl
      obtain ⟨z0, z1, z2, z3, z4, z5⟩ := rep p hp ho
      rw [b3 (gf p), if_neg (fun z => hl (by omega)), t1_55]
    obtain ⟨t3, d1, d2, d3, d4⟩ := q_weigh (w := w) (i := i) ht2 hA1 hA2 hL hw (by omega) hle (fun p hp ho hl => ⟨_, (chs_cg (own_4 h.1.1 hp ho hw).1 (fun _ _ => rfl)).2, new55 p hp ho hl⟩)
    rw [hg2] at d1
    have e55 : t3.1 55 = t2.1 55 := d2.1 55 (by simp)
    have fr3 : fr [55] [53, 56] [] t t3 := ((a2.mo (by simp) (by simp) (by simp)).tr (b2.mo (by simp) (by simp) (by simp))).tr (d2.mo (by simp) (by simp) (by simp))
    have keep : ∀ p, p < n → lv T w p ≠ i → t3.2.1 53 p = t.2.1 53 p := fun p hp hl => by rw [d3 p hp hl, W2]
    refine ⟨t3, ?_, f1.tr fr3, fun p hp hl => ?_, fun p hp ho hl => ?_⟩
    · show f_Solver_solve_b14 g A k (nI w) (nI (i + 1) + (-1)) t = _
      rw [pk_m1, f_Solver_solve_b14, if_neg (nI_pos (by omega)), a1, bv_s, b1, bv_s, d1, bv_s]
    · by_cases x : lv T w p = i
      · have := d4 p hp x
        rw [e55]
        exact this
      · rw [keep p hp x, f2 p hp (by omega)]
        refine wv_cg h.1.1 hp rfl (fun ho => ?_) (fun kk hk => ?_)
        · have o4 := own_4 h.1.1 hp ho hw
          rw [e55]
          refine ⟨by rw [old55 p hp ho x], ?_⟩
          rw [f3 p hp ho (by omega)]
          have cl := (chs_cg (w := w) (S := su T n w gf (t.2.1 53) (gf p)) (br := brr bs ba (T 3 p)) o4.1 (fun a _ => rfl)).2
          rw [nI_clamp (by omega)]
          exact cl
        · obtain ⟨u1, u2, u3⟩ := ch_lv (w := w) h.1.1 hp hk
          exact (keep _ u2 (by split at u3 <;> omega)).symm
    · have sc : ∀ a, a < T 4 p → su T n w gf (t.2.1 53) (gf p) a = su T n w gf (t3.2.1 53) (gf p) a := fun a ha => su_cg h.1.1 hw hok hp ho (fun q hq hlq => (keep q hq (by omega)).symm) ha
      have o4 := own_4 h.1.1 hp ho hw
      rw [e55]
      by_cases x : lv T w p = i
      · rw [new55 p hp ho x]
        congr 1
        exact (chs_cg o4.1 sc).1
      · rw [old55 p hp ho x, f3 p hp ho (by omega)]
        congr 1
        exact (chs_cg o4.1 sc).1) (fun k t hI => by
    show f_Solver_solve_b14 g A k (nI w) (nI 0 + (-1)) t = _
    rw [f_Solver_solve_b14, if_pos (by decide), ck_p (show ib 0 60 = true by decide)]
    rfl) (s := s) (by omega) ⟨fr.rf, fun p hp hl => by have := hM2 p hp; omega, fun p hp _ hl => by have := hM2 p hp; omega⟩
  refine ⟨t, ?_, i1, fun p hp => i2 p hp (Nat.zero_le _), fun p hp ho => i3 p hp ho (Nat.zero_le _)⟩
  have e' : lp (fun _ _ _ => none) (f_Solver_solve_b14 g A) FU (nI w) (nI (M + 1) + (-1)) s = some (t.2.1 53 0, t) := e
  rw [pk_m1] at e'
  exact e'
end
theorem q_solve {A bs ba ap w n : Nat} {T : TT} {c : Nat → Int64} {σ : St} (h : gI σ n T) (ha : ap < 10 ∨ ap = 1000) (hw : w < 2) (hf : ¬ fgt T n w) (hA1 : A ≠ 53) (hA2 : A ≠ 56) (hL : isL A = true) (hc : ∀ p, p < n → σ.2.1 A p = c p) (h9 : σ.2.2.1 9 = nz bs) (h10 : σ.2.2.1 10 = nz ba) (hbs : bs ≤ 1000) (hba : ba ≤ 1000) : ∃ σ' W b, f_Solver_solve (rR σ 0) (nI w) A (nz ap) σ = some (W 0, σ') ∧ fr [54, 55, 57] [53, 56] [] σ σ' ∧ Sol T n w c (gr T ap) bs ba W b ∧ (∀ p, p < n → T 1 p = 2 + w → σ'.1 55 (gr T ap p) = nI (b p)) := by
  obtain ⟨σ1, a1, a2, a3⟩ := q_tellGroups (ap := ap) h ha
  have h1 : gI σ1 n T := h.fr a2 (by decide) (by decide)
  have hg1 : rR σ1 0 = rR σ 0 := by show σ1.2.2.2 0 = σ.2.2.2 0; rw [a2.2.2.2]
  obtain ⟨M, m1, m2, m3⟩ := q_most (w := w) h1 hw
  have hS : SB A bs ba (gr T ap) c n T σ1 := ⟨h1, a3, fun p hp => by rw [a2.2.1 A (by simp)]; exact hc p hp, by rw [a2.2.2.1 9 (by simp)]; exact h9, by rw [a2.2.2.1 10 (by simp)]; exact h10⟩
  have hii : ∀ p, p < n → T 1 p = 2 + w → gr T ap (gr T ap p) = gr T ap p ∧ T 1 (gr T ap p) = 2 + w := by
    intro p hp ho
    obtain ⟨g1, g2, g3, g4⟩ := grp_ok T ap p
    have hh := own_h hw ho
    have o4 := own_4 h.1 hp ho hw
    have kk := (h.1.K (show gr T ap p < n by omega)).2
    rw [g2] at kk
    have hh2 : T 1 (gr T ap p) = 2 + w := by omega
    exact ⟨(gr_eq T ap (own_h hw hh2) hh).mpr ⟨g2, g3⟩, hh2⟩
  obtain ⟨t, e1, e2, e3, e4⟩ := q_levels (w := w) hS hA1 hA2 hL hw (fun p => (grp_ok T ap p).1) hii (gr_grOk h.1 hw hf) hbs hba m1 m3
  refine ⟨t, t.2.1 53, fun p => (t.1 55 (gr T ap p)).toNatClampNeg, ?_, (a2.mo (by decide) (by decide) (by decide)).tr (e2.mo (by decide) (by decide) (by decide)), ⟨e3, fun p hp ho => ?_⟩, fun p hp ho => ?_⟩
  · unfold f_Solver_solve
    rw [h.g, ck_t, hL, ck_t, a1, bv_s]
    rw [hg1] at m2 e1
    rw [m2, bd_s, e1]
  · have o4 := own_4 h.1 hp ho hw
    have cl := (chs_cg (w := w) (S := su T n w (gr T ap) (t.2.1 53) (gr T ap p)) (br := brr bs ba (T 3 p)) o4.1 (fun a _ => rfl)).2
    dsimp only
    rw [e4 p hp ho, nI_clamp (by omega)]
  · have o4 := own_4 h.1 hp ho hw
    have cl := (chs_cg (w := w) (S := su T n w (gr T ap) (t.2.1 53) (gr T ap p)) (br := brr bs ba (T 3 p)) o4.1 (fun a _ => rfl)).2
    dsimp only
    rw [e4 p hp ho, nI_clamp (by omega)]
