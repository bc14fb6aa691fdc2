section
variable {bs ba : Nat} {gm : Nat → Nat} {c : Nat → Int64} {n : Nat} {T : TT} {s : St} {w : Nat}
theorem q_l35 {d : Nat} (h : MB bs ba gm c n T s) (hw : w < 2) (hd : d < 1000) (hbs : bs ≤ 1000) (hba : ba ≤ 1000) (hok : grOk T n w gm) {N : Nat} (hN : N < 2 ^ 63) (hbd : ∀ p, p < n → T 1 p = 2 + w → ∀ a, a < T 4 p → bnd (su T n w gm (s.2.1 87) (gm p) a) N) (k24 : Int32 → Int32 → St → Option (Int64 × St)) : ∃ t, f_HM_answerBy_l35 k24 (nI w) (nI d) 0 s = k24 (nI w) (nI d + (-1)) t ∧ fr [88] [] [] s t ∧ (∀ p, p < n → T 1 p = 2 + w → lv T w p = d → t.1 88 (gm p) = nI (chs w (su T n w gm (s.2.1 87) (gm p)) (brr bs ba (T 3 p)) (T 4 p))) ∧ (∀ p, p < n → T 1 p = 2 + w → lv T w p ≠ d → t.1 88 (gm p) = s.1 88 (gm p)) := by
  have n60 := h.1.n60
  unfold f_HM_answerBy_l35
  obtain ⟨t, e, i1, i2, i3⟩ := lp_u0 (z := fun _ _ _ _ => none) (body := f_HM_answerBy_b35 k24) (fun k j (t : St) => k (nI w) (nI d) (nI j) t) (fun j t => fr [88] [] [] s t ∧ (∀ p, p < j → T 1 p = 2 + w → lv T w p = d → t.1 88 (gm p) = nI (chs w (su T n w gm (s.2.1 87) (gm p)) (brr bs ba (T 3 p)) (T 4 p))) ∧ (∀ p, p < n → T 1 p = 2 + w → lv T w p ≠ d → t.1 88 (gm p) = s.1 88 (gm p))) n (fun t => k24 (nI w) (nI d + (-1)) t) (fun k j t hj hI => by
    obtain ⟨f1, f2, f3⟩ := hI
    have ht := h.fr (f1.mo (by simp) (by simp) (by simp))
    have W : t.2.1 87 = s.2.1 87 := f1.2.1 87 (by simp)
    have l8 := lv_8 (w := w) h.1.1 hj
    have el : (nI (lv T w j) = nI d) ↔ lv T w j = d := nI_eq (by omega) (by omega)
    show ∃ s', f_HM_answerBy_b35 k24 k (nI w) (nI d) (nI j) t = _ ∧ _
    rw [f_HM_answerBy_b35, if_neg (by rw [ht.1.c2]; exact nI_ge hj (by omega)), q_isOf ht.1 hj hw, bd_s]
    unfold f_HM_answerBy_b90
    rw [nI_1]
    by_cases x : T 1 j = 2 + w
    · rw [if_pos x, if_neg i10, q_ownDeep ht.1 hw hj, bd_s]
      by_cases y : lv T w j = d
      · have o4 := own_4 h.1.1 hj x hw
        have g86 := ht.2.1 j hj
        have b1 : ib (nI j) 60 = true := ib_nI (by omega) (by decide)
        have b2 : ib (nI j) 120 = true := ib_nI (by omega) (by decide)
        have r86 : rI t 86 (nI j) = nI (gm j) := by rw [rI, nI_clamp (by omega)]; exact g86.1
        have r3 : rI t 69 (nI j) = nI (T 3 j) := by
          have : rI t 69 (nI j) = nz (T 3 j) := ht.1.M (j := 3) (by omega) (by omega) hj
          rw [this, nz_lt (by omega)]
        have bm := q_bestM (w := w) ht hw hbs hba hj x hok hN (by rw [W]; exact hbd j hj x)
        rw [W] at bm
        rw [if_pos (el.mpr y), ck_p b1, ck_p b1, ck_p b2, r86, r3, bm, bd_s, ck_p (ib_nI (show gm j < 60 by omega) (by decide)), lE_d, nI_clamp (show gm j < 2 ^ 31 by omega)]
        refine ⟨_, rfl, f1.A (by simp) _ _, fun p hp ho hl => ?_, fun p hp ho hl => ?_⟩
        · rw [sA1, if_pos rfl, updD]
          by_cases z : gm p = gm j
          · rw [if_pos z, z]
            have zz := hok p j (by omega) hj ho x z
            have q4 := own_4 h.1.1 (show p < n by omega) ho hw
            rw [zz.2] at q4 ⊢
            rw [show T 4 p = T 4 j by omega]
          · rw [if_neg z]
            have : p ≠ j := fun e => z (by rw [e])
            exact f2 p (by omega) ho hl
        · rw [sA1, if_pos rfl, updD, if_neg]
          · exact f3 p hp ho hl
          · intro z
            exact hl (by rw [(hok p j hp hj ho x z).1]; exact y)
      · rw [if_neg (fun z => y (el.mp z))]
        refine ⟨_, rfl, f1, fun p hp ho hl => ?_, f3⟩
        by_cases z : p = j
        · rw [z] at hl; exact absurd hl y
        · exact f2 p (by omega) ho hl
    · rw [if_neg x, if_pos rfl]
      refine ⟨_, rfl, f1, fun p hp ho hl => ?_, f3⟩
      by_cases z : p = j
      · rw [z] at ho; exact absurd ho x
      · exact f2 p (by omega) ho hl) (fun k t hI => by
    have ht := h.fr (hI.1.mo (by simp) (by simp) (by simp))
    show f_HM_answerBy_b35 k24 k (nI w) (nI d) (nI n) t = _
    rw [f_HM_answerBy_b35, if_pos (by rw [ht.1.c2]; exact nI_le (Nat.le_refl _) (by omega))]) (i := 0) (s := s) (by omega) (Nat.zero_le _) ⟨fr.rf, fun p hp => by omega, fun p hp _ _ => rfl⟩
  exact ⟨t, e, i1, i2, i3⟩
theorem q_answerBy (h : MB bs ba gm c n T s) (hw : w < 2) (hbs : bs ≤ 1000) (hba : ba ≤ 1000) (hok : grOk T n w gm) (hc : ∀ p, p < n → bnd (c p) CB) : ∃ t W b, f_HM_answerBy (nI w) s = some (W 0, t) ∧ fr [88] [87] [] s t ∧ Sol T n w c gm bs ba W b ∧ (∀ p, p < n → T 1 p = 2 + w → t.1 88 (gm p) = nI (b p)) := by
  have n60 := h.1.n60
  unfold f_HM_answerBy f_HM_answerBy_l2
  -- all acts 0 at first
  obtain ⟨s1, e1, z1, z2⟩ := lp_u0 (z := fun _ _ _ => none) (body := f_HM_answerBy_b2) (fun k j (t : St) => k (nI w) (nI j) t) (fun j t => fr [88] [] [] s t ∧ ∀ q, q < j → t.1 88 q = 0) 60 (fun t => f_HM_answerBy_l24 (nI w) 8 t) (fun k j t hj hI => by
    show ∃ s', f_HM_answerBy_b2 k (nI w) (nI j) t = _ ∧ _
    rw [f_HM_answerBy_b2, if_neg (show ¬ (60 : Int32) ≤ nI j from nI_ge (b := 60) (by omega) (by decide)), ck_p (ib_nI (show j < 60 by omega) (by decide)), lE_d, nI_clamp (by omega), nI_1]
    refine ⟨_, rfl, hI.1.A (by simp) _ _, fun q hq => ?_⟩
    rw [sA1, if_pos rfl, updD]
    by_cases x : q = j
    · rw [if_pos x]
    · rw [if_neg x]; exact hI.2 q (by omega)) (fun k t hI => by
    show f_HM_answerBy_b2 k (nI w) (nI 60) t = _
    rw [f_HM_answerBy_b2, if_pos (show (60 : Int32) ≤ nI 60 by decide)]) (i := 0) (s := s) (by omega) (Nat.zero_le _) ⟨fr.rf, fun q hq => by omega⟩
  have h1 := h.fr (z1.mo (by simp) (by simp) (by simp))
  -- validity of acts gives bounds
  have bounds : ∀ t : St, (∀ p, p < n → T 1 p = 2 + w → ∃ b, b < T 4 p ∧ t.1 88 (gm p) = nI b) → ∀ W : Nat → Int64, (∀ p, p < n → W p = wv T w c (fun p => (t.1 88 (gm p)).toNatClampNeg) W p) → ∀ p, p < n → T 1 p = 2 + w → ∀ a, a < T 4 p → bnd (su T n w gm W (gm p) a) (60 * (4 ^ 7 * (99 * CB))) := by
    intro t hv W hW p hp ho a ha
    refine su_bnd h.1.1 hw hc hW (fun q hq hoq => ?_) (fun q hq hoq hgq => ?_)
    · obtain ⟨b, b1, b2⟩ := hv q hq hoq
      have := wK4 (h.1.1.K hq)
      rw [b2, nI_clamp (by omega)]
      exact b1
    · have zz := hok q p hq hp hoq ho hgq
      have q4 := own_4 h.1.1 hq hoq hw
      have p4 := own_4 h.1.1 hp ho hw
      rw [zz.2] at q4
      omega
  have lim : 60 * (4 ^ 7 * (99 * CB)) < 2 ^ 63 := by unfold CB; decide
  obtain ⟨t, e, i1, i2, i3⟩ := lp_d0 (z := fun _ _ _ => none) (body := f_HM_answerBy_b24) (fun k j (t : St) => k (nI w) (nI j + (-1)) t) (fun j t => fr [88] [87] [] s1 t ∧ (∀ p, p < n → T 1 p = 2 + w → ∃ b, b < T 4 p ∧ t.1 88 (gm p) = nI b) ∧ (∀ W : Nat → Int64, (∀ p, p < n → W p = wv T w c (fun p => (t.1 88 (gm p)).toNatClampNeg) W p) → ∀ p, p < n → T 1 p = 2 + w → j ≤ lv T w p → t.1 88 (gm p) = nI (chs w (su T n w gm W (gm p)) (brr bs ba (T 3 p)) (T 4 p)))) 9 (fun t => bv (f_HM_layWorth (nI w) t) fun σ3 => ck (ib 0 60) <| some (rL σ3 87 0, σ3)) (fun k d t hd hI => by
    obtain ⟨f1, f2, f3⟩ := hI
    have ht := h1.fr f1
    obtain ⟨t1, a1, a2, a3⟩ := q_layWorth (w := w) ht hw f2
    have ht1 := ht.fr (a2.mo (by simp) (by simp) (by simp))
    have e88 : t1.1 88 = t.1 88 := a2.1 88 (by simp)
    obtain ⟨t2, b1, b2, b3, b4⟩ := q_l35 (w := w) (d := d) ht1 hw (by omega) hbs hba hok lim (bounds t f2 (t1.2.1 87) a3) k
    have fr2 : fr [88] [87] [] t t2 := (a2.mo (by simp) (by simp) (by simp)).tr (b2.mo (by simp) (by simp) (by simp))
    have val : ∀ p, p < n → T 1 p = 2 + w → ∃ b, b < T 4 p ∧ t2.1 88 (gm p) = nI b := fun p hp ho => by
      by_cases x : lv T w p = d
      · exact ⟨_, (chs_cg (own_4 h.1.1 hp ho hw).1 (fun _ _ => rfl)).2, b3 p hp ho x⟩
      · rw [b4 p hp ho x, e88]; exact f2 p hp ho
    have bn : ∀ u : St, (∀ p, p < n → T 1 p = 2 + w → ∃ b, b < T 4 p ∧ u.1 88 (gm p) = nI b) → ∀ p, p < n → T 1 p = 2 + w → (u.1 88 (gm p)).toNatClampNeg < T 4 p := fun u hu p hp ho => by
      obtain ⟨b, c1, c2⟩ := hu p hp ho
      have := wK4 (h.1.1.K hp)
      rw [c2, nI_clamp (by omega)]
      exact c1
    refine ⟨t2, ?_, f1.tr fr2, val, fun W hW p hp ho hl => ?_⟩
    · show f_HM_answerBy_b24 k (nI w) (nI (d + 1) + (-1)) t = _
      rw [pk_m1, f_HM_answerBy_b24, if_neg (nI_pos (by omega)), a1, bv_s, b1]
    · have agree : ∀ q, q < n → d + 1 ≤ lv T w q → W q = t1.2.1 87 q := fun q hq hlq => wv_agree h.1.1 (k := d + 1) hw hW a3 (fun r hr hor hlr => by
        refine ⟨?_, bn t2 val r hr hor⟩
        rw [b4 r hr hor (by omega), e88]) (n - q) q (by omega) (by omega) hlq
      have o4 := own_4 h.1.1 hp ho hw
      have sc : ∀ a, a < T 4 p → su T n w gm (t1.2.1 87) (gm p) a = su T n w gm W (gm p) a := fun a ha => su_cg h.1.1 hw hok hp ho (fun q hq hlq => (agree q hq (by omega)).symm) ha
      by_cases x : lv T w p = d
      · rw [b3 p hp ho x]
        exact congrArg nI (chs_cg o4.1 sc).1
      · rw [b4 p hp ho x, e88, f3 (t1.2.1 87) a3 p hp ho (by omega)]
        exact congrArg nI (chs_cg o4.1 sc).1) (fun k t hI => by
    show f_HM_answerBy_b24 k (nI w) (nI 0 + (-1)) t = _
    rw [f_HM_answerBy_b24, if_pos (by decide)]) (s := s1) (by omega) ⟨fr.rf, fun p hp ho => ⟨0, by have := own_4 h.1.1 hp ho hw; omega, z2 _ (h.2.1 p hp).2⟩, fun W hW p hp ho hl => by have := lv_8 (w := w) h.1.1 hp; omega⟩
  have ht := h1.fr i1
  obtain ⟨t1, a1, a2, a3⟩ := q_layWorth (w := w) ht hw i2
  have e88 : t1.1 88 = t.1 88 := a2.1 88 (by simp)
  refine ⟨t1, t1.2.1 87, fun p => (t.1 88 (gm p)).toNatClampNeg, ?_, ((z1.mo (by simp) (by simp) (by simp)).tr i1).tr (a2.mo (by simp) (by simp) (by simp)), ⟨a3, fun p hp ho => ?_⟩, fun p hp ho => ?_⟩
  · refine e1.trans ?_
    have e' : lp (fun _ _ _ => none) f_HM_answerBy_b24 FU (nI w) (nI 9 + (-1)) s1 = _ := e
    unfold f_HM_answerBy_l24
    rw [show (8 : Int32) = nI 9 + (-1) by decide, e', a1, bv_s, ck_p (show ib 0 60 = true by decide)]
    rfl
  · have o4 := own_4 h.1.1 hp ho hw
    have cl := (chs_cg (w := w) (S := su T n w gm (t1.2.1 87) (gm p)) (br := brr bs ba (T 3 p)) o4.1 (fun a _ => rfl)).2
    dsimp only
    rw [i3 (t1.2.1 87) a3 p hp ho (Nat.zero_le _), nI_clamp (by omega)]
  · have o4 := own_4 h.1.1 hp ho hw
    have cl := (chs_cg (w := w) (S := su T n w gm (t1.2.1 87) (gm p)) (br := brr bs ba (T 3 p)) o4.1 (fun a _ => rfl)).2
    dsimp only
    rw [e88, i3 (t1.2.1 87) a3 p hp ho (Nat.zero_le _), nI_clamp (by omega)]
/-! what the reference lays ahead -/
def gmS (T : TT) (p : Nat) : Nat := if T 3 p = 1000 then 0 else T 3 p
theorem q_layGroups {σ : St} (h : gI σ n T) : ∃ t, f_HM_layGroups σ = some t ∧ fr [86] [] [52, 53] σ t ∧ (∀ p, p < n → t.1 86 p = nI (gmS T p) ∧ gmS T p < 60) ∧ t.2.2.1 52 = nz 1000 ∧ t.2.2.1 53 = nz 1000 := by
  have n60 := h.n60
  unfold f_HM_layGroups f_HM_layGroups_l2
  obtain ⟨t, e, i1, i2⟩ := lp_u0 (z := fun _ _ => none) (body := f_HM_layGroups_b2) (fun k j (t : St) => k (nI j) t) (fun j t => fr [86] [] [] σ t ∧ (∀ p, p < j → t.1 86 p = nI (gmS T p))) n (fun t => some (stF (stF t 52 (-1000000)) 53 (-1000000))) (fun k j t hj hI => by
    obtain ⟨f1, f2⟩ := hI
    have ht : gI t n T := h.fr f1 (by decide) (by decide)
    have kk := (h.1.K hj).2
    have b1 : ib (nI j) 120 = true := ib_nI (by omega) (by decide)
    have b2 : ib (nI j) 60 = true := ib_nI (by omega) (by decide)
    have r3 : rI t 69 (nI j) = nz (T 3 j) := ht.M (j := 3) (by omega) (by omega) hj
    show ∃ s', f_HM_layGroups_b2 k (nI j) t = _ ∧ _
    refine ⟨stA t 86 j (nI (gmS T j)), ?_, f1.A (by simp) _ _, fun p hp => ?_⟩
    · rw [f_HM_layGroups_b2, if_neg (by rw [ht.c2]; exact nI_ge hj (by omega)), ck_p b1, r3, ck_p b1]
      unfold f_HM_layGroups_b36 gmS
      rw [ck_p b2, lE_d, ck_p b2, lE_d, nI_clamp (by omega), nI_1]
      by_cases x : T 3 j = 1000
      · rw [if_pos ((nz_eq0 (by omega)).mpr x), if_pos x]; rfl
      · rw [if_neg (fun z => x ((nz_eq0 (by omega)).mp z)), if_neg x, nz_lt (by omega)]
    · rw [sA1, if_pos rfl, updD]
      by_cases x : p = j
      · rw [if_pos x, x]
      · rw [if_neg x]; exact f2 p (by omega)) (fun k t hI => by
    have ht : gI t n T := h.fr hI.1 (by decide) (by decide)
    show f_HM_layGroups_b2 k (nI n) t = _
    rw [f_HM_layGroups_b2, if_pos (by rw [ht.c2]; exact nI_le (Nat.le_refl _) (by omega)), lE_d, lE_d]) (i := 0) (s := σ) (by omega) (Nat.zero_le _) ⟨fr.rf, fun p hp => by omega⟩
  refine ⟨_, e, ((i1.mo (by simp) (by simp) (by simp)).F (by simp) _).F (by simp) _, fun p hp => ⟨i2 p hp, ?_⟩, ?_, ?_⟩
  · have kk := (h.1.K hp).2
    unfold gmS
    split <;> omega
  · rw [sF3, if_neg (by decide), sF3, if_pos rfl]; rfl
  · rw [sF3, if_pos rfl]; rfl
theorem gmS_ok (h : wf n T) (hw : w < 2) (hf : ¬ fgt T n w) : grOk T n w (gmS T) := by
  intro p q hp hq h1 h2 e
  have o1 := own_4 h hp h1 hw
  have o2 := own_4 h hq h2 hw
  unfold gmS at e
  rw [if_neg (by omega), if_neg (by omega)] at e
  exact ⟨nf_lv h hf hp hq h1 h2 e, e⟩
theorem gmS_eq (h : wf n T) (hw : w < 2) {p q : Nat} (hp : p < n) (hq : q < n) (h1 : T 1 p = 2 + w) (h2 : T 1 q = 2 + w) : gr T 1000 p = gr T 1000 q ↔ gmS T p = gmS T q := by
  have o1 := own_4 h hp h1 hw
  have o2 := own_4 h hq h2 hw
  rw [gr_eq T 1000 (own_h hw h1) (own_h hw h2), th_none, th_none]
  unfold gmS
  rw [if_neg (show ¬ T 3 p = 1000 by omega), if_neg (show ¬ T 3 q = 1000 by omega)]
  exact ⟨fun z => z.1, fun z => ⟨z, rfl⟩⟩
theorem q_copy85 {σ : St} {f : Nat → Int64} (h : gI σ n T) (hv : ∀ p, p < n → σ.2.1 84 p = f p) : ∃ t, f_HM_layCounts_l8 0 σ = some t ∧ fr [] [85] [] σ t ∧ ∀ p, p < n → t.2.1 85 p = f p := by
  have n60 := h.n60
  unfold f_HM_layCounts_l8
  obtain ⟨t, e, i1, i2⟩ := lp_u0 (z := fun _ _ => none) (body := f_HM_layCounts_b8) (fun k j (t : St) => k (nI j) t) (fun j t => fr [] [85] [] σ t ∧ (∀ p, p < j → t.2.1 85 p = f p)) n (fun t => some t) (fun k j t hj hI => by
    obtain ⟨f1, f2⟩ := hI
    have ht : gI t n T := h.fr f1 (by decide) (by decide)
    have b2 : ib (nI j) 60 = true := ib_nI (by omega) (by decide)
    have v : rL t 84 (nI j) = f j := by rw [rL, nI_clamp (by omega), f1.2.1 84 (by decide)]; exact hv j hj
    show ∃ s', f_HM_layCounts_b8 k (nI j) t = _ ∧ _
    rw [f_HM_layCounts_b8, if_neg (by rw [ht.c2]; exact nI_ge hj (by omega)), ck_p b2, ck_p b2, v, lE_d, nI_clamp (by omega), nI_1]
    refine ⟨_, rfl, f1.L (by simp) _ _, fun p hp => ?_⟩
    rw [sL2, if_pos rfl, updLD]
    by_cases x : p = j
    · rw [if_pos x, x]
    · rw [if_neg x]; exact f2 p (by omega)) (fun k t hI => by
    have ht : gI t n T := h.fr hI.1 (by decide) (by decide)
    show f_HM_layCounts_b8 k (nI n) t = _
    rw [f_HM_layCounts_b8, if_pos (by rw [ht.c2]; exact nI_le (Nat.le_refl _) (by omega))]) (i := 0) (s := σ) (by omega) (Nat.zero_le _) ⟨fr.rf, fun p hp => by omega⟩
  exact ⟨t, e, i1, i2⟩
end
/-! reaches are small -/
theorem div12 {x : Int64} {N : Nat} (h : bnd x N) (hN : N < 2 ^ 62) {k : Nat} (hk : k ≤ 12) : bnd (x / 12 * (nI k).toInt64) N := by
  obtain ⟨h1, h2⟩ := h
  have nx : ¬ x < 0 := by rw [fa_lt64]; show ¬ x.toInt < 0; omega
  obtain ⟨m, hm, rfl⟩ := pk_lOf nx
  rw [pk_lT hm] at h2
  rw [show (12 : Int64) = lN 12 from rfl, pk_lDiv hm (by decide) (by decide), nI_l (by omega), lN_mul]
  have : m / 12 * k ≤ m := by
    calc m / 12 * k ≤ m / 12 * 12 := Nat.mul_le_mul_left _ hk
      _ ≤ m := Nat.div_mul_le_self m 12
  unfold bnd
  rw [pk_lT (by omega)]
  omega
theorem rc_bnd {n : Nat} {T : TT} (h : wf n T) {pt : Nat → Nat} (hp : ∀ p, 0 < p → p < n → pt p ≤ 12) : ∀ p, p < n → bnd (rc T pt p) 429981696 := by
  intro p
  induction p using Nat.strongRecOn with
  | ind p ih =>
    intro hpn
    rcases wf_5 h hpn with ⟨p0, _⟩ | ⟨p0, a1⟩
    · subst p0
      rw [rc_0]
      unfold bnd
      rw [show (429981696 : Int64).toInt = 429981696 from by decide]
      omega
    · rw [rc_s a1]
      exact div12 (ih _ a1 (by omega)) (by decide) (hp p p0 hpn)
theorem prt_12 {n : Nat} {T : TT} (h : wf n T) {sh : Nat → Nat → Nat} {lo : Nat} (hs : ∀ s a, s < 10 → T 13 s ≠ 1000 → a < T 14 s → sh s a ≤ 12) : ∀ p, 0 < p → p < n → prt T sh lo p ≤ 12 := by
  intro p p0 hp
  obtain ⟨a1, a7, ac, a8⟩ := ab_ok h hp p0
  unfold prt
  by_cases c1 : T 1 (T 5 p) = 1
  · rw [if_pos c1]; have := a8 c1; omega
  · rw [if_neg c1]
    by_cases c2 : T 1 (T 5 p) = 2 + lo
    · rw [if_pos c2]; omega
    · rw [if_neg c2]
      exact hs _ _ (by omega) (by omega) (by omega)
