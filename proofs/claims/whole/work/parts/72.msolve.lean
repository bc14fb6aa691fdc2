/-! the reference's best answers -/
def MB (bs ba : Nat) (gm : Nat → Nat) (c : Nat → Int64) (n : Nat) (T : TT) (t : St) : Prop := gI t n T ∧ (∀ p, p < n → t.1 86 p = nI (gm p) ∧ gm p < 60) ∧ (∀ p, p < n → t.2.1 85 p = c p) ∧ t.2.2.1 52 = nz bs ∧ t.2.2.1 53 = nz ba
theorem MB.fr {bs ba : Nat} {gm : Nat → Nat} {c : Nat → Int64} {n : Nat} {T : TT} {s s' : St} (h : MB bs ba gm c n T s) (hf : fr [88] [87] [] s s') : MB bs ba gm c n T s' := by
  obtain ⟨a1, a2, a3, a4, a5⟩ := h
  refine ⟨a1.fr hf (by decide) (by decide), fun p hp => ?_, fun p hp => ?_, ?_, ?_⟩
  · rw [hf.1 86 (by decide)]; exact a2 p hp
  · rw [hf.2.1 85 (by decide)]; exact a3 p hp
  · rw [hf.2.2.1 52 (by simp)]; exact a4
  · rw [hf.2.2.1 53 (by simp)]; exact a5
theorem q_ownDeep {s : St} {n : Nat} {T : TT} {w : Nat} (h : gI s n T) (hw : w < 2) {p : Nat} (hp : p < n) : f_HM_ownDeep (nI p) (nI w) s = some (nI (lv T w p), s) := by
  have n60 := h.n60
  have key : ∀ p f c, p < n → p < f → lp (fun _ _ _ _ => none) f_HM_ownDeep_b10 f (nI w) (nI c) (nz (oa T w p)) s = some (nI (c + lv T w p), s) := by
    intro p
    induction p using Nat.strongRecOn with
    | ind p ih =>
      intro f c hp hf
      obtain ⟨f, rfl⟩ : ∃ f0, f = f0 + 1 := ⟨f - 1, by omega⟩
      rw [lp_s, f_HM_ownDeep_b10]
      rcases oa_ok h.1 w p hp with ⟨i1, _, i3⟩ | ⟨i1, i2, i3, i4, i5⟩
      · rw [i1, if_pos nz_none, i3]
        rfl
      · rw [nz_lt (show oa T w p < 1000 by omega), if_neg (nz_neg _ (by omega)), q_ownAbove h (show oa T w p < n by omega) hw, bd_s, nI_1, ih _ i1 f (c + 1) (by omega) (by omega), i5]
        congr 3
        omega
  unfold f_HM_ownDeep f_HM_ownDeep_l10
  rw [q_ownAbove h hp hw, bd_s]
  have := key p FU 0 hp (by unfold FU; omega)
  rw [Nat.zero_add] at this
  exact this
section
variable {bs ba : Nat} {gm : Nat → Nat} {c : Nat → Int64} {n : Nat} {T : TT} {s : St} {w : Nat}
theorem q_layWorth (h : MB bs ba gm c n T s) (hw : w < 2) (hb : ∀ p, p < n → T 1 p = 2 + w → ∃ b, b < T 4 p ∧ s.1 88 (gm p) = nI b) : ∃ t, f_HM_layWorth (nI w) s = some t ∧ fr [] [87] [] s t ∧ ∀ p, p < n → t.2.1 87 p = wv T w c (fun p => (s.1 88 (gm p)).toNatClampNeg) (t.2.1 87) p := by
  have n60 := h.1.n60
  unfold f_HM_layWorth f_HM_layWorth_l7
  rw [h.1.c2, m1sub]
  have hbn : ∀ p, p < n → T 1 p = 2 + w → (s.1 88 (gm p)).toNatClampNeg < T 4 p := fun p hp ho => by
    obtain ⟨b, b1, b2⟩ := hb p hp ho
    have := wK4 (h.1.1.K hp)
    rw [b2, nI_clamp (by omega)]
    exact b1
  have key : ∀ (k : Int32 → Int32 → St → Option St) (j : Nat) (t : St), j < n → fr [] [87] [] s t → f_HM_layWorth_b7 k (nI w) (nI j) t = k (nI w) (nI j + (-1)) (stL t 87 j (wv T w c (fun p => (s.1 88 (gm p)).toNatClampNeg) (t.2.1 87) j)) := by
    intro k j t hj hf
    have ht := h.fr (hf.mo (by simp) (by simp) (by simp))
    have kk := (h.1.1.K hj).2
    have k4 := wK4 (h.1.1.K hj)
    have b1 : ib (nI j) 60 = true := ib_nI (by omega) (by decide)
    have b2 : ib (nI j) 120 = true := ib_nI (by omega) (by decide)
    have r1 : rI t 67 (nI j) = nI (T 1 j) := by
      have : rI t 67 (nI j) = nz (T 1 j) := ht.1.M (j := 1) (by omega) (by omega) hj
      rw [this, nz_lt (by omega)]
    have r2 : rI t 68 (nI j) = nz (T 2 j) := ht.1.M (j := 2) (by omega) (by omega) hj
    have r4 : rI t 70 (nI j) = nI (T 4 j) := by
      have : rI t 70 (nI j) = nz (T 4 j) := ht.1.M (j := 4) (by omega) (by omega) hj
      rw [this, nz_lt (by omega)]
    have v85 : rL t 85 (nI j) = c j := by rw [rL, nI_clamp (by omega)]; exact ht.2.2.1 j hj
    have r75 : ∀ a, a < T 4 j → rI t 75 (nI (4 * j + a)) = nI (T 9 (4 * j + a)) := fun a ha => by rw [rI, nI_clamp (by omega)]; exact ht.1.2.2.2.2.1 j a hj ha
    have e0 : (nI (T 1 j) = 0) ↔ T 1 j = 0 := nI_eq (b := 0) (by omega) (by decide)
    have ix : ∀ a, 4 * nI j + nI a = nI (4 * j + a) := fun a => by rw [show (4 : Int32) = nI 4 from rfl, pk_mul, nI_add]
    -- the places below, added
    have loop : ∀ v0 : Int64, f_HM_layWorth_l80 k (nI w) (nI j) v0 0 t = k (nI w) (nI j + (-1)) (stL t 87 j (v0 + sL (fun a => t.2.1 87 (T 9 (4 * j + a))) (T 4 j))) := by
      intro v0
      unfold f_HM_layWorth_l80
      obtain ⟨t', e, hI⟩ := lp_u0 (z := fun _ _ _ _ _ => none) (body := f_HM_layWorth_b80 k) (fun k2 a (t' : St) => k2 (nI w) (nI j) (v0 + sL (fun a => t.2.1 87 (T 9 (4 * j + a))) a) (nI a) t') (fun a t' => t' = t) (T 4 j) (fun t' => k (nI w) (nI j + (-1)) (stL t' 87 j (v0 + sL (fun a => t.2.1 87 (T 9 (4 * j + a))) (T 4 j)))) (fun k2 a t' ha hI => by
        rw [hI]
        have cc := h.1.1.2.2 j a hj ha
        refine ⟨t, ?_, rfl⟩
        show f_HM_layWorth_b80 k k2 (nI w) (nI j) _ (nI a) t = _
        rw [f_HM_layWorth_b80, ck_p b2, r4, if_neg (nI_ge ha (by omega)), ix, ck_p (ib_nI (show 4 * j + a < 480 by omega) (by decide)), r75 a ha, ck_p (ib_nI (show T 9 (4 * j + a) < 60 by omega) (by decide)), rL, nI_clamp (show T 9 (4 * j + a) < 2 ^ 31 by omega), nI_1, Int64.add_assoc]
        rfl) (fun k2 t' hI => by
        rw [hI]
        show f_HM_layWorth_b80 k k2 (nI w) (nI j) _ (nI (T 4 j)) t = _
        rw [f_HM_layWorth_b80, ck_p b2, r4, if_pos (nI_le (Nat.le_refl _) (by omega)), f_HM_layWorth_b116, ck_p b1, lE_d, nI_clamp (by omega)]) (i := 0) (s := t) (by omega) (Nat.zero_le _) rfl
      rw [hI] at e
      have e' : lp (fun _ _ _ _ _ => none) (f_HM_layWorth_b80 k) FU (nI w) (nI j) (v0 + sL (fun a => t.2.1 87 (T 9 (4 * j + a))) 0) (nI 0) t = _ := e
      rw [show sL (fun a => t.2.1 87 (T 9 (4 * j + a))) 0 = 0 from rfl, Int64.add_zero] at e'
      exact e'
    have io := q_isOf ht.1 hj hw
    rw [f_HM_layWorth_b7, if_neg (nI_pos (by omega)), ck_p b2, r1]
    unfold wv
    by_cases x0 : T 1 j = 0
    · rw [if_pos (e0.mpr x0), if_pos x0, ck_p b2, ck_p b1, r2, v85, f_HM_layWorth_b38, io, bd_s, if_neg (show ¬ T 1 j = 2 + w by omega), if_pos rfl, loop]
      have : T 4 j = 0 := by omega
      rw [this, show sL (fun a => t.2.1 87 (T 9 (4 * j + a))) 0 = 0 from rfl, Int64.add_zero]
    · rw [if_neg (fun z => x0 (e0.mp z)), if_neg x0, f_HM_layWorth_b38, io, bd_s]
      by_cases x1 : T 1 j = 2 + w
      · obtain ⟨b, b3, b4⟩ := hb j hj x1
        have cc := h.1.1.2.2 j b hj b3
        have g86 := ht.2.1 j hj
        have r86 : rI t 86 (nI j) = nI (gm j) := by rw [rI, nI_clamp (by omega)]; exact g86.1
        have r88 : rI t 88 (nI (gm j)) = nI b := by rw [rI, nI_clamp (by omega), hf.1 88 (by simp)]; exact b4
        rw [if_pos x1, if_neg i10, if_pos x1, ck_p b1, r86, ck_p (ib_nI (show gm j < 60 by omega) (by decide)), r88, ix, ck_p (ib_nI (show 4 * j + b < 480 by omega) (by decide)), r75 b b3, ck_p (ib_nI (show T 9 (4 * j + b) < 60 by omega) (by decide)), f_HM_layWorth_b116, ck_p b1, lE_d, nI_clamp (show j < 2 ^ 31 by omega), rL, nI_clamp (show T 9 (4 * j + b) < 2 ^ 31 by omega)]
        dsimp only
        rw [b4, nI_clamp (show b < 2 ^ 31 by omega)]
      · rw [if_neg x1, if_pos rfl, if_neg x1, loop, Int64.zero_add]
  obtain ⟨t, e, i1, i2⟩ := lp_d0 (z := fun _ _ _ => none) (body := f_HM_layWorth_b7) (fun k j (t : St) => k (nI w) (nI j + (-1)) t) (fun j t => fr [] [87] [] s t ∧ (∀ p, j ≤ p → p < n → t.2.1 87 p = wv T w c (fun p => (s.1 88 (gm p)).toNatClampNeg) (t.2.1 87) p)) n (fun t => some t) (fun k j t hj hI => by
    obtain ⟨f1, f2⟩ := hI
    show ∃ s', f_HM_layWorth_b7 k (nI w) (nI (j + 1) + (-1)) t = _ ∧ _
    rw [pk_m1, key k j t hj f1]
    have ch : ∀ p, j ≤ p → p < n → wv T w c (fun p => (s.1 88 (gm p)).toNatClampNeg) (t.2.1 87) p = wv T w c (fun p => (s.1 88 (gm p)).toNatClampNeg) ((stL t 87 j (wv T w c (fun p => (s.1 88 (gm p)).toNatClampNeg) (t.2.1 87) j)).2.1 87) p := fun p hjp hp => wv_cg h.1.1 hp rfl (fun ho => ⟨rfl, hbn p hp ho⟩) (fun kk hk => by
        have cc := h.1.1.2.2 p kk hp hk
        rw [sL2, if_pos rfl, updLD, if_neg (by omega)])
    refine ⟨_, rfl, f1.L (by simp) _ _, fun p hjp hp => ?_⟩
    rw [← ch p hjp hp]
    by_cases y : p = j
    · rw [y, sL2, if_pos rfl, updLD, if_pos rfl]
    · rw [sL2, if_pos rfl, updLD, if_neg y]
      exact f2 p (by omega) hp) (fun k t hI => by
    show f_HM_layWorth_b7 k (nI w) (nI 0 + (-1)) t = some t
    rw [f_HM_layWorth_b7, if_pos (by decide)]) (s := s) (by omega) ⟨fr.rf, fun p hnp hp => by omega⟩
  exact ⟨t, e, i1, fun p hp => i2 p (Nat.zero_le _) hp⟩
theorem q_worthM (h : MB bs ba gm c n T s) (hw : w < 2) {G a : Nat} (hG : G < 60) (ha3 : a < 3) (ha : ∀ q, q < n → T 1 q = 2 + w → gm q = G → a < T 4 q) : f_HM_worthOf (nI G) (nI a) (nI w) s = some (su T n w gm (s.2.1 87) G a, s) := by
  have n60 := h.1.n60
  unfold f_HM_worthOf f_HM_worthOf_l6
  obtain ⟨t', e, hI⟩ := lp_u0 (z := fun _ _ _ _ _ _ => none) (body := f_HM_worthOf_b6) (fun k i (t : St) => k (nI G) (nI a) (nI w) (su T i w gm (s.2.1 87) G a) (nI i) t) (fun i t => t = s) n (fun t => some (su T n w gm (s.2.1 87) G a, t)) (fun k i t hi hI => by
    rw [hI]
    refine ⟨s, ?_, rfl⟩
    have g86 := h.2.1 i hi
    have b1 : ib (nI i) 60 = true := ib_nI (by omega) (by decide)
    have r86 : rI s 86 (nI i) = nI (gm i) := by rw [rI, nI_clamp (by omega)]; exact g86.1
    have eg : (nI (gm i) = nI G) ↔ gm i = G := nI_eq (by omega) (by omega)
    show f_HM_worthOf_b6 k (nI G) (nI a) (nI w) _ (nI i) s = k (nI G) (nI a) (nI w) (su T i w gm (s.2.1 87) G a + if T 1 i = 2 + w ∧ gm i = G then s.2.1 87 (T 9 (4 * i + a)) else 0) (nI (i + 1)) s
    rw [f_HM_worthOf_b6, if_neg (by rw [h.1.c2]; exact nI_ge hi (by omega)), q_isOf h.1 hi hw, bd_s]
    unfold f_HM_worthOf_b57 f_HM_worthOf_b58
    rw [nI_1]
    by_cases x : T 1 i = 2 + w
    · rw [if_pos x, if_neg i10, ck_p b1, r86]
      by_cases y : gm i = G
      · have a4 := ha i hi x y
        have cc := h.1.1.2.2 i a hi a4
        rw [if_pos (eg.mpr y), if_pos ⟨x, y⟩, show 4 * nI i + nI a = nI (4 * i + a) by rw [show (4 : Int32) = nI 4 from rfl, pk_mul, nI_add], ck_p (ib_nI (show 4 * i + a < 480 by omega) (by decide)), show rI s 75 (nI (4 * i + a)) = nI (T 9 (4 * i + a)) by rw [rI, nI_clamp (by omega)]; exact h.1.2.2.2.2.1 i a hi a4, ck_p (ib_nI (show T 9 (4 * i + a) < 60 by omega) (by decide)), rL, nI_clamp (by omega)]
      · rw [if_neg (fun z => y (eg.mp z)), if_neg (fun z => y z.2)]
    · rw [if_neg x, if_pos rfl, if_neg (fun z => x z.1)]) (fun k t hI => by
    rw [hI]
    show f_HM_worthOf_b6 k (nI G) (nI a) (nI w) _ (nI n) s = _
    rw [f_HM_worthOf_b6, if_pos (by rw [h.1.c2]; exact nI_le (Nat.le_refl _) (by omega))]) (i := 0) (s := s) (by omega) (Nat.zero_le _) rfl
  rw [hI] at e
  exact e
theorem q_bestM (h : MB bs ba gm c n T s) (hw : w < 2) (hbs : bs ≤ 1000) (hba : ba ≤ 1000) {p : Nat} (hp : p < n) (ho : T 1 p = 2 + w) (hok : grOk T n w gm) {N : Nat} (hN : N < 2 ^ 63) (hbd : ∀ a, a < T 4 p → bnd (su T n w gm (s.2.1 87) (gm p) a) N) : f_HM_bestAct (nI (gm p)) (nI (T 3 p)) (nI w) s = some (nI (chs w (su T n w gm (s.2.1 87) (gm p)) (brr bs ba (T 3 p)) (T 4 p)), s) := by
  have n60 := h.1.n60
  have o4 := own_4 h.1.1 hp ho hw
  have G60 := (h.2.1 p hp).2
  have b2 : ib (nI (T 3 p)) 20 = true := ib_nI (by omega) (by decide)
  have r77 : rI s 77 (nI (T 3 p)) = nI (T 4 p) := by rw [h.1.Ac o4.2.2.1, o4.2.2.2.1]
  have vG : ∀ a, a < T 4 p → ∀ q, q < n → T 1 q = 2 + w → gm q = gm p → a < T 4 q := by
    intro a ha q hq hoq hgq
    have := hok q p hq hp hoq ho hgq
    have q4 := own_4 h.1.1 hq hoq hw
    rw [this.2] at q4
    omega
  have wm : ∀ a, a < T 4 p → f_HM_worthOf (nI (gm p)) (nI a) (nI w) s = some (su T n w gm (s.2.1 87) (gm p) a, s) := fun a ha => q_worthM h hw G60 (by omega) (vG a ha)
  have ebs : (nI (T 3 p) = rF s 52) ↔ T 3 p = bs := by
    rw [rF, h.2.2.2.1, ← nz_lt (show T 3 p < 1000 by omega)]
    exact nz_eq (by omega) hbs
  have eba : ∀ a, a < 3 → ((nI a = rF s 53) ↔ a = ba) := fun a ha => by
    rw [rF, h.2.2.2.2, ← nz_lt (show a < 1000 by omega)]
    exact nz_eq (by omega) hba
  -- one turn
  have turn : ∀ (k : Int32 → Int32 → Int32 → Int32 → Int32 → St → Option (Int32 × St)) (x4 : Int32) (a : Nat), a < T 4 p → f_HM_bestAct_b6 k (nI (gm p)) (nI (T 3 p)) (nI w) x4 (nI a) s = if brr bs ba (T 3 p) a = true then k (nI (gm p)) (nI (T 3 p)) (nI w) x4 (nI (a + 1)) s else f_HM_bestAct_b34 k (nI (gm p)) (nI (T 3 p)) (nI w) x4 (nI a) s := by
    intro k x4 a ha
    rw [f_HM_bestAct_b6, ck_p b2, r77, if_neg (nI_ge ha (by omega)), f_HM_bestAct_b97, nI_1]
    unfold brr
    by_cases x : T 3 p = bs
    · rw [if_pos (ebs.mpr x)]
      by_cases y : a = ba
      · rw [if_pos ((eba a (by omega)).mpr y), if_pos (decide_eq_true ⟨x, y⟩)]
      · rw [if_neg (fun z => y ((eba a (by omega)).mp z)), if_neg (fun z => y (of_decide_eq_true z).2)]
    · rw [if_neg (fun z => x (ebs.mp z)), if_neg (fun z => x (of_decide_eq_true z).1)]
  have first : ∀ (k : Int32 → Int32 → Int32 → Int32 → Int32 → St → Option (Int32 × St)) (a : Nat), f_HM_bestAct_b34 k (nI (gm p)) (nI (T 3 p)) (nI w) (-1) (nI a) s = k (nI (gm p)) (nI (T 3 p)) (nI w) (nI a) (nI (a + 1)) s := by
    intro k a
    unfold f_HM_bestAct_b34 f_HM_bestAct_b60 f_HM_bestAct_b88 f_HM_bestAct_b95 f_HM_bestAct_b97
    rw [if_neg (by decide), if_pos (by decide), nI_1]
  have later : ∀ (k : Int32 → Int32 → Int32 → Int32 → Int32 → St → Option (Int32 × St)) (cc a : Nat), cc < T 4 p → a < T 4 p → f_HM_bestAct_b34 k (nI (gm p)) (nI (T 3 p)) (nI w) (nI cc) (nI a) s = k (nI (gm p)) (nI (T 3 p)) (nI w) (nI (if ¬ gn w (su T n w gm (s.2.1 87) (gm p) cc) (su T n w gm (s.2.1 87) (gm p) a) ≤ 0 then a else cc)) (nI (a + 1)) s := by
    intro k cc a hc ha
    unfold f_HM_bestAct_b34 f_HM_bestAct_b60 f_HM_bestAct_b88 f_HM_bestAct_b93 f_HM_bestAct_b95 f_HM_bestAct_b97
    rw [if_pos (nI_pos' (by omega)), wm a ha, bd_s, wm cc hc, bd_s, if_neg (nI_pos (by omega)), nI_1]
    unfold gn
    have : w = 0 ∨ w = 1 := by omega
    rcases this with rfl | rfl
    · rw [if_pos (show nI 0 = (0 : Int32) from rfl), if_pos rfl]
      by_cases x : su T n 0 gm (s.2.1 87) (gm p) a - su T n 0 gm (s.2.1 87) (gm p) cc ≤ 0
      · rw [if_pos x, if_neg (fun z => z x)]
      · rw [if_neg x, if_pos x]
    · rw [if_neg (show ¬ nI 1 = (0 : Int32) by decide), if_neg (show ¬ 1 = 0 by decide)]
      have gg := gn_neg (hbd cc hc) (hbd a ha) hN
      by_cases x : (0 : Int64) ≤ su T n 1 gm (s.2.1 87) (gm p) a - su T n 1 gm (s.2.1 87) (gm p) cc
      · rw [if_pos x, if_neg (fun z => (gg.mp z) x)]
      · rw [if_neg x, if_pos (gg.mpr x)]
  have key : ∀ m a cc f, a + m = T 4 p → cc < T 4 p → m < f → lp (fun _ _ _ _ _ _ => none) f_HM_bestAct_b6 f (nI (gm p)) (nI (T 3 p)) (nI w) (nI cc) (nI a) s = some (nI (chL w (su T n w gm (s.2.1 87) (gm p)) (brr bs ba (T 3 p)) m a cc), s) := by
    intro m
    induction m with
    | zero =>
      intro a cc f ha hc hf
      obtain ⟨f, rfl⟩ : ∃ f0, f = f0 + 1 := ⟨f - 1, by omega⟩
      rw [lp_s, f_HM_bestAct_b6, ck_p b2, r77, if_pos (nI_le (by omega) (by omega))]
      rfl
    | succ m ih =>
      intro a cc f ha hc hf
      obtain ⟨f, rfl⟩ : ∃ f0, f = f0 + 1 := ⟨f - 1, by omega⟩
      rw [lp_s, turn _ _ a (by omega)]
      unfold chL
      by_cases y : brr bs ba (T 3 p) a = true
      · rw [if_pos y, if_neg (fun z => by rw [y] at z; cases z.2)]
        exact ih (a + 1) cc f (by omega) hc (by omega)
      · have y' : brr bs ba (T 3 p) a = false := by simpa using y
        rw [if_neg y, later _ cc a hc (by omega), y']
        have e : (if ¬ gn w (su T n w gm (s.2.1 87) (gm p) cc) (su T n w gm (s.2.1 87) (gm p) a) ≤ 0 ∧ False = False then a else cc) = (if ¬ gn w (su T n w gm (s.2.1 87) (gm p) cc) (su T n w gm (s.2.1 87) (gm p) a) ≤ 0 then a else cc) := by simp
        have e2 : (if ¬ gn w (su T n w gm (s.2.1 87) (gm p) cc) (su T n w gm (s.2.1 87) (gm p) a) ≤ 0 ∧ false = false then a else cc) = (if ¬ gn w (su T n w gm (s.2.1 87) (gm p) cc) (su T n w gm (s.2.1 87) (gm p) a) ≤ 0 then a else cc) := by simp
        rw [e2]
        exact ih (a + 1) _ f (by omega) (by split <;> omega) (by omega)
  unfold f_HM_bestAct f_HM_bestAct_l6 chs c0
  have hF : FU = 999 + 1 := rfl
  rw [hF, lp_s, show (0 : Int32) = nI 0 from rfl, turn _ _ 0 (by omega)]
  by_cases y : brr bs ba (T 3 p) 0 = true
  · have y1 : ¬ brr bs ba (T 3 p) 1 = true := fun z => by
      have z1 := (of_decide_eq_true y).2
      have z2 := (of_decide_eq_true z).2
      omega
    have hF2 : (999 : Nat) = 998 + 1 := rfl
    rw [if_pos y, if_pos y, hF2, lp_s, turn _ _ (0 + 1) (by omega), if_neg y1, first]
    exact key _ _ _ 998 (by omega) (by omega) (by omega)
  · rw [if_neg y, if_neg y, first]
    exact key _ _ _ 999 (by omega) (by omega) (by omega)
end
