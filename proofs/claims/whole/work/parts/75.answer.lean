section
variable {σ : St} {n : Nat} {T : TT}
theorem set_first (h : gI σ n T) {s : Nat} (hs : s < 10) (h13 : T 13 s < 2) : T 16 s < n ∧ T 3 (T 16 s) = s ∧ T 1 (T 16 s) = 2 + T 13 s ∧ gr T 1000 (T 16 s) = T 16 s ∧ gmS T (T 16 s) = s := by
  have so := h.so hs
  have ss := h.1.1.2.2.2.1 s hs
  obtain ⟨f1, f2⟩ := ss.2.1 (by omega)
  have k := (h.1.K f1).2
  rw [f2] at k
  have t1 : T 1 (T 16 s) = 2 + T 13 s := by omega
  refine ⟨f1, f2, t1, ?_, ?_⟩
  · obtain ⟨g1, g2, _, _⟩ := grp_ok T 1000 (T 16 s)
    have := (ss.2.2 (gr T 1000 (T 16 s)) (by omega) (by rw [g2, f2])).1
    omega
  · unfold gmS
    rw [f2, if_neg (by omega)]
theorem gP13 (h : gI σ n T) {s : Nat} (hs : s < 10) (h13 : T 13 s < 2) : rI σ (rR σ 0 + 13) (nI s) = nI (T 13 s) ∧ rI σ 76 (nI s) = nI (T 13 s) := by
  rw [h.S (by omega) (by omega) hs, h.P hs, nz_lt (by omega), if_neg (by omega)]
  exact ⟨rfl, rfl⟩
theorem isSet_M (h : gI σ n T) {s : Nat} (hs : s < 10) (h13 : T 13 s < 2) : f_HM_isSet (nI s) σ = some (1, σ) := by
  have b2 : ib (nI s) 20 = true := ib_nI (by omega) (by decide)
  have e0 : f_HM_in (nI s).toInt64 0 9 σ = some (if nI s < 0 ∨ (10 : Int32) ≤ nI s then 0 else 1, σ) := q_HM_inN (nI s) 0 9 (by decide) (by decide) σ
  have nn : ¬ (nI s < 0 ∨ (10 : Int32) ≤ nI s) := fun z => z.elim (nI_pos (by omega)) (nI_ge (b := 10) hs (by decide))
  unfold f_HM_isSet
  rw [e0, bd_s, if_neg nn, if_neg i10, ck_p b2, (gP13 h hs h13).2, if_neg (nI_pos (by omega))]
end
theorem st_answer (x1 : Int32) {σ : St} (hI : Inv σ) : stq (f_HG_answer x1) (f_HM_answer x1) σ := by
  obtain ⟨n, T, sh, R, D, hg, hp, _⟩ := hI.1.2.2.2.2
  have h9 := hI.1.2.2.1
  have n60 := hg.n60
  unfold stq f_HG_answer f_HM_answer
  rcases q_isSet hg x1 with ⟨s, hs, rfl, h13, e1, e2⟩ | ⟨e1, e2⟩
  · obtain ⟨w, hw⟩ : ∃ w, T 13 s = w := ⟨_, rfl⟩
    have hw2 : w < 2 := by omega
    have b1 : ib (nI s) 10 = true := ib_nI hs (by decide)
    have b2 : ib (nI s) 20 = true := ib_nI (by omega) (by decide)
    have b3 : ib (nI w) 2 = true := ib_nI hw2 (by decide)
    have b6 : ib (nI s) 60 = true := ib_nI (by omega) (by decide)
    obtain ⟨p1, p2⟩ := gP13 hg hs h13
    rw [hw] at p1 p2
    obtain ⟨f1, f2, f3, f4, f5⟩ := set_first hg hs h13
    rw [hw] at f3
    rw [e1, bd_s, if_neg i10, hg.g, ck_t, ck_p b1, p1, ck_p b3]
    rcases q_forC hg hw2 with ⟨a, b⟩ | ⟨a, b⟩
    · rw [b, if_neg i10]
      refine ⟨_, σ, σ, rfl, ?_, hI⟩
      rw [e2, bd_s, if_neg i10, ck_p b2, p2, (q_forM hg hw2).1 a, bd_s, if_neg i10]
    · rw [b, if_pos rfl]
      obtain ⟨σ1, W, bb, a1, a2, a3, a4, a5⟩ := ans_C hg hp hw2 a h9.1 h9.2
      have fs := fr_scF a2
      have hg1 := hg.sc fs
      obtain ⟨t, W', b', m1, m2, m3, m4, _⟩ := ans_M hg1 (hp.sc fs) hw2 a
      have un := (Sol.uniq hg.1 hw2 (fun _ _ => rfl) (gr_grOk hg.1 hw2 a) (fun p q hp hq h1 h2 => gmS_eq hg.1 hw2 hp hq h1 h2) a3 m3 (T 16 s) f1).2 f3
      have act : f_Solver_actOf (rR σ1 0) (nI s) σ1 = some (nI (bb (T 16 s)), σ1) := by
        unfold f_Solver_actOf
        rw [hg1.g, ck_t, ck_p b1, hg1.S (by omega) (by omega) hs, nz_lt (by omega), ck_p (ib_nI (show T 16 s < 60 by omega) (by decide)), rI, nI_clamp (by omega)]
        have := a4 (T 16 s) f1 f3
        rw [f4] at this
        rw [this]
      rw [a1, bd_s, act, bd_s]
      refine ⟨_, σ1, t, rfl, ?_, (hI.sc fs).sc m2⟩
      obtain ⟨_, p2'⟩ := gP13 hg1 hs h13
      rw [hw] at p2'
      have v88 : rI t 88 (nI s) = nI (b' (T 16 s)) := by
        rw [rI, nI_clamp (by omega)]
        have := m4 (T 16 s) f1 f3
        rw [f5] at this
        exact this
      rw [isSet_M hg1 hs h13, bd_s, if_neg i10, ck_p b2, p2', (q_forM hg1 hw2).2 a, bd_s, if_pos rfl, ck_p b2, p2', m1, bd_s, ck_p b6, v88, ← un]
  · rw [e1, bd_s, if_pos rfl]
    refine ⟨_, σ, σ, rfl, ?_, hI⟩
    rw [e2, bd_s, if_pos rfl]
theorem st_fewer (x1 x2 : Int32) {σ : St} (hI : Inv σ) : stq (f_HG_fewer x1 x2) (f_HM_fewer x1 x2) σ := by
  obtain ⟨n, T, sh, R, D, hg, hp, hr⟩ := hI.1.2.2.2.2
  have h9 := hI.1.2.2.1
  have n60 := hg.n60
  unfold stq f_HG_fewer f_HM_fewer
  rcases q_isAct hg x1 x2 with ⟨s, a, hs, rfl, h13, ha, rfl, e1, e2, e3⟩ | ⟨e1, e2⟩
  · obtain ⟨w, hw⟩ : ∃ w, T 13 s = w := ⟨_, rfl⟩
    have hw2 : w < 2 := by omega
    have so := hg.so hs
    have b1 : ib (nI s) 10 = true := ib_nI hs (by decide)
    have b2 : ib (nI s) 20 = true := ib_nI (by omega) (by decide)
    have b3 : ib (nI w) 2 = true := ib_nI hw2 (by decide)
    obtain ⟨p1, p2⟩ := gP13 hg hs h13
    rw [hw] at p1 p2
    obtain ⟨f1, _⟩ := set_first hg hs h13
    rw [e1, bd_s, if_neg i10, hg.g, ck_t, ck_p b1, p1, ck_p b3]
    rcases q_forC hg hw2 with ⟨nf, b⟩ | ⟨nf, b⟩
    · rw [b, if_neg i10]
      refine ⟨_, σ, σ, rfl, ?_, hI⟩
      rw [e2, bd_s, if_neg i10, ck_p b2, e3, bd_s, if_neg i10, ck_p b2, p2, (q_forM hg hw2).1 nf, bd_s, if_neg i10]
    · rw [b, if_pos rfl]
      obtain ⟨σ1, a1, a2, a3⟩ := q_plan4 hg hp (hxw hw2)
      have hf1 : fr [] [46] [9, 10] σ (stF (stF σ1 9 (nI s)) 10 (nI a)) := ((a2.mo (by simp) (by simp) (by simp)).F (by simp) _).F (by simp) _
      have hg1 : gI (stF (stF σ1 9 (nI s)) 10 (nI a)) n T := hg.fr hf1 (by decide) (by decide)
      obtain ⟨σ2, W, bb, s1, s2, s3, s4⟩ := q_solve (A := 46) (ap := 1000) (bs := s) (ba := a) (c := rc T (prt T sh w)) hg1 (Or.inr rfl) hw2 nf (by decide) (by decide) rfl (fun p hpn => a3 p hpn) (by rw [sF3, if_neg (by decide), sF3, if_pos rfl, nz_lt (by omega)]) (by rw [sF3, if_pos rfl, nz_lt (by omega)]) (by omega) (by omega)
      have hg0 : rR σ1 0 = rR (stF (stF σ1 9 (nI s)) 10 (nI a)) 0 := rfl
      have iG1 : isG (rR σ1 0) = true := by rw [hg0]; exact hg1.g
      have s1' : f_Solver_solve (rR σ1 0) (nI w) 46 (-1000000) (stF (stF σ1 9 (nI s)) 10 (nI a)) = some (W 0, σ2) := s1
      have eC : f_Solver_solveBarred (rR σ1 0) (nI w) 46 (nI s) (nI a) σ1 = some (W 0, stF (stF σ2 9 (-1000000)) 10 (-1000000)) := by
        unfold f_Solver_solveBarred
        rw [iG1, ck_t, show isL 46 = true from rfl, ck_t, lE_d, lE_d, s1', bd_s, lE_d, lE_d]
      rw [a1, bv_s, eC, bd_s]
      have fT : fr scA scL [9, 10] σ (stF (stF σ2 9 (-1000000)) 10 (-1000000)) := (((hf1.mo (by simp) (by decide) (by simp)).tr (s2.mo (by decide) (by decide) (by simp))).F (by simp) _).F (by simp) _
      -- nothing but scratch has changed
      have fs : fr scA scL scF σ (stF (stF σ2 9 (-1000000)) 10 (-1000000)) := by
        refine ⟨fT.1, fT.2.1, fun k hk => ?_, fT.2.2.2⟩
        by_cases k9 : k = 9
        · rw [k9, sF3, if_neg (by decide), sF3, if_pos rfl, h9.1]
        · by_cases k10 : k = 10
          · rw [k10, sF3, if_pos rfl, h9.2]
          · exact fT.2.2.1 k (by simp [k9, k10])
      have hgS := hg.sc fs
      obtain ⟨t1, m1, m2, m3⟩ := lay_M hgS (hp.sc fs) hw2
      have m3' : MB s a (gmS T) (rc T (prt T sh w)) n T (stF (stF t1 52 (nI s)) 53 (nI a)) := by
        obtain ⟨q1, q2, q3, q4, q5⟩ := m3
        refine ⟨q1.fr ((fr.rf.F (ka := []) (kl := []) (kf := [52, 53]) (by decide) _).F (by decide) _) (by decide) (by decide), q2, q3, ?_, ?_⟩
        · rw [sF3, if_neg (by decide), sF3, if_pos rfl, nz_lt (by omega)]
        · rw [sF3, if_pos rfl, nz_lt (by omega)]
      obtain ⟨t, W', b', c1, c2, c3, c4⟩ := q_answerBy (w := w) m3' hw2 (by omega) (by omega) (gmS_ok hg.1 hw2 nf) (prt_pl hg hp w)
      have un := (Sol.uniq hg.1 hw2 (fun _ _ => rfl) (gr_grOk hg.1 hw2 nf) (fun p q hp hq h1 h2 => gmS_eq hg.1 hw2 hp hq h1 h2) s3 c3 0 (by omega)).1
      have ft : fr scA scL scF (stF (stF σ2 9 (-1000000)) 10 (-1000000)) t := ((m2.F (by decide) _).F (by decide) _).tr (c2.mo (by decide) (by decide) (by decide))
      refine ⟨W 0, _, t, rfl, ?_, (hI.sc fs).sc ft⟩
      obtain ⟨_, p2'⟩ := gP13 hgS hs h13
      rw [hw] at p2'
      have e3' : f_HM_in (nI a).toInt64 0 (((rI (stF (stF σ2 9 (-1000000)) 10 (-1000000)) 77 (nI s)) - 1).toInt64) (stF (stF σ2 9 (-1000000)) 10 (-1000000)) = some (1, stF (stF σ2 9 (-1000000)) 10 (-1000000)) := by
        rw [hgS.Ac hs, q_inM _ (by omega), if_neg]
        exact fun z => z.elim (nI_pos (by omega)) (nI_ge ha (by omega))
      have pG : ∀ u : St, gI u n T → rI u 76 (nI s) = nI w := fun u hu => by
        have := (gP13 hu hs h13).2
        rw [hw] at this
        exact this
      have lay2 : ∀ (k : St → Option (Int64 × St)), (bv (f_HM_layGroups (stF (stF σ2 9 (-1000000)) 10 (-1000000))) fun σ16 => ck (ib (nI s) 20) <| bv (f_HM_layCounts (rI σ16 76 (nI s)) σ16) fun σ19 => k σ19) = k t1 := by
        intro k
        obtain ⟨u1, v1, v2, _⟩ := q_layGroups hgS
        have hu : gI u1 n T := hgS.sc (v2.mo (by decide) (by decide) (by decide))
        have := bv2 m1 k
        rw [v1, bv_s] at this ⊢
        rw [ck_p b2, pG u1 hu]
        exact this
      rw [isSet_M hgS hs h13, bd_s, if_neg i10, ck_p b2, e3', bd_s, if_neg i10, ck_p b2, p2', (q_forM hgS hw2).2 nf, bd_s, if_pos rfl, lay2, lE_d, lE_d, ck_p b2, pG _ m3'.1, c1, bd_s, ← un]
  · rw [e1, bd_s, if_pos rfl]
    refine ⟨_, σ, σ, rfl, ?_, hI⟩
    rcases e2 with e2 | ⟨s, hs, rfl, e2, e3⟩
    · rw [e2, bd_s, if_pos rfl]
    · have b2 : ib (nI s) 20 = true := ib_nI (by omega) (by decide)
      rw [e2, bd_s, if_neg i10, ck_p b2, e3, bd_s, if_pos rfl]
/-! seeing -/
section
variable {σ : St} {n : Nat} {T : TT} {w ap : Nat}
theorem q_through (h : gI σ n T) (ha : ap < 10) {p : Nat} (hp : p < n) : f_HM_through (nI p) (nI ap) σ = some (nz (th T ap p), σ) := by
  have n60 := h.n60
  have key : ∀ p f, p < n → p + 1 < f → lp (fun _ _ _ => none) f_HM_through_b2 f (nI ap) (nI p) σ = some (nz (th T ap p), σ) := by
    intro p
    induction p using Nat.strongRecOn with
    | ind p ih =>
      intro f hp hf
      obtain ⟨f, rfl⟩ : ∃ f0, f = f0 + 1 := ⟨f - 1, by omega⟩
      have kk := (h.1.K hp).2
      have b1 : ib (nI p) 120 = true := ib_nI (by omega) (by decide)
      have r3 : rI σ 69 (nI p) = nz (T 3 p) := h.M (j := 3) (by omega) (by omega) hp
      have r5 : rI σ 71 (nI p) = nz (T 5 p) := h.M (j := 5) (by omega) (by omega) hp
      have e3 := nz_eqI (a := T 3 p) (b := ap) (by omega) (by omega)
      rw [lp_s, f_HM_through_b2, if_neg (nz_neg p (by omega)), ck_p b1, r3, ck_p b1, r5, th]
      by_cases c : T 3 p = ap
      · rw [if_pos (e3.mpr c), if_pos ⟨by omega, c⟩, nz_lt (by omega)]
      · rw [if_neg (fun z => c (e3.mp z)), if_neg (fun z => c z.2)]
        rcases wf_5 h.1 hp with ⟨p0, e5⟩ | ⟨p0, a1⟩
        · rw [dif_neg (by omega), e5]
          obtain ⟨f, rfl⟩ : ∃ f0, f = f0 + 1 := ⟨f - 1, by omega⟩
          rw [lp_s, f_HM_through_b2, if_pos nz_none]
        · rw [dif_pos a1, nz_lt (show T 5 p < 1000 by omega)]
          exact ih _ a1 f (by omega) (by omega)
  unfold f_HM_through f_HM_through_l2
  exact key p FU hp (by unfold FU; omega)
def gm2 (T : TT) (ap w p : Nat) : Nat := if T 1 p = 2 + w then gr T ap p else p
theorem q_seeG (h : gI σ n T) (hw : w < 2) (ha : ap < 10) (x3 : Int64) : ∃ t, f_HM_seeing_l40 (nI ap) (nI w) x3 0 σ = (bd (f_HM_answerBy (nI w) t) fun r4 σ3 => if nI w = 0 then (some (r4 - x3, σ3)) else (some (-(r4 - x3), σ3))) ∧ fr [86] [] [] σ t ∧ ∀ p, p < n → t.1 86 p = nI (gm2 T ap w p) := by
  have n60 := h.n60
  unfold f_HM_seeing_l40
  have inner : ∀ (k40 : Int32 → Int32 → Int64 → Int32 → St → Option (Int64 × St)) (p : Nat) (t : St), p < n → fr [86] [] [] σ t → (∀ q, q < p → t.1 86 q = nI (gm2 T ap w q)) → t.1 86 p = nI p → ∃ t', f_HM_seeing_l64 k40 (nI ap) (nI w) x3 (nI p) (nI p - 1) t = k40 (nI ap) (nI w) x3 (nI (p + 1)) t' ∧ fr [86] [] [] σ t' ∧ (∀ q, q < p → t'.1 86 q = nI (gm2 T ap w q)) ∧ t'.1 86 p = nI (gm2 T ap w p) := by
    intro k40 p t hp hf hq hpp
    unfold f_HM_seeing_l64
    rw [m1sub]
    have kp := (h.1.K hp).2
    have b1 : ib (nI p) 120 = true := ib_nI (by omega) (by decide)
    have b2 : ib (nI p) 60 = true := ib_nI (by omega) (by decide)
    obtain ⟨t', e, i1, i2, i3⟩ := lp_d0 (z := fun _ _ _ _ _ _ => none) (body := f_HM_seeing_b64 k40) (fun k j (t : St) => k (nI ap) (nI w) x3 (nI p) (nI j + (-1)) t) (fun j u => fr [86] [] [] σ u ∧ (∀ q, q < p → u.1 86 q = nI (gm2 T ap w q)) ∧ ((T 1 p = 2 + w ∧ u.1 86 p = nI (gr T ap p)) ∨ (u.1 86 p = nI p ∧ ∀ q, j ≤ q → q < p → ¬ (T 1 p = 2 + w ∧ T 3 q = T 3 p ∧ th T ap q = th T ap p)))) p (fun u => k40 (nI ap) (nI w) x3 (nI (p + 1)) u) (fun k q u hqp hI => by
      obtain ⟨f1, f2, f3⟩ := hI
      have hu : gI u n T := h.fr f1 (by decide) (by decide)
      have hqn : q < n := by omega
      have kq := (h.1.K hqn).2
      have b3 : ib (nI q) 120 = true := ib_nI (by omega) (by decide)
      have b4 : ib (nI q) 60 = true := ib_nI (by omega) (by decide)
      have r3p : rI u 69 (nI p) = nz (T 3 p) := hu.M (j := 3) (by omega) (by omega) hp
      have r3q : rI u 69 (nI q) = nz (T 3 q) := hu.M (j := 3) (by omega) (by omega) hqn
      have e3 := nz_eq (a := T 3 p) (b := T 3 q) (by omega) (by omega)
      have tlp := th_le h.1 ap p hp
      have tlq := th_le h.1 ap q hqn
      have et := nz_eq (a := th T ap p) (b := th T ap q) (by omega) (by omega)
      have grl := (grp_ok T ap p).1
      have r86p : rI u 86 (nI p) = u.1 86 p := by rw [rI, nI_clamp (by omega)]
      have r86q : rI u 86 (nI q) = nI (gm2 T ap w q) := by rw [rI, nI_clamp (by omega)]; exact f2 q hqp
      show ∃ s', f_HM_seeing_b64 k40 k (nI ap) (nI w) x3 (nI p) (nI (q + 1) + (-1)) u = _ ∧ _
      rw [pk_m1, f_HM_seeing_b64, if_neg (nI_pos (by omega)), q_isOf hu hp hw, bd_s]
      have stay : (¬ (T 1 p = 2 + w ∧ T 3 q = T 3 p ∧ th T ap q = th T ap p)) → ∃ s', f_HM_seeing_b117 k (nI ap) (nI w) x3 (nI p) (nI q) u = k (nI ap) (nI w) x3 (nI p) (nI q + (-1)) s' ∧ fr [86] [] [] σ s' ∧ (∀ q, q < p → s'.1 86 q = nI (gm2 T ap w q)) ∧ ((T 1 p = 2 + w ∧ s'.1 86 p = nI (gr T ap p)) ∨ (s'.1 86 p = nI p ∧ ∀ q', q ≤ q' → q' < p → ¬ (T 1 p = 2 + w ∧ T 3 q' = T 3 p ∧ th T ap q' = th T ap p))) := by
        intro hn
        refine ⟨stA u 86 p (u.1 86 p), ?_, f1.A (by simp) _ _, fun q' hq' => ?_, ?_⟩
        · rw [f_HM_seeing_b117, f_HM_seeing_b118, if_pos rfl, ck_p b2, r86p, f_HM_seeing_b148, ck_p b2, lE_d, nI_clamp (by omega)]
        · rw [sA1, if_pos rfl, updD, if_neg (by omega)]; exact f2 q' hq'
        · rw [sA1, if_pos rfl, updD, if_pos rfl]
          rcases f3 with f3 | ⟨f3, f4⟩
          · exact Or.inl f3
          · refine Or.inr ⟨f3, fun q' h1 h2 => ?_⟩
            by_cases e : q' = q
            · rw [e]; exact hn
            · exact f4 q' (by omega) h2
      by_cases c1 : T 1 p = 2 + w
      · rw [if_pos c1, if_neg i10, ck_p b1, ck_p b3, r3p, r3q]
        by_cases c2 : T 3 p = T 3 q
        · rw [if_pos (e3.mpr c2), q_through hu ha hp, bd_s, q_through hu ha hqn, bd_s]
          by_cases c3 : th T ap p = th T ap q
          · rw [if_pos (et.mpr c3)]
            have oq : T 1 q = 2 + w := by
              have o4 := own_4 h.1 hp c1 hw
              rw [← c2] at kq
              omega
            have ge : gr T ap q = gr T ap p := (gr_eq T ap (own_h hw oq) (own_h hw c1)).mpr ⟨c2.symm, c3.symm⟩
            refine ⟨stA u 86 p (nI (gr T ap p)), ?_, f1.A (by simp) _ _, fun q' hq' => ?_, Or.inl ⟨c1, ?_⟩⟩
            · rw [f_HM_seeing_b118, if_neg i10, ck_p b4, r86q, f_HM_seeing_b148, ck_p b2, lE_d, nI_clamp (by omega)]
              unfold gm2
              rw [if_pos oq, ge]
            · rw [sA1, if_pos rfl, updD, if_neg (by omega)]; exact f2 q' hq'
            · rw [sA1, if_pos rfl, updD, if_pos rfl]
          · rw [if_neg (fun z => c3 (et.mp z))]
            exact stay (fun z => c3 z.2.2.symm)
        · rw [if_neg (fun z => c2 (e3.mp z))]
          exact stay (fun z => c2 z.2.1.symm)
      · rw [if_neg c1, if_pos rfl]
        exact stay (fun z => c1 z.1)) (fun k u hI => by
      show f_HM_seeing_b64 k40 k (nI ap) (nI w) x3 (nI p) (nI 0 + (-1)) u = _
      rw [f_HM_seeing_b64, if_pos (by decide), nI_1]) (s := t) (by omega) ⟨hf, hq, Or.inr ⟨hpp, fun q h1 h2 => by omega⟩⟩
    refine ⟨t', e, i1, i2, ?_⟩
    unfold gm2
    rcases i3 with ⟨c1, c2⟩ | ⟨c1, c2⟩
    · rw [if_pos c1]; exact c2
    · rw [c1]
      by_cases o : T 1 p = 2 + w
      · rw [if_pos o]
        obtain ⟨g1, g2, g3, _⟩ := grp_ok T ap p
        by_cases x : gr T ap p < p
        · exact absurd ⟨o, g2, g3⟩ (c2 _ (Nat.zero_le _) x)
        · rw [show gr T ap p = p by omega]
      · rw [if_neg o]
  obtain ⟨t, e, i1, i2⟩ := lp_u0 (z := fun _ _ _ _ _ => none) (body := f_HM_seeing_b40) (fun k p (t : St) => k (nI ap) (nI w) x3 (nI p) t) (fun p t => fr [86] [] [] σ t ∧ ∀ q, q < p → t.1 86 q = nI (gm2 T ap w q)) n (fun t => bd (f_HM_answerBy (nI w) t) fun r4 σ3 => if nI w = 0 then (some (r4 - x3, σ3)) else (some (-(r4 - x3), σ3))) (fun k p t hp hI => by
    obtain ⟨f1, f2⟩ := hI
    have ht : gI t n T := h.fr f1 (by decide) (by decide)
    obtain ⟨t', g1, g2, g3, g4⟩ := inner k p (stA t 86 p (nI p)) hp (f1.A (by simp) _ _) (fun q hq => by rw [sA1, if_pos rfl, updD, if_neg (by omega)]; exact f2 q hq) (by rw [sA1, if_pos rfl, updD, if_pos rfl])
    refine ⟨t', ?_, g2, fun q hq => ?_⟩
    · show f_HM_seeing_b40 k (nI ap) (nI w) x3 (nI p) t = _
      rw [f_HM_seeing_b40, if_neg (by rw [ht.c2]; exact nI_ge hp (by omega)), ck_p (ib_nI (show p < 60 by omega) (by decide)), lE_d, nI_clamp (by omega), g1]
    · by_cases x : q = p
      · rw [x]; exact g4
      · exact g3 q (by omega)) (fun k t hI => by
    have ht : gI t n T := h.fr hI.1 (by decide) (by decide)
    show f_HM_seeing_b40 k (nI ap) (nI w) x3 (nI n) t = _
    rw [f_HM_seeing_b40, if_pos (by rw [ht.c2]; exact nI_le (Nat.le_refl _) (by omega))]) (i := 0) (s := σ) (by omega) (Nat.zero_le _) ⟨fr.rf, fun q hq => by omega⟩
  exact ⟨t, e, i1, i2⟩
end
theorem st_seeing (x1 : Int32) {σ : St} (hI : Inv σ) : stq (f_HG_seeing x1) (f_HM_seeing x1) σ := by
  obtain ⟨n, T, sh, R, D, hg, hp, _⟩ := hI.1.2.2.2.2
  have h9 := hI.1.2.2.1
  have n60 := hg.n60
  unfold stq f_HG_seeing f_HM_seeing
  rcases q_isSet hg x1 with ⟨s, hs, rfl, h13, e1, e2⟩ | ⟨e1, e2⟩
  · obtain ⟨w, hw⟩ : ∃ w, T 13 s = w := ⟨_, rfl⟩
    have hw2 : w < 2 := by omega
    have b1 : ib (nI s) 10 = true := ib_nI hs (by decide)
    have b2 : ib (nI s) 20 = true := ib_nI (by omega) (by decide)
    have b3 : ib (nI w) 2 = true := ib_nI hw2 (by decide)
    obtain ⟨p1, p2⟩ := gP13 hg hs h13
    rw [hw] at p1 p2
    obtain ⟨f1, _⟩ := set_first hg hs h13
    rw [e1, bd_s, if_neg i10, hg.g, ck_t, ck_p b1, p1, ck_p b3]
    rcases q_forC hg hw2 with ⟨nf, b⟩ | ⟨nf, b⟩
    · rw [b, if_neg i10]
      refine ⟨_, σ, σ, rfl, ?_, hI⟩
      rw [e2, bd_s, if_neg i10, ck_p b2, p2, (q_forM hg hw2).1 nf, bd_s, if_neg i10]
    · rw [b, if_pos rfl]
      obtain ⟨σ1, W, bb, a1, a2, a3, a4, a5⟩ := ans_C hg hp hw2 nf h9.1 h9.2
      have fs := fr_scF a2
      have hg1 := hg.sc fs
      obtain ⟨σ2, V, vb, v1, v2, v3, v4⟩ := q_solve (A := 46) (ap := s) (bs := 1000) (ba := 1000) hg1 (Or.inl hs) hw2 nf (by decide) (by decide) rfl a5 (by rw [a2.2.2.1 9 (by simp)]; exact h9.1) (by rw [a2.2.2.1 10 (by simp)]; exact h9.2) (by omega) (by omega)
      rw [nz_lt (show s < 1000 by omega)] at v1
      have fs2 : fr scA scL scF σ σ2 := fs.tr (v2.mo (by decide) (by decide) (by simp))
      have hg2 := hg.sc fs2
      obtain ⟨t, W', b', m1, m2, m3, m4, m5, m6, m7⟩ := ans_M hg2 (hp.sc fs2) hw2 nf
      have hgt := hg2.sc m2
      obtain ⟨u, u1, u2, u3⟩ := q_seeG (ap := s) hgt hw2 hs (W' 0)
      have hMB : MB 1000 1000 (gm2 T s w) (rc T (prt T sh w)) n T u := by
        refine ⟨hgt.fr u2 (by decide) (by decide), fun p hpn => ⟨u3 p hpn, ?_⟩, fun p hpn => by rw [u2.2.1 85 (by simp)]; exact m5 p hpn, by rw [u2.2.2.1 52 (by simp)]; exact m6, by rw [u2.2.2.1 53 (by simp)]; exact m7⟩
        have := (grp_ok T s p).1
        unfold gm2
        split <;> omega
      have gmE : ∀ p q, p < n → q < n → T 1 p = 2 + w → T 1 q = 2 + w → (gr T s p = gr T s q ↔ gm2 T s w p = gm2 T s w q) := fun p q _ _ h1 h2 => by
        unfold gm2
        rw [if_pos h1, if_pos h2]
      have gmOk : grOk T n w (gm2 T s w) := fun p q hp hq h1 h2 e => gr_grOk hg.1 hw2 nf p q hp hq h1 h2 ((gmE p q hp hq h1 h2).mpr e)
      obtain ⟨z, V', vb', y1, y2, y3, y4⟩ := q_answerBy (w := w) hMB hw2 (by omega) (by omega) gmOk (prt_pl hg hp w)
      have un1 := (Sol.uniq hg.1 hw2 (fun _ _ => rfl) (gr_grOk hg.1 hw2 nf) (fun p q hp hq h1 h2 => gmS_eq hg.1 hw2 hp hq h1 h2) a3 m3 0 (by omega)).1
      have un2 := (Sol.uniq hg.1 hw2 (fun _ _ => rfl) (gr_grOk hg.1 hw2 nf) gmE v3 y3 0 (by omega)).1
      rw [a1, bd_s, v1, bd_s, q_gainC hw2, bd_s]
      have fz : fr scA scL scF σ2 z := (m2.tr (u2.mo (by decide) (by decide) (by decide))).tr (y2.mo (by decide) (by decide) (by decide))
      refine ⟨_, σ2, z, rfl, ?_, (hI.sc fs2).sc fz⟩
      obtain ⟨_, p2'⟩ := gP13 hg2 hs h13
      rw [hw] at p2'
      rw [isSet_M hg2 hs h13, bd_s, if_neg i10, ck_p b2, p2', (q_forM hg2 hw2).2 nf, bd_s, if_pos rfl, m1, bd_s, u1, y1, bd_s, if_gain hw2, un1, un2]
  · rw [e1, bd_s, if_pos rfl]
    refine ⟨_, σ, σ, rfl, ?_, hI⟩
    rw [e2, bd_s, if_pos rfl]
