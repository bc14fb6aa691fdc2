theorem Inv.found {σ : St} (h : Inv σ) (x : Int32) : Inv (stF (stF σ 1 x) 40 x) := by
  refine h.rows ((fr.rf.F (by decide) _).F (by decide) _) (iRow_F (iRow_F h.1.1 _ _) _ _) ?_
  unfold iFnd
  rw [sF3, if_neg (by decide), sF3, if_pos rfl, sF3, if_pos rfl]
theorem st_mix (x1 x2 x3 : Int32) {σ : St} (hI : Inv σ) : stq (f_HG_mix x1 x2 x3) (f_HM_mix x1 x2 x3) σ := by
  have hI0 := hI
  obtain ⟨⟨a1, a2, a3, a4, n, T, sh, R, D, hg, hp, hr⟩, b, c⟩ := hI
  unfold stq f_HG_mix f_HM_mix
  rcases q_isSet hg x1 with ⟨s, hs, rfl, h13, e1, e2⟩ | ⟨e1, e2⟩
  · rw [e1, bd_s, if_neg i10, q_HG_isRow, bd_s]
    have so := hg.so hs
    by_cases c2 : x2 < 0 ∨ (8 : Int32) ≤ x2
    · rw [if_pos c2, if_pos rfl]
      refine ⟨_, σ, σ, rfl, ?_, hI0⟩
      rw [e2, bd_s, if_neg i10, q_HM_isRow, bd_s, if_pos c2, if_pos rfl]
    · rw [if_neg c2, if_neg i10]
      obtain ⟨r, hrr, rfl⟩ := ix8 c2
      rw [q_isMissing hrr, bd_s]
      have b8 : ib (nI r) 8 = true := ib_nI hrr (by decide)
      have e63 : ∀ t : St, rI t 63 (nI r) = t.1 63 r := fun t => by rw [rI, nI_clamp (by omega)]
      have e64 : ∀ t : St, rI t 64 (nI r) = t.1 64 r := fun t => by rw [rI, nI_clamp (by omega)]
      rcases a1 r hrr with ⟨l1, l2⟩ | ⟨k, m, k3, m40, l1, l2, l3, l4, l5⟩
      · rw [if_pos l2, if_neg i10, q_found, bd_s]
        refine ⟨_, stF σ 1 1, stF (stF σ 1 1) 40 1, rfl, ?_, hI0.found 1⟩
        have e2' : f_HM_isSet (nI s) (stF σ 1 1) = some (1, stF σ 1 1) := by
          have hg' : gI (stF σ 1 1) n T := hg.fr (fr.rf.F (ka := []) (kl := []) (kf := [1]) (by decide) 1) (by decide) (by decide)
          rcases q_isSet hg' (nI s) with ⟨_, _, _, _, _, z⟩ | ⟨z, _⟩
          · exact z
          · exfalso
            have z2 : f_HG_isSet (nI s) (stF σ 1 1) = some (1, stF σ 1 1) := by
              have : f_HG_isSet (nI s) σ = some (1, σ) := e1
              unfold f_HG_isSet at this ⊢
              have b1 : ib (nI s) 10 = true := ib_nI hs (by decide)
              rw [if_neg (nI_pos (by omega)), if_neg (show ¬ (10 : Int32) ≤ nI s from nI_ge (b := 10) hs (by decide)), hg'.g, ck_t, ck_p b1, hg'.S (by omega) (by omega) hs, nz_lt (by have := t15_e hg hs; omega), if_neg (nI_nle (by omega) (by have := t15_e hg hs; omega))]
            rw [z] at z2
            exact absurd (congrArg (fun o => o.map Prod.fst) z2) (by simp)
        rw [e2', bd_s, if_neg i10, q_HM_isRow, bd_s, if_neg c2, if_neg i10, ck_p b8, e63, sF1, l1, if_neg (by decide), q_mfound, bd_s]
      · rw [if_neg (show ¬ σ.1 47 r = -1000000 by rw [l2]; exact m1_ne k k3), if_pos rfl]
        have b1 : ib (nI s) 10 = true := ib_nI hs (by decide)
        have b2 : ib (nI s) 20 = true := ib_nI (by omega) (by decide)
        have rA : rI σ (rR σ 0 + 14) (nI s) = nI (T 14 s) := by rw [hg.S (by omega) (by omega) hs, nz_lt (by omega)]
        rw [hg.g, ck_t, ck_p b1, rA, q_hasItems hrr l3 m40, bd_s]
        have tA : (nI (T 14 s)).toInt = (T 14 s : Int) := nI_toInt (by omega)
        have hasM : ∀ t : St, t.1 63 r = nI k → t.1 64 r = nI m → t.1 77 s = nI (T 14 s) → ∀ A B : Option (Int64 × St), (if 0 ≤ (rI t 63 (nI r)) then (if x3 < 0 then A else (ck (ib (nI s) 20) <| ck (ib (nI r) 8) <| if (x3.toInt64 + ((rI t 77 (nI s)).toInt64)) ≤ ((rI t 64 (nI r)).toInt64) then B else A)) else none) = if 0 ≤ x3.toInt ∧ x3.toInt + (T 14 s : Int) ≤ m then B else A := by
          intro t t1 t2 t3 A B
          have e77 : rI t 77 (nI s) = nI (T 14 s) := by rw [rI, nI_clamp (by omega)]; exact t3
          rw [e63, t1, if_pos (lane0 k k3), ck_p b2, ck_p b8, e77, e64, t2]
          have i1 : (x3 < 0) ↔ x3.toInt < 0 := by rw [fa_lt]; rfl
          have i2 : (x3.toInt64 + (nI (T 14 s)).toInt64 ≤ (nI m).toInt64) ↔ x3.toInt + (T 14 s : Int) ≤ m := by
            rw [fa_le64, add64, tA, Int32.toInt_toInt64, nI_toInt (by omega)]
          by_cases y : x3 < 0
          · rw [if_pos y, if_neg (fun z => by have := i1.mp y; omega)]
          · rw [if_neg y]
            have y' : ¬ x3.toInt < 0 := fun z => y (i1.mpr z)
            by_cases z : x3.toInt + (T 14 s : Int) ≤ m
            · rw [if_pos (i2.mpr z), if_pos ⟨by omega, z⟩]
            · rw [if_neg (fun q => z (i2.mp q)), if_neg (fun q => z q.2)]
        have a77 : σ.1 77 s = nI (T 14 s) := hg.2.2.2.2.2.2.1 s hs
        by_cases cI : 0 ≤ x3.toInt ∧ x3.toInt + (T 14 s : Int) ≤ m
        · rw [if_pos (show 0 ≤ x3.toInt ∧ 0 ≤ (nI (T 14 s)).toInt ∧ x3.toInt + (nI (T 14 s)).toInt ≤ m by rw [tA]; exact ⟨cI.1, by omega, cI.2⟩), if_neg i10]
          obtain ⟨i, hi31, rfl, hi⟩ := nat_of cI.1
          have him : i + T 14 s ≤ m := by have := cI.2; omega
          unfold f_Shelf_hasShares f_Shelf_hasShares_l6
          obtain ⟨q1, q2⟩ := shC (σ := σ) (i := i) (n := T 14 s) hrr (by omega) (T 14 s) 0 FU 0 (by omega) (by unfold FU; omega)
          have items : ∀ j, j < T 14 s → σ.1 49 (40 * r + (i + j)) = σ.1 65 (40 * r + (i + j)) := fun j hj => l5 (i + j) (by omega)
          -- the reference's part, at a state with the same rows
          have MM : (bd (f_HM_isSet (nI s) σ) fun r3 σ2 => if r3 = 0 then (some ((-9000000000000000001), σ2)) else (bd (f_HM_isRow (nI r) σ2) fun r7 σ6 => if r7 = 0 then (some ((-9000000000000000001), σ6)) else (ck (ib (nI r) 8) <| if 0 ≤ (rI σ6 63 (nI r)) then (if nI i < 0 then (f_HM_mix_b59 σ6) else (ck (ib (nI s) 20) <| ck (ib (nI r) 8) <| if ((nI i).toInt64 + ((rI σ6 77 (nI s)).toInt64)) ≤ ((rI σ6 64 (nI r)).toInt64) then (f_HM_mix_l74 (nI s) (nI r) (nI i) 0 1 0 σ6) else (f_HM_mix_b59 σ6))) else (bd (f_HM_found 1 σ6) fun r17 σ16 => some (r17, σ16))))) = f_HM_mix_l74 (nI s) (nI r) (nI i) 0 1 0 σ := by
            have hm := hasM σ l1 l4 a77 (f_HM_mix_b59 σ) (f_HM_mix_l74 (nI s) (nI r) (nI i) 0 1 0 σ)
            rw [if_pos cI, e63, l1, if_pos (lane0 k k3)] at hm
            rw [e2, bd_s, if_neg i10, q_HM_isRow, bd_s, if_neg c2, if_neg i10, ck_p b8, e63, l1, if_pos (lane0 k k3)]
            exact hm
          rcases Classical.em (∀ j, 0 ≤ j → j < T 14 s → okI (σ.1 49 (40 * r + (i + j)))) with ok | nok
          · have q1' : lp (fun _ _ _ _ _ _ => none) f_Shelf_hasShares_b6 FU (nI r) (nI i) (nI (T 14 s)) 0 0 σ = _ := q1 ok
            rw [q1', bd_s]
            have acE : ac (fun j => σ.1 49 (40 * r + (i + j))) 0 0 (T 14 s) = ac (fun j => σ.1 65 (40 * r + (i + j))) 0 0 (T 14 s) := ac_cg _ _ _ (fun j _ hj => items j (by omega))
            by_cases c12 : ac (fun j => σ.1 49 (40 * r + (i + j))) 0 0 (T 14 s) = 12
            · rw [if_pos c12, if_neg i10]
              obtain ⟨σ1, g1, g2, g3, g4⟩ := giC (σ := σ) (s := s) (r := r) (i := i) (n := T 14 s) hs hrr (by omega) (by omega)
              rw [g1]
              have hg1 : gI σ1 n T := hg.fr g2 (by decide) (by decide)
              have e2' : f_HM_isSet (nI s) σ1 = some (1, σ1) := by
                unfold f_HM_isSet
                have e0 : f_HM_in (nI s).toInt64 0 9 σ1 = some (if nI s < 0 ∨ (10 : Int32) ≤ nI s then 0 else 1, σ1) := q_HM_inN (nI s) 0 9 (by decide) (by decide) σ1
                have nn : ¬ (nI s < 0 ∨ (10 : Int32) ≤ nI s) := fun z => z.elim (nI_pos (by omega)) (nI_ge (b := 10) hs (by decide))
                rw [e0, bd_s, if_neg nn, if_neg i10, ck_p b2, hg1.P hs, show (if T 13 s = 1000 then (-1 : Int32) else nI (T 13 s)) = nI (T 13 s) from if_neg (by omega), if_neg (nI_pos (by omega))]
              have L1 : σ1.1 63 r = nI k := by rw [g2.1 63 (by decide)]; exact l1
              have L4 : σ1.1 64 r = nI m := by rw [g2.1 64 (by decide)]; exact l4
              have A7 : σ1.1 77 s = nI (T 14 s) := by rw [g2.1 77 (by decide)]; exact a77
              have L65 : σ1.1 65 = σ.1 65 := g2.1 65 (by decide)
              obtain ⟨σ2, m1, m2, m3, m4⟩ := giM (σ := σ1) (s := s) (r := r) (i := i) (n := T 14 s) hs hrr (by omega) (by omega) A7
              obtain ⟨v1, _, _⟩ := shM (σ := σ1) (s := s) (r := r) (i := i) (n := T 14 s) hrr hs A7 (by omega) (T 14 s) 0 FU 0 (by omega) (by unfold FU; omega)
              have hm := hasM σ1 L1 L4 A7 (f_HM_mix_b59 σ1) (f_HM_mix_l74 (nI s) (nI r) (nI i) 0 1 0 σ1)
              rw [if_pos cI, e63, L1, if_pos (lane0 k k3)] at hm
              have v1' : f_HM_mix_l74 (nI s) (nI r) (nI i) 0 1 0 σ1 = some (1, σ2) := by
                unfold f_HM_mix_l74
                refine (v1 (fun j x y => ?_)).trans ?_
                · rw [L65, ← items j y]; exact ok j x y
                · rw [L65, ← acE, if_pos c12, m1]
              refine ⟨1, σ1, σ2, rfl, ?_, ?_⟩
              · rw [e2', bd_s, if_neg i10, q_HM_isRow, bd_s, if_neg c2, if_neg i10, ck_p b8, e63, L1, if_pos (lane0 k k3)]
                exact hm.trans v1'
              · have hf : fr [51, 78] [] [1, 40] σ σ2 := (g2.mo (by decide) (by decide) (by decide)).tr (m2.mo (by decide) (by decide) (by decide))
                have F : ∀ k, k ≠ 1 → k ≠ 40 → σ2.2.2.1 k = σ.2.2.1 k := fun k x y => hf.2.2.1 k (by simp [x, y])
                refine ⟨⟨a1.fr hf (by decide), ?_, ⟨by rw [F 9 (by decide) (by decide)]; exact a3.1, by rw [F 10 (by decide) (by decide)]; exact a3.2⟩, a4.fr hf (by decide) (by decide) (by decide) (by decide), n, T, fun s' a => if s' = s ∧ a < T 14 s then (σ.1 49 (40 * r + (i + a))).toNatClampNeg else sh s' a, R, D, hg.fr hf (by decide) (by decide), ?_, hr.fr hf (by decide) (by decide) (by decide) (by decide) (by decide) (by decide)⟩, b.fr hf (by decide) (by decide) (by decide) (by decide), ?_⟩
                · unfold iFnd
                  rw [m3, m2.2.2.1 1 (by decide), g3]
                · intro s' a hs' hs2 ha
                  have r51 : σ2.1 51 (3 * s' + a) = σ1.1 51 (3 * s' + a) := by rw [m2.1 51 (by decide)]
                  have r78 : σ1.1 78 (3 * s' + a) = σ.1 78 (3 * s' + a) := by rw [g2.1 78 (by decide)]
                  rw [r51, g4, m4, L65, r78]
                  have so' := hg.so hs'
                  by_cases x : s' = s
                  · subst x
                    rw [if_pos (show 3 * s' ≤ 3 * s' + a ∧ 3 * s' + a < 3 * s' + T 14 s' by omega), if_pos (show 3 * s' ≤ 3 * s' + a ∧ 3 * s' + a < 3 * s' + T 14 s' by omega), show 3 * s' + a - 3 * s' = a by omega, ← items a ha]
                    obtain ⟨v, hv, ev⟩ := okI_n (ok a (Nat.zero_le _) ha)
                    simp only [and_true, true_and, if_pos ha]
                    rw [ev, nI_clamp (by omega)]
                    exact ⟨hv, rfl, rfl⟩
                  · rw [if_neg (by omega), if_neg (by omega)]
                    simp only [x, false_and, if_false]
                    exact hp s' a hs' hs2 ha
                · rw [F 0 (by decide) (by decide), F 42 (by decide) (by decide)]; exact c
            · rw [if_neg c12, if_pos rfl]
              obtain ⟨v1, _, _⟩ := shM (σ := σ) (s := s) (r := r) (i := i) (n := T 14 s) hrr hs a77 (by omega) (T 14 s) 0 FU 0 (by omega) (by unfold FU; omega)
              refine ⟨_, σ, σ, rfl, MM.trans ?_, hI0⟩
              unfold f_HM_mix_l74
              refine (v1 (fun j x y => ?_)).trans ?_
              · rw [← items j y]; exact ok j x y
              · rw [← acE, if_neg c12]
          · have nok' : ∃ j, 0 ≤ j ∧ j < T 14 s ∧ ¬ okI (σ.1 49 (40 * r + (i + j))) := by
              apply Classical.byContradiction
              intro z
              exact nok (fun j x y => Classical.byContradiction fun q => z ⟨j, x, y, q⟩)
            have q2' : lp (fun _ _ _ _ _ _ => none) f_Shelf_hasShares_b6 FU (nI r) (nI i) (nI (T 14 s)) 0 0 σ = some (0, σ) := q2 nok'
            rw [q2', bd_s, if_pos rfl]
            obtain ⟨_, v2, _⟩ := shM (σ := σ) (s := s) (r := r) (i := i) (n := T 14 s) hrr hs a77 (by omega) (T 14 s) 0 FU 0 (by omega) (by unfold FU; omega)
            refine ⟨_, σ, σ, rfl, MM.trans ?_, hI0⟩
            unfold f_HM_mix_l74
            obtain ⟨j, j1, j2, j3⟩ := nok'
            exact v2 ⟨j, j1, j2, by rw [← items j j2]; exact j3⟩
        · rw [if_neg (show ¬ (0 ≤ x3.toInt ∧ 0 ≤ (nI (T 14 s)).toInt ∧ x3.toInt + (nI (T 14 s)).toInt ≤ m) by rw [tA]; exact fun z => cI ⟨z.1, z.2.2⟩), if_pos rfl, q_found, bd_s]
          refine ⟨_, stF σ 1 2, stF (stF σ 1 2) 40 2, rfl, ?_, hI0.found 2⟩
          have hg' : gI (stF σ 1 2) n T := hg.fr (fr.rf.F (ka := []) (kl := []) (kf := [1]) (by decide) 2) (by decide) (by decide)
          have e2' : f_HM_isSet (nI s) (stF σ 1 2) = some (1, stF σ 1 2) := by
            unfold f_HM_isSet
            have e0 : f_HM_in (nI s).toInt64 0 9 (stF σ 1 2) = some (if nI s < 0 ∨ (10 : Int32) ≤ nI s then 0 else 1, stF σ 1 2) := q_HM_inN (nI s) 0 9 (by decide) (by decide) _
            have nn : ¬ (nI s < 0 ∨ (10 : Int32) ≤ nI s) := fun z => z.elim (nI_pos (by omega)) (nI_ge (b := 10) hs (by decide))
            rw [e0, bd_s, if_neg nn, if_neg i10, ck_p b2, hg'.P hs, show (if T 13 s = 1000 then (-1 : Int32) else nI (T 13 s)) = nI (T 13 s) from if_neg (by omega), if_neg (nI_pos (by omega))]
          have hm := hasM (stF σ 1 2) l1 l4 a77 (f_HM_mix_b59 (stF σ 1 2)) (f_HM_mix_l74 (nI s) (nI r) x3 0 1 0 (stF σ 1 2))
          rw [if_neg cI, e63, sF1, l1, if_pos (lane0 k k3)] at hm
          rw [e2', bd_s, if_neg i10, q_HM_isRow, bd_s, if_neg c2, if_neg i10, ck_p b8, e63, sF1, l1, if_pos (lane0 k k3)]
          refine hm.trans ?_
          unfold f_HM_mix_b59
          rw [q_mfound, bd_s]
  · rw [e1, bd_s, if_pos rfl]
    refine ⟨_, σ, σ, rfl, ?_, hI0⟩
    rw [e2, bd_s, if_pos rfl]
def bl (T : TT) (c : Nat → Int64) (s n : Nat) : Int64 := sL (fun q => if T 3 q = s then c q else 0) n
theorem st_belief (x1 x2 : Int32) {σ : St} (hI : Inv σ) : stq (f_HG_belief x1 x2) (f_HM_belief x1 x2) σ := by
  obtain ⟨n, T, sh, R, D, hg, hp, _⟩ := hI.1.2.2.2.2
  have n60 := hg.n60
  unfold stq f_HG_belief f_HM_belief
  rw [q_isPlaceC hg, bd_s]
  by_cases c : x1 < 0 ∨ nI n ≤ x1
  · rw [if_pos c, if_pos rfl]
    refine ⟨_, _, σ, rfl, ?_, hI⟩
    rw [q_isPlaceM hg, bd_s, if_pos c, if_pos rfl]
  · rw [if_neg c, if_neg i10]
    obtain ⟨p, hpn, rfl⟩ := ixn (by omega) c
    have b1 : ib (nI p) 60 = true := ib_nI (by omega) (by decide)
    have b2 : ib (nI p) 120 = true := ib_nI (by omega) (by decide)
    have kk := (hg.1.K hpn).2
    have r3 : rI σ 69 (nI p) = nz (T 3 p) := hg.M (j := 3) (by omega) (by omega) hpn
    rw [hg.g, ck_t, q_isHeld hg.g hg.1 hpn (hg.2.2.1.1 1 p (by omega) (by omega) hpn), bd_s]
    by_cases ch : T 1 p = 2 ∨ T 1 p = 3
    · rw [if_pos ch, if_neg i10]
      have ne3 : ¬ nz (T 3 p) = -1000000 := fun z => by have := (nz_eq0 (show T 3 p ≤ 1000 by omega)).mp z; omega
      by_cases d : x2 < 0 ∨ (2 : Int32) ≤ x2
      · have : (if x2 < 0 then some ((-9000000000000000001 : Int64), σ) else if x2 ≤ 1 then (bv (f_Plan_workOut 4 (rR σ 0) ((-1000000)) 46 σ) fun σ13 => if x2 = 0 then (ck (ib (nI p) 60) <| some (rL σ13 46 (nI p), σ13)) else (f_HG_belief_l65 (nI p) 0 0 σ13)) else (some ((-9000000000000000001), σ))) = some (-9000000000000000001, σ) := by
          by_cases y : x2 < 0
          · rw [if_pos y]
          · rw [if_neg y, if_neg (fun z => (le_lt1.mp z) (d.resolve_left y))]
        rw [this]
        refine ⟨_, _, σ, rfl, ?_, hI⟩
        rw [q_isPlaceM hg, bd_s, if_neg c, if_neg i10, ck_p b2, r3, if_neg ne3, in01, bd_s, if_pos d, if_pos rfl]
      · rw [if_neg (fun z => d (Or.inl z)), if_pos (le_lt1.mpr (fun z => d (Or.inr z)))]
        obtain ⟨σ1, a1, a2, a3⟩ := q_plan4 hg hp hxN
        have f1 := fr_46 a2
        have hg1 := hg.sc f1
        obtain ⟨σ2, m1, m2, m3⟩ := q_planM hg1 (hp.sc f1) hxM
        have f2 := fr_84 m2
        have hg2 := hg1.sc f2
        have sumC : f_HG_belief_l65 (nI p) 0 0 σ1 = some (bl T (rc T (prt T sh 5)) (T 3 p) n, σ1) := by
          unfold f_HG_belief_l65
          have key : ∀ (k : Int32 → Int64 → Int32 → St → Option (Int64 × St)) (i : Nat), i < n → f_HG_belief_b65 k (nI p) (bl T (rc T (prt T sh 5)) (T 3 p) i) (nI i) σ1 = k (nI p) (bl T (rc T (prt T sh 5)) (T 3 p) (i + 1)) (nI (i + 1)) σ1 := by
            intro k i hi
            have b3 : ib (nI i) 60 = true := ib_nI (by omega) (by decide)
            have ki := (hg.1.K hi).2
            have vv : rL σ1 46 (nI i) = rc T (prt T sh 5) i := by rw [rL, nI_clamp (by omega)]; exact a3 i hi
            have e3 := nz_eq (a := T 3 i) (b := T 3 p) (by omega) (by omega)
            unfold f_HG_belief_b65 f_HG_belief_b109
            rw [hg1.g, ck_t, hg1.c1, if_neg (nI_ge hi (by omega)), ck_p b3, ck_p b1, hg1.C (by omega) (by omega) hi, hg1.C (by omega) (by omega) hpn, vv, nI_1]
            show _ = k (nI p) (bl T (rc T (prt T sh 5)) (T 3 p) i + if T 3 i = T 3 p then rc T (prt T sh 5) i else 0) (nI (i + 1)) σ1
            by_cases e : T 3 i = T 3 p
            · rw [if_pos (e3.mpr e), if_pos e, ck_p b3]
            · rw [if_neg (fun z => e (e3.mp z)), if_neg e, Int64.add_zero]
          obtain ⟨t, e, ht⟩ := lp_u0 (z := fun _ _ _ _ => none) (body := f_HG_belief_b65) (fun k i (t : St) => k (nI p) (bl T (rc T (prt T sh 5)) (T 3 p) i) (nI i) t) (fun i t => t = σ1) n (fun t => some (bl T (rc T (prt T sh 5)) (T 3 p) n, t)) (fun k i t hi hI => by
            subst hI
            exact ⟨t, key k i hi, rfl⟩) (fun k t hI => by
            subst hI
            show f_HG_belief_b65 k (nI p) _ (nI n) t = _
            rw [f_HG_belief_b65, hg1.g, ck_t, hg1.c1, if_pos (nI_le (Nat.le_refl _) (by omega))]) (i := 0) (s := σ1) (by omega) (Nat.zero_le _) rfl
          rw [ht] at e
          exact e
        have sumM : f_HM_belief_l44 (nI p) x2 0 0 σ2 = if x2 = 0 then some (rc T (prt T sh 5) p, σ2) else some (bl T (rc T (prt T sh 5)) (T 3 p) n, σ2) := by
          unfold f_HM_belief_l44
          have key : ∀ (k : Int32 → Int32 → Int64 → Int32 → St → Option (Int64 × St)) (i : Nat), i < n → f_HM_belief_b44 k (nI p) x2 (bl T (rc T (prt T sh 5)) (T 3 p) i) (nI i) σ2 = k (nI p) x2 (bl T (rc T (prt T sh 5)) (T 3 p) (i + 1)) (nI (i + 1)) σ2 := by
            intro k i hi
            have b3 : ib (nI i) 120 = true := ib_nI (by omega) (by decide)
            have b4 : ib (nI i) 60 = true := ib_nI (by omega) (by decide)
            have ki := (hg.1.K hi).2
            have vv : rL σ2 84 (nI i) = rc T (prt T sh 5) i := by rw [rL, nI_clamp (by omega)]; exact m3 i hi
            have e3 := nz_eq (a := T 3 i) (b := T 3 p) (by omega) (by omega)
            have s1 : rI σ2 69 (nI i) = nz (T 3 i) := hg2.M (j := 3) (by omega) (by omega) hi
            have s2 : rI σ2 69 (nI p) = nz (T 3 p) := hg2.M (j := 3) (by omega) (by omega) hpn
            unfold f_HM_belief_b44 f_HM_belief_b81
            rw [hg2.c2, if_neg (nI_ge hi (by omega)), ck_p b3, ck_p b2, s1, s2, vv, nI_1]
            show _ = k (nI p) x2 (bl T (rc T (prt T sh 5)) (T 3 p) i + if T 3 i = T 3 p then rc T (prt T sh 5) i else 0) (nI (i + 1)) σ2
            by_cases e : T 3 i = T 3 p
            · rw [if_pos (e3.mpr e), if_pos e, ck_p b4]
            · rw [if_neg (fun z => e (e3.mp z)), if_neg e]
          obtain ⟨t, e, ht⟩ := lp_u0 (z := fun _ _ _ _ _ => none) (body := f_HM_belief_b44) (fun k i (t : St) => k (nI p) x2 (bl T (rc T (prt T sh 5)) (T 3 p) i) (nI i) t) (fun i t => t = σ2) n (fun t => if x2 = 0 then some (rc T (prt T sh 5) p, t) else some (bl T (rc T (prt T sh 5)) (T 3 p) n, t)) (fun k i t hi hI => by
            subst hI
            exact ⟨t, key k i hi, rfl⟩) (fun k t hI => by
            subst hI
            show f_HM_belief_b44 k (nI p) x2 _ (nI n) t = _
            rw [f_HM_belief_b44, hg2.c2, if_pos (nI_le (Nat.le_refl _) (by omega)), ck_p b1, rL, nI_clamp (by omega), m3 p hpn]) (i := 0) (s := σ2) (by omega) (Nat.zero_le _) rfl
          rw [ht] at e
          exact e
        rw [a1, bv_s, ck_p b1, sumC]
        have MM : (bd (f_HM_isPlace (nI p) σ1) fun r3 σ2 => if r3 = 0 then (some ((-9000000000000000001), σ2)) else (ck (ib (nI p) 120) <| if (rI σ2 69 (nI p)) = ((-1000000)) then (some ((-9000000000000000001), σ2)) else (bd (f_HM_in x2.toInt64 0 1 σ2) fun r9 σ8 => if r9 = 0 then (some ((-9000000000000000001), σ8)) else (bv (f_HM_layReach ((-1)) ((-1)) σ8) fun σ12 => f_HM_belief_l44 (nI p) x2 0 0 σ12)))) = if x2 = 0 then some (rc T (prt T sh 5) p, σ2) else some (bl T (rc T (prt T sh 5)) (T 3 p) n, σ2) := by
          have s2 : rI σ1 69 (nI p) = nz (T 3 p) := hg1.M (j := 3) (by omega) (by omega) hpn
          rw [q_isPlaceM hg1, bd_s, if_neg c, if_neg i10, ck_p b2, s2, if_neg ne3, in01, bd_s, if_neg d, if_neg i10, m1, bv_s, sumM]
        by_cases x0 : x2 = 0
        · rw [if_pos x0] at MM ⊢
          refine ⟨_, σ1, σ2, rfl, MM.trans ?_, (hI.sc f1).sc f2⟩
          rw [rL, nI_clamp (by omega), a3 p hpn]
        · rw [if_neg x0] at MM ⊢
          exact ⟨_, σ1, σ2, rfl, MM, (hI.sc f1).sc f2⟩
    · rw [if_neg ch, if_pos rfl]
      refine ⟨_, _, σ, rfl, ?_, hI⟩
      rw [q_isPlaceM hg, bd_s, if_neg c, if_neg i10, ck_p b2, r3, if_pos ((nz_eq0 (by omega)).mpr (by omega))]
