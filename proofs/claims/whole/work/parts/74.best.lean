/-! calls on best answers -/
theorem prt_pl {σ : St} {n : Nat} {T : TT} {sh : Nat → Nat → Nat} (h : gI σ n T) (hp : pI σ T sh) (lo : Nat) : ∀ p, p < n → bnd (rc T (prt T sh lo) p) CB := fun p hpn => bnd_mo (rc_bnd h.1 (prt_12 h.1 (fun s a x y z => (hp s a x y z).1)) p hpn) (by unfold CB; decide)
section
variable {σ : St} {n : Nat} {T : TT} {sh : Nat → Nat → Nat} {w : Nat}
theorem ans_C (h : gI σ n T) (hp : pI σ T sh) (hw : w < 2) (hf : ¬ fgt T n w) (h9 : σ.2.2.1 9 = -1000000) (h10 : σ.2.2.1 10 = -1000000) : ∃ σ' W b, f_HG_valueOfAnswer (nI w) σ = some (W 0, σ') ∧ fr scA scL [] σ σ' ∧ Sol T n w (rc T (prt T sh w)) (gr T 1000) 1000 1000 W b ∧ (∀ p, p < n → T 1 p = 2 + w → σ'.1 55 (gr T 1000 p) = nI (b p)) ∧ (∀ p, p < n → σ'.2.1 46 p = rc T (prt T sh w) p) := by
  obtain ⟨σ1, a1, a2, a3⟩ := q_plan4 h hp (hxw hw)
  have h1 : gI σ1 n T := h.fr a2 (by decide) (by decide)
  obtain ⟨σ2, W, b, b1, b2, b3, b4⟩ := q_solve (A := 46) (ap := 1000) (bs := 1000) (ba := 1000) h1 (Or.inr rfl) hw hf (by decide) (by decide) rfl a3 (by rw [a2.2.2.1 9 (by simp)]; exact h9) (by rw [a2.2.2.1 10 (by simp)]; exact h10) (by omega) (by omega)
  refine ⟨σ2, W, b, ?_, (a2.mo (by simp) (by decide) (by simp)).tr (b2.mo (by decide) (by decide) (by simp)), b3, b4, fun p hpn => ?_⟩
  · unfold f_HG_valueOfAnswer
    rw [a1, bv_s]
    have : f_Solver_solve (rR σ1 0) (nI w) 46 (-1000000) σ1 = some (W 0, σ2) := b1
    rw [this, bd_s]
  · rw [b2.2.1 46 (by decide)]; exact a3 p hpn
theorem lay_M (h : gI σ n T) (hp : pI σ T sh) (hw : w < 2) : ∃ t, (bv (f_HM_layGroups σ) fun σ2 => bv (f_HM_layCounts (nI w) σ2) fun σ4 => some σ4) = some t ∧ fr scA scL scF σ t ∧ MB 1000 1000 (gmS T) (rc T (prt T sh w)) n T t := by
  obtain ⟨t1, a1, a2, a3, a4, a5⟩ := q_layGroups h
  have f1 : fr scA scL scF σ t1 := a2.mo (by decide) (by decide) (by decide)
  obtain ⟨t2, b1, b2, b3⟩ := q_planM (h.sc f1) (hp.sc f1) (hxw hw)
  have f2 : fr scA scL scF σ t2 := f1.tr (fr_84 b2)
  obtain ⟨t3, c1, c2, c3⟩ := q_copy85 (h.sc f2) b3
  refine ⟨t3, ?_, f2.tr (c2.mo (by decide) (by decide) (by decide)), h.sc (f2.tr (c2.mo (by decide) (by decide) (by decide))), fun p hpn => ?_, c3, ?_, ?_⟩
  · unfold f_HM_layCounts
    rw [a1, bv_s, b1, bv_s, c1, bv_s]
  · rw [c2.1 86 (by simp), b2.1 86 (by simp)]; exact a3 p hpn
  · rw [c2.2.2.1 52 (by simp), b2.2.2.1 52 (by simp)]; exact a4
  · rw [c2.2.2.1 53 (by simp), b2.2.2.1 53 (by simp)]; exact a5
theorem bv2 {R : Type} {a : Option St} {f : St → Option St} {t : St} (h : (bv a fun s => bv (f s) fun u => some u) = some t) (k : St → Option R) : (bv a fun s => bv (f s) fun u => k u) = k t := by
  cases a with
  | none => cases h
  | some s =>
    have h' : bv (f s) (fun u => some u) = some t := h
    show bv (f s) (fun u => k u) = k t
    cases e : f s with
    | none => rw [e] at h'; cases h'
    | some u =>
      rw [e] at h'
      have : u = t := by injection h'
      rw [bv_s, this]
theorem ans_M (h : gI σ n T) (hp : pI σ T sh) (hw : w < 2) (hf : ¬ fgt T n w) : ∃ t W b, f_HM_answerOf (nI w) σ = some (W 0, t) ∧ fr scA scL scF σ t ∧ Sol T n w (rc T (prt T sh w)) (gmS T) 1000 1000 W b ∧ (∀ p, p < n → T 1 p = 2 + w → t.1 88 (gmS T p) = nI (b p)) ∧ (∀ p, p < n → t.2.1 85 p = rc T (prt T sh w) p) ∧ t.2.2.1 52 = nz 1000 ∧ t.2.2.1 53 = nz 1000 := by
  obtain ⟨t1, a1, a2, a3⟩ := lay_M h hp hw
  obtain ⟨t, W, b, b1, b2, b3, b4⟩ := q_answerBy (w := w) a3 hw (by omega) (by omega) (gmS_ok h.1 hw hf) (prt_pl h hp w)
  refine ⟨t, W, b, ?_, a2.tr (b2.mo (by decide) (by decide) (by decide)), b3, b4, fun p hpn => ?_, ?_, ?_⟩
  · unfold f_HM_answerOf
    rw [bv2 a1, b1, bd_s]
  · rw [b2.2.1 85 (by decide)]; exact a3.2.2.1 p hpn
  · rw [b2.2.2.1 52 (by simp)]; exact a3.2.2.2.1
  · rw [b2.2.2.1 53 (by simp)]; exact a3.2.2.2.2
end
theorem fr_scF {σ σ' : St} (h : fr scA scL [] σ σ') : fr scA scL scF σ σ' := h.mo (fun k z => z) (fun k z => z) (by simp)
theorem neg_sub64 (a b : Int64) : -(a - b) = b - a := by
  apply Int64.toBitVec_inj.mp
  show -(a.toBitVec - b.toBitVec) = b.toBitVec - a.toBitVec
  rw [BitVec.neg_sub, BitVec.add_comm, ← BitVec.sub_eq_add_neg]
theorem q_gainC {w : Nat} (hw : w < 2) (x y : Int64) (σ : St) : f_HG_gainOf (nI w) x y σ = some (if w = 0 then y - x else -(y - x), σ) := by
  unfold f_HG_gainOf
  have : w = 0 ∨ w = 1 := by omega
  rcases this with rfl | rfl
  · rw [if_pos (show nI 0 = (0 : Int32) from rfl), if_pos rfl]
  · rw [if_neg (by decide), if_neg (by decide), neg_sub64]
theorem if_gain {w : Nat} (hw : w < 2) (x : Int64) (σ : St) : (if nI w = 0 then some (x, σ) else some (-x, σ)) = some (if w = 0 then x else -x, σ) := by
  have : w = 0 ∨ w = 1 := by omega
  rcases this with rfl | rfl
  · rw [if_pos (show nI 0 = (0 : Int32) from rfl), if_pos rfl]
  · rw [if_neg (by decide), if_neg (by decide)]
theorem st_best (x1 x2 : Int32) {σ : St} (hI : Inv σ) : stq (f_HG_best x1 x2) (f_HM_best x1 x2) σ := by
  obtain ⟨n, T, sh, R, D, hg, hp, _⟩ := hI.1.2.2.2.2
  have h9 := hI.1.2.2.1
  unfold stq f_HG_best f_HM_best
  rw [q_isPlayer, bd_s]
  by_cases c : x1 < 0 ∨ (2 : Int32) ≤ x1
  · rw [if_pos c, if_pos rfl]
    refine ⟨_, σ, σ, rfl, ?_, hI⟩
    rw [in01, bd_s, if_pos c, if_pos rfl]
  · rw [if_neg c, if_neg i10]
    by_cases d : x2 < 0 ∨ (3 : Int32) ≤ x2
    · have : (if x2 < 0 then some ((-9000000000000000001 : Int64), σ) else if x2 ≤ 2 then if x2 = 2 then f_HG_best_b32 x2 (1 - x1) σ else f_HG_best_b32 x2 x1 σ else some (-9000000000000000001, σ)) = some (-9000000000000000001, σ) := by
        by_cases y : x2 < 0
        · rw [if_pos y]
        · rw [if_neg y, if_neg (fun z => (le_lt2.mp z) (d.resolve_left y))]
      rw [this]
      refine ⟨_, _, σ, rfl, ?_, hI⟩
      rw [in01, bd_s, if_neg c, if_neg i10, in02, bd_s, if_pos d, if_pos rfl]
    · rw [if_neg (fun z => d (Or.inl z)), if_pos (le_lt2.mpr (fun z => d (Or.inr z)))]
      obtain ⟨u, hu, rfl⟩ := ixn (x := x1) (n := 2) (by decide) c
      have e1u : (1 : Int32) - nI u = nI (1 - u) := pk_sub (a := 1) (by omega)
      -- the class's call
      have cl : ∀ v, v < 2 → (n = 0 ∨ fgt T n v → f_HG_best_b32 x2 (nI v) σ = some (-9000000000000000002, σ)) ∧ (¬ (n = 0 ∨ fgt T n v) → ∃ r σ1, f_HG_best_b32 x2 (nI v) σ = some (r, σ1) ∧ fr scA scL [] σ σ1 ∧ ∃ W b, Sol T n v (rc T (prt T sh v)) (gr T 1000) 1000 1000 W b ∧ r = if x2 = 0 then W 0 else if v = 0 then W 0 - vl T (rc T (prt T sh 5)) n else -(W 0 - vl T (rc T (prt T sh 5)) n)) := by
        intro v hv
        have b1 : ib (nI v) 2 = true := ib_nI hv (by decide)
        unfold f_HG_best_b32
        rw [q_hasGame hg, bd_s]
        refine ⟨fun hh => ?_, fun hh => ?_⟩
        · by_cases n0 : n = 0
          · rw [if_pos n0, if_pos rfl]
          · rw [if_neg n0, if_neg i10, hg.g, ck_t, ck_p b1]
            rcases q_forC hg hv with ⟨a, b⟩ | ⟨a, b⟩
            · rw [b, if_neg i10]
            · exact absurd (hh.resolve_left n0) a
        · have n0 : ¬ n = 0 := fun z => hh (Or.inl z)
          have nf : ¬ fgt T n v := fun z => hh (Or.inr z)
          rw [if_neg n0, if_neg i10, hg.g, ck_t, ck_p b1]
          rcases q_forC hg hv with ⟨a, b⟩ | ⟨a, b⟩
          · exact absurd a nf
          · obtain ⟨σ1, W, bb, a1, a2, a3, a4, a5⟩ := ans_C hg hp hv nf h9.1 h9.2
            rw [b, if_pos rfl, a1, bd_s]
            by_cases x0 : x2 = 0
            · rw [if_pos x0]
              exact ⟨_, σ1, rfl, a2, W, bb, a3, by rw [if_pos x0]⟩
            · rw [if_neg x0]
              obtain ⟨σ2, m1, m2⟩ := q_valC (hg.sc (fr_scF a2)) (hp.sc (fr_scF a2))
              rw [m1, bd_s, q_gainC hv, bd_s]
              exact ⟨_, σ2, rfl, a2.tr (m2.mo (by simp) (by decide) (by simp)), W, bb, a3, by rw [if_neg x0]⟩
      -- the reference's call
      have mm : ∀ v, v < 2 → ∀ s : St, fr scA scL scF σ s → (fgt T n v → ∀ A : St → Option (Int64 × St), (bd (f_HM_isForgetful (nI v) s) fun r3 σ2 => if r3 = 0 then A σ2 else (some ((-9000000000000000002), σ2))) = some (-9000000000000000002, s)) ∧ (¬ fgt T n v → ∀ A : St → Option (Int64 × St), (bd (f_HM_isForgetful (nI v) s) fun r3 σ2 => if r3 = 0 then A σ2 else (some ((-9000000000000000002), σ2))) = A s) := by
        intro v hv s hs
        obtain ⟨q1, q2⟩ := q_forM (hg.sc hs) hv
        exact ⟨fun hh A => by rw [q1 hh, bd_s, if_neg i10], fun hh A => by rw [q2 hh, bd_s, if_pos rfl]⟩
      have gM : ∀ v, v < 2 → ∀ s : St, fr scA scL scF σ s → ¬ n = 0 → ¬ fgt T n v → ∀ W b, Sol T n v (rc T (prt T sh v)) (gr T 1000) 1000 1000 W b → (∃ t, f_HM_answerOf (nI v) s = some (W 0, t) ∧ fr scA scL scF s t) ∧ (∃ t, f_HM_gainOf (nI v) s = some (if v = 0 then W 0 - vl T (rc T (prt T sh 5)) n else -(W 0 - vl T (rc T (prt T sh 5)) n), t) ∧ fr scA scL scF s t) := by
        intro v hv s hs n0 nf W b hS
        obtain ⟨t, W', b', a1, a2, a3, _⟩ := ans_M (hg.sc hs) (hp.sc hs) hv nf
        have un := (Sol.uniq hg.1 hv (fun _ _ => rfl) (gr_grOk hg.1 hv nf) (fun p q hp hq h1 h2 => gmS_eq hg.1 hv hp hq h1 h2) hS a3 0 (by omega)).1
        rw [← un] at a1
        refine ⟨⟨t, a1, a2⟩, ?_⟩
        have f2 := hs.tr a2
        obtain ⟨t2, m1, m2⟩ := q_valM (hg.sc f2) (hp.sc f2)
        refine ⟨t2, ?_, a2.tr (fr_84 m2)⟩
        unfold f_HM_gainOf
        rw [a1, bd_s, m1, bd_s, if_gain hv]
      have main : ∀ v, v < 2 → ∀ (B : St → Option (Int64 × St)), (∀ s, fr scA scL scF σ s → (bd (f_HM_in (nI u).toInt64 0 1 s) fun r3 σ2 => if r3 = 0 then (some ((-9000000000000000001), σ2)) else (bd (f_HM_in x2.toInt64 0 2 σ2) fun r7 σ6 => if r7 = 0 then (some ((-9000000000000000001), σ6)) else (if (rF σ6 43) = 0 then (some ((-9000000000000000002), σ6)) else (if x2 = 2 then (f_HM_best_b46 (nI u) x2 (1 - nI u) σ6) else (f_HM_best_b46 (nI u) x2 (nI u) σ6))))) = if n = 0 then some (-9000000000000000002, s) else (bd (f_HM_isForgetful (nI v) s) fun r3 σ2 => if r3 = 0 then (if x2 = 0 then (bd (f_HM_answerOf (nI v) σ2) fun r9 σ8 => some (r9, σ8)) else (bd (f_HM_gainOf (nI v) σ2) fun r3 σ2 => some (r3, σ2))) else (some ((-9000000000000000002), σ2)))) → ∃ r σ1 σ2, f_HG_best_b32 x2 (nI v) σ = some (r, σ1) ∧ (bd (f_HM_in (nI u).toInt64 0 1 σ1) fun r3 σ2 => if r3 = 0 then (some ((-9000000000000000001), σ2)) else (bd (f_HM_in x2.toInt64 0 2 σ2) fun r7 σ6 => if r7 = 0 then (some ((-9000000000000000001), σ6)) else (if (rF σ6 43) = 0 then (some ((-9000000000000000002), σ6)) else (if x2 = 2 then (f_HM_best_b46 (nI u) x2 (1 - nI u) σ6) else (f_HM_best_b46 (nI u) x2 (nI u) σ6))))) = some (r, σ2) ∧ Inv σ2 := by
        intro v hv _ hB
        obtain ⟨c1, c2⟩ := cl v hv
        rcases Classical.em (n = 0 ∨ fgt T n v) with hh | hh
        · refine ⟨_, σ, σ, c1 hh, ?_, hI⟩
          rw [hB σ fr.rf]
          by_cases n0 : n = 0
          · rw [if_pos n0]
          · rw [if_neg n0]
            exact (mm v hv σ fr.rf).1 (hh.resolve_left n0) _
        · obtain ⟨r, σ1, d1, d2, W, b, d3, d4⟩ := c2 hh
          have n0 : ¬ n = 0 := fun z => hh (Or.inl z)
          have nf : ¬ fgt T n v := fun z => hh (Or.inr z)
          obtain ⟨⟨t1, g1, g2⟩, ⟨t2, g3, g4⟩⟩ := gM v hv σ1 (fr_scF d2) n0 nf W b d3
          by_cases x0 : x2 = 0
          · refine ⟨r, σ1, t1, d1, ?_, (hI.sc (fr_scF d2)).sc g2⟩
            rw [hB σ1 (fr_scF d2), if_neg n0, (mm v hv σ1 (fr_scF d2)).2 nf, if_pos x0, g1, bd_s, d4, if_pos x0]
          · refine ⟨r, σ1, t2, d1, ?_, (hI.sc (fr_scF d2)).sc g4⟩
            rw [hB σ1 (fr_scF d2), if_neg n0, (mm v hv σ1 (fr_scF d2)).2 nf, if_neg x0, g3, bd_s, d4, if_neg x0]
      have pre : ∀ s, fr scA scL scF σ s → (bd (f_HM_in (nI u).toInt64 0 1 s) fun r3 σ2 => if r3 = 0 then (some ((-9000000000000000001), σ2)) else (bd (f_HM_in x2.toInt64 0 2 σ2) fun r7 σ6 => if r7 = 0 then (some ((-9000000000000000001), σ6)) else (if (rF σ6 43) = 0 then (some ((-9000000000000000002), σ6)) else (if x2 = 2 then (f_HM_best_b46 (nI u) x2 (1 - nI u) σ6) else (f_HM_best_b46 (nI u) x2 (nI u) σ6))))) = if n = 0 then some (-9000000000000000002, s) else (if x2 = 2 then (f_HM_best_b46 (nI u) x2 (1 - nI u) s) else (f_HM_best_b46 (nI u) x2 (nI u) s)) := by
        intro s hs
        rw [in01, bd_s, if_neg c, if_neg i10, in02, bd_s, if_neg d, if_neg i10]
        by_cases n0 : n = 0
        · rw [if_pos ((n0_M (hg.sc hs)).mpr n0), if_pos n0]
        · rw [if_neg (fun z => n0 ((n0_M (hg.sc hs)).mp z)), if_neg n0]
      by_cases x2' : x2 = 2
      · rw [if_pos x2', e1u]
        have := main (1 - u) (by omega) (fun s => none) (fun s hs => by
          rw [pre s hs, if_pos x2', e1u]
          unfold f_HM_best_b46 f_HM_best_b81
          rw [e1u]
          have z0 : ¬ x2 = 0 := by rw [x2']; decide
          have z1 : ¬ x2 = 1 := by rw [x2']; decide
          simp only [if_neg z0, if_neg z1])
        rw [e1u] at this
        exact this
      · rw [if_neg x2']
        exact main u hu (fun s => none) (fun s hs => by
          rw [pre s hs, if_neg x2']
          unfold f_HM_best_b46 f_HM_best_b81
          by_cases z0 : x2 = 0
          · simp only [if_pos z0]
          · have z1 : x2 = 1 := by
              obtain ⟨k, hk, e⟩ := ixn (x := x2) (n := 3) (by decide) d
              have : k = 0 ∨ k = 1 ∨ k = 2 := by omega
              rcases this with rfl | rfl | rfl
              · exact absurd e z0
              · exact e
              · exact absurd e x2'
            simp only [if_neg z0, if_pos z1])
