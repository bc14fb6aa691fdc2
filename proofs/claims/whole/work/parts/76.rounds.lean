/-! rounds -/
def cnt (T : TT) (D : Nat → Nat → Nat) (w R p : Nat) : Int64 := sL (fun r => rc T (prt T (rsh D r) w) p) R
def rC (s : St) (n : Nat) (T : TT) (R : Nat) (D : Nat → Nat → Nat) : Prop := R ≤ 60 ∧ s.2.2.1 11 = nI R ∧ (∀ r q, r < R → q < 10 → D r q < 3 ∧ s.1 58 (10 * r + q) = nI (D r q) ∧ (T 13 q ≠ 1000 → D r q < T 14 q)) ∧ (∀ w p, w < 2 → p < n → s.2.1 (59 + w) p = cnt T D w R p)
def rM (s : St) (T : TT) (R : Nat) (D : Nat → Nat → Nat) : Prop := s.2.2.1 44 = nI R ∧ (∀ r q, r < R → q < 10 → T 13 q ≠ 1000 → s.1 79 (10 * r + q) = nI (D r q))
def genAt (T : TT) (n : Nat) (D : Nat → Nat → Nat) (r : Nat) : Prop := ∀ q, q < 10 → T 13 q ≠ 1000 → (r = 0 → D r q = 0) ∧ (0 < r → ∃ W b, Sol T n (T 13 q) (cnt T D (T 13 q) r) (gr T 1000) 1000 1000 W b ∧ D r q = b (T 16 q))
theorem rdI_iff {s : St} {n : Nat} {T : TT} {R : Nat} {D : Nat → Nat → Nat} : rdI s n T R D ↔ rC s n T R D ∧ rM s T R D ∧ (0 < R → 0 < n ∧ ¬ fgt T n 0 ∧ ¬ fgt T n 1) := by
  constructor
  · rintro ⟨r1, r2, r3, r4, r5, r6⟩
    exact ⟨⟨r1, r2, fun r q a b => ⟨(r5 r q a b).1, (r5 r q a b).2.1, fun z => ((r5 r q a b).2.2 z).1⟩, r6⟩, ⟨r3, fun r q a b z => ((r5 r q a b).2.2 z).2⟩, r4⟩
  · rintro ⟨⟨a1, a2, a3, a4⟩, ⟨b1, b2⟩, c⟩
    exact ⟨a1, a2, b1, c, fun r q x y => ⟨(a3 r q x y).1, (a3 r q x y).2.1, fun z => ⟨(a3 r q x y).2.2 z, b2 r q x y z⟩⟩, a4⟩
theorem rsh_12 (D : Nat → Nat → Nat) (r s a : Nat) : rsh D r s a ≤ 12 := by unfold rsh; split <;> omega
theorem cnt_bnd {n : Nat} {T : TT} (h : wf n T) (D : Nat → Nat → Nat) (w : Nat) {R : Nat} (hR : R ≤ 60) : ∀ p, p < n → bnd (cnt T D w R p) CB := by
  intro p hp
  unfold cnt
  refine bnd_mo (sL_bnd (M := 429981696) R (fun r _ => rc_bnd h (prt_12 h (fun s a _ _ _ => rsh_12 D r s a)) p hp) ?_) ?_
  · have : R * 429981696 ≤ 60 * 429981696 := Nat.mul_le_mul_right _ hR
    exact Nat.lt_of_le_of_lt this (by decide)
  · exact Nat.mul_le_mul_right _ hR
theorem rc_cg {n : Nat} {T : TT} (h : wf n T) {pt pt' : Nat → Nat} (he : ∀ p, 0 < p → p < n → pt p = pt' p) : ∀ p, p < n → rc T pt p = rc T pt' p := by
  intro p
  induction p using Nat.strongRecOn with
  | ind p ih =>
    intro hp
    rcases wf_5 h hp with ⟨p0, _⟩ | ⟨p0, a1⟩
    · rw [p0, rc_0, rc_0]
    · rw [rc_s a1, rc_s a1, ih _ a1 (by omega), he p p0 hp]
theorem cnt_cg {n : Nat} {T : TT} (h : wf n T) {D D' : Nat → Nat → Nat} {w R : Nat} (he : ∀ r q, r < R → q < 10 → D r q = D' r q) : ∀ p, p < n → cnt T D w R p = cnt T D' w R p := by
  intro p hp
  unfold cnt
  apply sL_cg
  intro r hr
  refine rc_cg h (fun p' p0 hp' => ?_) p hp
  obtain ⟨a1, a7, ac, _⟩ := ab_ok h hp' p0
  unfold prt
  by_cases c1 : T 1 (T 5 p') = 1
  · rw [if_pos c1, if_pos c1]
  · rw [if_neg c1, if_neg c1]
    unfold rsh
    rw [he r _ hr (by omega)]
section
variable {n : Nat} {T : TT}
theorem q_reachOf {w : Nat} (hw : w < 2) (s : St) : f_History_reachOf (nI w) s = some (59 + w, s) := by
  unfold f_History_reachOf
  have : w = 0 ∨ w = 1 := by omega
  rcases this with rfl | rfl
  · rw [if_pos (show nI 0 = (0 : Int32) from rfl)]
  · rw [if_neg (by decide)]
theorem q_note {s : St} {w R : Nat} {c : Nat → Int64} (h : gI s n T) (hw : w < 2) (hf : ¬ fgt T n w) (h9 : s.2.2.1 9 = -1000000) (h10 : s.2.2.1 10 = -1000000) (hR : R < 60) (h11 : s.2.2.1 11 = nI R) (hc : ∀ p, p < n → s.2.1 (59 + w) p = c p) : ∃ t W b, f_History_noteAnswer (rR s 0) (nI w) s = some t ∧ fr [54, 55, 57, 58] [53, 56] [] s t ∧ Sol T n w c (gr T 1000) 1000 1000 W b ∧ (∀ q, q < 10 → T 13 q = w → t.1 58 (10 * R + q) = nI (b (T 16 q)) ∧ b (T 16 q) < T 14 q) ∧ (∀ m, (∀ q, q < 10 → T 13 q = w → m ≠ 10 * R + q) → t.1 58 m = s.1 58 m) := by
  have n60 := h.n60
  have iL : isL (59 + w) = true := by
    have : w = 0 ∨ w = 1 := by omega
    rcases this with rfl | rfl <;> rfl
  obtain ⟨s1, W, b, a1, a2, a3, a4⟩ := q_solve (A := 59 + w) (ap := 1000) (bs := 1000) (ba := 1000) h (Or.inr rfl) hw hf (by omega) (by omega) iL hc h9 h10 (by omega) (by omega)
  have h1 : gI s1 n T := h.fr a2 (by decide) (by decide)
  have a1' : f_Solver_solve (rR s 0) (nI w) (59 + w) (-1000000) s = some (W 0, s1) := a1
  have e11 : s1.2.2.1 11 = nI R := by rw [a2.2.2.1 11 (by simp)]; exact h11
  generalize hgE : rR s 0 = g at a1'
  have hg1 : rR s1 0 = g := by rw [← hgE]; show s1.2.2.2 0 = _; rw [a2.2.2.2]
  have bl : ∀ q, q < 10 → T 13 q = w → T 16 q < n ∧ T 1 (T 16 q) = 2 + w ∧ gr T 1000 (T 16 q) = T 16 q ∧ b (T 16 q) < T 14 q := by
    intro q hq hqw
    obtain ⟨f1, f2, f3, f4, f5⟩ := set_first h hq (by omega)
    rw [hqw] at f3
    have o4 := own_4 h.1 f1 f3 hw
    rw [f2] at o4
    refine ⟨f1, f3, f4, ?_⟩
    rw [a3.2 _ f1 f3]
    have := (chs_cg (w := w) (S := su T n w (gr T 1000) W (gr T 1000 (T 16 q))) (br := brr 1000 1000 (T 3 (T 16 q))) o4.1 (fun a _ => rfl)).2
    omega
  unfold f_History_noteAnswer f_History_noteAnswer_l17
  rw [show isG g = true by rw [← hgE]; exact h.g, ck_t, q_reachOf hw, bd_s, a1', bd_s]
  obtain ⟨t, e, i1, i2, i3⟩ := lp_u0 (z := fun _ _ _ => none) (body := f_History_noteAnswer_b17 g) (fun k q (t : St) => k (nI w) (nI q) t) (fun j t => fr [58] [] [] s1 t ∧ (∀ q, q < j → T 13 q = w → t.1 58 (10 * R + q) = nI (b (T 16 q))) ∧ (∀ m, (∀ q, q < 10 → T 13 q = w → m ≠ 10 * R + q) → t.1 58 m = s1.1 58 m)) 10 (fun t => some t) (fun k q t hq hI => by
    obtain ⟨f1, f2, f3⟩ := hI
    have ht : gI t n T := h1.fr f1 (by decide) (by decide)
    have hgt : rR t 0 = g := by rw [← hg1]; show t.2.2.2 0 = _; rw [f1.2.2.2]
    have b1 : ib (nI q) 10 = true := ib_nI hq (by decide)
    have so := h.so hq
    have r13 : rI t (g + 13) (nI q) = nz (T 13 q) := by
      have := ht.S (j := 13) (by omega) (by omega) hq
      rw [hgt] at this
      exact this
    have e13 := nz_eqI (a := T 13 q) (b := w) (by omega) (by omega)
    have t11 : rF t 11 = nI R := by rw [rF, f1.2.2.1 11 (by simp)]; exact e11
    show ∃ s', f_History_noteAnswer_b17 g k (nI w) (nI q) t = _ ∧ _
    rw [f_History_noteAnswer_b17, if_neg (show ¬ (10 : Int32) ≤ nI q from nI_ge (b := 10) hq (by decide)), ck_p b1, r13]
    unfold f_History_noteAnswer_b57
    rw [nI_1]
    by_cases x : T 13 q = w
    · obtain ⟨g1, g2, g3, g4⟩ := bl q hq x
      have act : f_Solver_actOf g (nI q) t = some (nI (b (T 16 q)), t) := by
        unfold f_Solver_actOf
        have r16 : rI t (g + 16) (nI q) = nI (T 16 q) := by
          have := ht.S (j := 16) (by omega) (by omega) hq
          rw [hgt, nz_lt (by omega)] at this
          exact this
        rw [show isG g = true by rw [← hgt]; exact ht.g, ck_t, ck_p b1, r16, ck_p (ib_nI (show T 16 q < 60 by omega) (by decide)), rI, nI_clamp (by omega), f1.1 55 (by simp)]
        have := a4 (T 16 q) g1 g2
        rw [g3] at this
        rw [this]
      rw [if_pos (e13.mpr x), act, bd_s, t11, show nI R * 10 + nI q = nI (10 * R + q) by rw [show (10 : Int32) = nI 10 from rfl, pk_mul, nI_add, Nat.mul_comm], ck_p (ib_nI (show 10 * R + q < 600 by omega) (by decide)), lE_d, nI_clamp (by omega)]
      refine ⟨_, rfl, f1.A (by simp) _ _, fun q' hq' hqw => ?_, fun m hm => ?_⟩
      · rw [sA1, if_pos rfl, updD]
        by_cases y : q' = q
        · rw [if_pos (by omega), y]
        · rw [if_neg (by omega)]; exact f2 q' (by omega) hqw
      · rw [sA1, if_pos rfl, updD, if_neg (hm q hq x)]; exact f3 m hm
    · rw [if_neg (fun z => x (e13.mp z))]
      refine ⟨_, rfl, f1, fun q' hq' hqw => ?_, f3⟩
      by_cases y : q' = q
      · rw [y] at hqw; exact absurd hqw x
      · exact f2 q' (by omega) hqw) (fun k t hI => by
    show f_History_noteAnswer_b17 g k (nI w) (nI 10) t = some t
    rw [f_History_noteAnswer_b17, if_pos (show (10 : Int32) ≤ nI 10 by decide)]) (i := 0) (s := s1) (by omega) (by omega) ⟨fr.rf, fun q hq => by omega, fun m _ => rfl⟩
  refine ⟨t, W, b, e, (a2.mo (by decide) (by decide) (by simp)).tr (i1.mo (by decide) (by simp) (by simp)), a3, fun q hq hqw => ⟨i2 q hq hqw, (bl q hq hqw).2.2.2⟩, fun m hm => ?_⟩
  rw [i3 m hm, a2.1 58 (by decide)]
theorem q_putInto {s : St} {Q k : Nat} {d : Nat → Nat} (hQ : isP Q = true) (hk : k < 60) (hd : ∀ q, q < 10 → d q < 3 ∧ s.1 58 (10 * k + q) = nI (d q)) : ∃ t, f_History_putInto Q (nI k) s = some t ∧ fr [Q + 47] [] [] s t ∧ ∀ q a, q < 10 → a < 3 → t.1 (Q + 47) (3 * q + a) = nI (if d q = a then 12 else 0) := by
  have q58 : Q + 47 ≠ 58 := by rcases isP_e hQ with h | h <;> omega
  unfold f_History_putInto f_History_putInto_l2
  rw [hQ, ck_t]
  obtain ⟨t, e, i1, i2⟩ := lp_u0 (z := fun _ _ _ => none) (body := f_History_putInto_b2 Q) (fun kk j (t : St) => kk (nI k) (nI j) t) (fun j t => fr [Q + 47] [] [] s t ∧ ∀ q a, q < j → a < 3 → t.1 (Q + 47) (3 * q + a) = nI (if d q = a then 12 else 0)) 10 (fun t => some t) (fun kk q t hq hI => by
    obtain ⟨f1, f2⟩ := hI
    obtain ⟨d1, d2⟩ := hd q hq
    have r58 : rI t 58 (nI (10 * k + q)) = nI (d q) := by rw [rI, nI_clamp (by omega), f1.1 58 (fun z => q58 (List.mem_singleton.mp z).symm)]; exact d2
    obtain ⟨t', g1, g2, g3⟩ := @q_giveAll Q q (d q) t hQ hq (by omega)
    refine ⟨t', ?_, f1.tr g2, fun q' a hq' ha => ?_⟩
    · show f_History_putInto_b2 Q kk (nI k) (nI q) t = _
      rw [f_History_putInto_b2, if_neg (show ¬ (10 : Int32) ≤ nI q from nI_ge (b := 10) hq (by decide)), show nI k * 10 + nI q = nI (10 * k + q) by rw [show (10 : Int32) = nI 10 from rfl, pk_mul, nI_add, Nat.mul_comm], ck_p (ib_nI (show 10 * k + q < 600 by omega) (by decide)), r58, g1, bv_s, nI_1]
    · rw [g3]
      by_cases y : q' = q
      · subst y
        rw [if_pos (show 3 * q' ≤ 3 * q' + a ∧ 3 * q' + a < 3 * q' + 3 by omega)]
        by_cases z : d q' = a
        · rw [if_pos (by omega), if_pos z]; rfl
        · rw [if_neg (by omega), if_neg z]; rfl
      · rw [if_neg (by omega)]
        exact f2 q' a (by omega) ha) (fun kk t hI => by
    show f_History_putInto_b2 Q kk (nI k) (nI 10) t = some t
    rw [f_History_putInto_b2, if_pos (show (10 : Int32) ≤ nI 10 by decide)]) (i := 0) (s := s) (by omega) (by omega) ⟨fr.rf, fun q a hq => by omega⟩
  exact ⟨t, e, i1, i2⟩
theorem q_addReach {s : St} {w R : Nat} {D : Nat → Nat → Nat} (h : gI s n T) (hw : w < 2) (hp : ∀ q a, q < 10 → a < 3 → s.1 52 (3 * q + a) = nI (rsh D R q a)) (hc : ∀ p, p < n → s.2.1 (59 + w) p = cnt T D w R p) : ∃ t, f_History_addReach (rR s 0) (nI w) s = some t ∧ fr [] [61, 59 + w] [] s t ∧ ∀ p, p < n → t.2.1 (59 + w) p = cnt T D w (R + 1) p := by
  have n60 := h.n60
  have iL : isL (59 + w) = true := by
    have : w = 0 ∨ w = 1 := by omega
    rcases this with rfl | rfl <;> rfl
  obtain ⟨s1, a1, a2, a3⟩ := q_workOut (q := 5) (a := 61) (lo := w) (sh := rsh D R) h rfl rfl (hxw hw) (fun q c hq h13 hc => by have so := h.so hq; exact hp q c hq (by omega))
  obtain ⟨e1, e2⟩ := frL_tt a2
  have h1 := h.L e1 e2
  generalize hgE : rR s 0 = g at a1
  have hg1 : rR s1 0 = g := by rw [← hgE]; show s1.2.2.2 0 = _; rw [e2]
  unfold f_History_addReach f_History_addReach_l22
  rw [show isG g = true by rw [← hgE]; exact h.g, ck_t, q_reachOf hw, bd_s, a1, bv_s, iL, ck_t]
  obtain ⟨t, e, i1, i2, i3⟩ := lp_u0 (z := fun _ _ _ => none) (body := f_History_addReach_b22 g) (fun k j (t : St) => k (59 + w) (nI j) t) (fun j t => fr [] [59 + w] [] s1 t ∧ (∀ p, p < j → t.2.1 (59 + w) p = cnt T D w (R + 1) p) ∧ (∀ p, j ≤ p → t.2.1 (59 + w) p = s1.2.1 (59 + w) p)) n (fun t => some t) (fun k j t hj hI => by
    obtain ⟨f1, f2, f3⟩ := hI
    obtain ⟨k1, k2⟩ := frL_tt f1
    have ht := h1.L k1 k2
    have hgt : rR t 0 = g := by rw [← hg1]; show t.2.2.2 0 = _; rw [k2]
    have cc : rF t (g + 10) = nI n := by
      have := ht.c1
      rw [hgt] at this
      exact this
    have b1 : ib (nI j) 60 = true := ib_nI (by omega) (by decide)
    have v1 : rL t (59 + w) (nI j) = cnt T D w R j := by
      rw [rL, nI_clamp (by omega), f3 j (Nat.le_refl _), a2.2.1 (59 + w) (by simp; omega)]
      exact hc j hj
    have v2 : rL t 61 (nI j) = rc T (prt T (rsh D R) w) j := by
      rw [rL, nI_clamp (by omega), f1.2.1 61 (by simp; omega)]
      exact a3 j hj
    show ∃ s', f_History_addReach_b22 g k (59 + w) (nI j) t = _ ∧ _
    rw [f_History_addReach_b22, if_neg (by rw [cc]; exact nI_ge hj (by omega)), ck_p b1, ck_p b1, ck_p b1, v1, v2, lE_d, nI_clamp (by omega), nI_1]
    refine ⟨_, rfl, f1.L (by simp) _ _, fun p hp => ?_, fun p hp => ?_⟩
    · rw [sL2, if_pos rfl, updLD]
      by_cases y : p = j
      · rw [if_pos y, y]; rfl
      · rw [if_neg y]; exact f2 p (by omega)
    · rw [sL2, if_pos rfl, updLD, if_neg (by omega)]
      exact f3 p (by omega)) (fun k t hI => by
    obtain ⟨k1, k2⟩ := frL_tt hI.1
    have ht := h1.L k1 k2
    have cc : rF t (g + 10) = nI n := by
      have := ht.c1
      rw [show rR t 0 = g by rw [← hg1]; show t.2.2.2 0 = _; rw [k2]] at this
      exact this
    show f_History_addReach_b22 g k (59 + w) (nI n) t = some t
    rw [f_History_addReach_b22, if_pos (by rw [cc]; exact nI_le (Nat.le_refl _) (by omega))]) (i := 0) (s := s1) (by omega) (Nat.zero_le _) ⟨fr.rf, fun p hp => by omega, fun p _ => rfl⟩
  exact ⟨t, e, (a2.mo (by simp) (by simp) (by simp)).tr (i1.mo (by simp) (by simp) (by simp)), i2⟩
end
