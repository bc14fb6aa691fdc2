/-! one level of the class's solver -/
def SB (A bs ba : Nat) (gf : Nat → Nat) (c : Nat → Int64) (n : Nat) (T : TT) (s : St) : Prop := gI s n T ∧ (∀ p, p < n → s.1 54 p = nI (gf p)) ∧ (∀ p, p < n → s.2.1 A p = c p) ∧ s.2.2.1 9 = nz bs ∧ s.2.2.1 10 = nz ba
theorem SB.fr {A bs ba : Nat} {gf : Nat → Nat} {c : Nat → Int64} {n : Nat} {T : TT} {s s' : St} (h : SB A bs ba gf c n T s) (hf : fr [55] [53, 56] [] s s') (h1 : A ≠ 53) (h2 : A ≠ 56) : SB A bs ba gf c n T s' := by
  obtain ⟨a1, a2, a3, a4, a5⟩ := h
  refine ⟨a1.fr hf (by decide) (by decide), fun p hp => ?_, fun p hp => ?_, ?_, ?_⟩
  · rw [hf.1 54 (by decide)]; exact a2 p hp
  · rw [hf.2.1 A (by simp [h1, h2])]; exact a3 p hp
  · rw [hf.2.2.1 9 (by simp)]; exact a4
  · rw [hf.2.2.1 10 (by simp)]; exact a5
section
variable {s : St} {n : Nat} {T : TT} {w : Nat}
theorem q_oat (h : gI s n T) (hw : w < 2) {p : Nat} (hp : p < n) : f_Game_ownActsTo (rR s 0) (nI w) (nI p) s = some (nI (lv T w p), s) := by
  have n60 := h.n60
  unfold f_Game_ownActsTo
  rw [h.g, ck_t, w60, b60, ck_p (ib_nI (show 60 * w + p < 120 by omega) (by decide)), rI, nI_clamp (by omega)]
  have := h.2.2.1.2.2.2.2.1 w p hw hp
  rw [show rR s 0 = s.2.2.2 0 from rfl, this]
theorem q_isOwn (h : gI s n T) (hw : w < 2) {p i : Nat} (hp : p < n) (hi : i < 1000) : f_Solver_isOwn (rR s 0) (nI w) (nI i) (nI p) s = some (if T 1 p = 2 + w ∧ lv T w p = i then 1 else 0, s) := by
  have n60 := h.n60
  have k := (h.1.K hp).2
  have l8 := lv_8 (w := w) h.1 hp
  have b1 : ib (nI p) 60 = true := ib_nI (by omega) (by decide)
  have r1 : rI s (rR s 0 + 1) (nI p) = nI (T 1 p) := by rw [h.C (by omega) (by omega) hp, nz_lt (by omega)]
  have e1 : (nI (T 1 p) = nI (2 + w)) ↔ T 1 p = 2 + w := nI_eq (by omega) (by omega)
  have e2 : (nI (lv T w p) = nI i) ↔ lv T w p = i := nI_eq (by omega) (by omega)
  unfold f_Solver_isOwn
  rw [h.g, ck_t, ck_p b1, r1, show (2 : Int32) + nI w = nI (2 + w) from nI_add 2 w]
  by_cases c : T 1 p = 2 + w
  · rw [if_pos (e1.mpr c), q_oat h hw hp, bd_s]
    by_cases d : lv T w p = i
    · rw [if_pos (e2.mpr d), if_pos ⟨c, d⟩]
    · rw [if_neg (fun z => d (e2.mp z)), if_neg (fun z => d z.2)]
  · rw [if_neg (fun z => c (e1.mp z)), if_neg (fun z => c z.1)]
theorem q_wayC (h : gI s n T) {p k : Nat} (hp : p < n) (hk : k < T 4 p) : f_Game_wayTo (rR s 0) (nI p) (nI k) s = some (nI (T 9 (4 * p + k)), s) := by
  have n60 := h.n60
  have k4 := wK4 (h.1.K hp)
  have c := h.1.2.2 p k hp hk
  unfold f_Game_wayTo
  rw [h.g, ck_t, show nI p * 4 + nI k = nI (4 * p + k) by rw [show (4 : Int32) = nI 4 from rfl, pk_mul, nI_add, Nat.mul_comm], ck_p (ib_nI (show 4 * p + k < 240 by omega) (by decide)), rI, nI_clamp (by omega)]
  have := h.2.2.1.2.2.1 (4 * p + k) (by omega)
  rw [show rR s 0 = s.2.2.2 0 from rfl, this]
theorem q_most (h : gI s n T) (hw : w < 2) : ∃ M, M ≤ 8 ∧ f_Game_mostOwnActs (rR s 0) (nI w) s = some (nI M, s) ∧ ∀ p, p < n → lv T w p ≤ M := by
  have n60 := h.n60
  unfold f_Game_mostOwnActs f_Game_mostOwnActs_l4
  rw [h.g, ck_t]
  have key : ∀ m i f M, i + m = n → m < f → M ≤ 8 → (∀ p, p < i → lv T w p ≤ M) → ∃ M', M' ≤ 8 ∧ lp (fun _ _ _ _ => none) (f_Game_mostOwnActs_b4 (rR s 0)) f (nI w) (nI M) (nI i) s = some (nI M', s) ∧ ∀ p, p < n → lv T w p ≤ M' := by
    intro m
    induction m with
    | zero =>
      intro i f M hi hf hM hp
      obtain ⟨f, rfl⟩ : ∃ f0, f = f0 + 1 := ⟨f - 1, by omega⟩
      refine ⟨M, hM, ?_, fun p hpn => hp p (by omega)⟩
      rw [lp_s, f_Game_mostOwnActs_b4, if_pos (by rw [h.c1]; exact nI_le (by omega) (by omega))]
    | succ m ih =>
      intro i f M hi hf hM hp
      obtain ⟨f, rfl⟩ : ∃ f0, f = f0 + 1 := ⟨f - 1, by omega⟩
      have l8 := lv_8 (w := w) h.1 (show i < n by omega)
      have e : (nI M < nI (lv T w i)) ↔ M < lv T w i := nI_ltI (by omega) (by omega)
      have st : lp (fun _ _ _ _ => none) (f_Game_mostOwnActs_b4 (rR s 0)) (f + 1) (nI w) (nI M) (nI i) s = lp (fun _ _ _ _ => none) (f_Game_mostOwnActs_b4 (rR s 0)) f (nI w) (nI (if M < lv T w i then lv T w i else M)) (nI (i + 1)) s := by
        rw [lp_s, f_Game_mostOwnActs_b4, if_neg (by rw [h.c1]; exact nI_ge (by omega) (by omega)), q_oat h hw (by omega), bd_s, nI_1]
        by_cases c : M < lv T w i
        · rw [if_pos (e.mpr c), if_pos c]
        · rw [if_neg (fun z => c (e.mp z)), if_neg c]
      rw [st]
      refine ih (i + 1) f _ (by omega) (by omega) (by split <;> omega) (fun p hpi => ?_)
      by_cases x : p = i
      · rw [x]; split <;> omega
      · have := hp p (by omega)
        split <;> omega
  obtain ⟨M, a, b, c⟩ := key n 0 FU 0 (by omega) (by unfold FU; omega) (by omega) (fun p hp => by omega)
  exact ⟨M, a, b, c⟩
end
section
variable {A bs ba : Nat} {gf : Nat → Nat} {c : Nat → Int64} {n : Nat} {T : TT} {s : St} {w i : Nat}
theorem q_addIn {p : Nat} (h : SB A bs ba gf c n T s) (hA1 : A ≠ 53) (hA2 : A ≠ 56) (hp : p < n) (hgf : gf p ≤ p) (h3 : T 4 p ≤ 3) (k3 : Int32 → Int32 → Int32 → St → Option St) : ∃ t, f_Solver_addUp_l37 (rR s 0) k3 (nI w) (nI i) (nI p) (nI (3 * gf p)) 0 s = k3 (nI w) (nI i) (nI (p + 1)) t ∧ fr [] [56] [] s t ∧ ∀ m, t.2.1 56 m = if 3 * gf p ≤ m ∧ m < 3 * gf p + T 4 p then (if gf p = p then 0 else s.2.1 56 m) + s.2.1 53 (T 9 (4 * p + (m - 3 * gf p))) else s.2.1 56 m := by
  have n60 := h.1.n60
  unfold f_Solver_addUp_l37
  generalize hgE : rR s 0 = g
  have b1 : ib (nI p) 60 = true := ib_nI (by omega) (by decide)
  have ep : (nI (gf p) = nI p) ↔ gf p = p := nI_eq (by omega) (by omega)
  have key : ∀ (k : Int32 → Int32 → Int32 → Int32 → Int32 → St → Option St) (a : Nat) (t : St), a < T 4 p → fr [] [56] [] s t → f_Solver_addUp_b37 g k3 k (nI w) (nI i) (nI p) (nI (3 * gf p)) (nI a) t = k (nI w) (nI i) (nI p) (nI (3 * gf p)) (nI (a + 1)) (stL t 56 (3 * gf p + a) ((if gf p = p then 0 else t.2.1 56 (3 * gf p + a)) + t.2.1 53 (T 9 (4 * p + a)))) := by
    intro k a t ha hf
    have ht := h.fr (hf.mo (by simp) (by simp) (by simp)) hA1 hA2
    have hgt : rR t 0 = g := by rw [← hgE]; show t.2.2.2 0 = _; rw [hf.2.2.2]
    have cc := h.1.1.2.2 p a hp ha
    have r4 : rI t (g + 4) (nI p) = nI (T 4 p) := by
      have := ht.1.C (j := 4) (by omega) (by omega) hp
      rw [hgt, nz_lt (by omega)] at this
      exact this
    have r54 : rI t 54 (nI p) = nI (gf p) := by rw [rI, nI_clamp (by omega)]; exact ht.2.1 p hp
    have b5 : ib (nI (3 * gf p + a)) 180 = true := ib_nI (by omega) (by decide)
    have wy := q_wayC ht.1 hp ha
    rw [hgt] at wy
    have b6 : ib (nI (T 9 (4 * p + a))) 60 = true := ib_nI (by omega) (by decide)
    have v56 : rL t 56 (nI (3 * gf p + a)) = t.2.1 56 (3 * gf p + a) := by rw [rL, nI_clamp (by omega)]
    have v53 : rL t 53 (nI (T 9 (4 * p + a))) = t.2.1 53 (T 9 (4 * p + a)) := by rw [rL, nI_clamp (by omega)]
    rw [f_Solver_addUp_b37, ck_p b1, r4, if_neg (nI_ge ha (by omega)), ck_p b1, r54, nI_add, ck_p b5]
    unfold f_Solver_addUp_b75
    rw [wy, bd_s, bd_s, ck_p b6, ck_p b6, nI_add, ck_p b5, ck_p b5, lE_d, lE_d, nI_clamp (show 3 * gf p + a < 2 ^ 31 by omega), nI_1, v56, v53]
    by_cases x : gf p = p
    · rw [if_pos (ep.mpr x), if_pos x]
    · rw [if_neg (fun z => x (ep.mp z)), if_neg x]
  obtain ⟨t, e, i1, i2⟩ := lp_u0 (z := fun _ _ _ _ _ _ => none) (body := f_Solver_addUp_b37 g k3) (fun k a (t : St) => k (nI w) (nI i) (nI p) (nI (3 * gf p)) (nI a) t) (fun a t => fr [] [56] [] s t ∧ ∀ m, t.2.1 56 m = if 3 * gf p ≤ m ∧ m < 3 * gf p + a then (if gf p = p then 0 else s.2.1 56 m) + s.2.1 53 (T 9 (4 * p + (m - 3 * gf p))) else s.2.1 56 m) (T 4 p) (fun t => k3 (nI w) (nI i) (nI (p + 1)) t) (fun k a t ha hI => by
    obtain ⟨f1, f2⟩ := hI
    refine ⟨_, key k a t ha f1, f1.L (by simp) _ _, fun m => ?_⟩
    rw [sL2, if_pos rfl, updLD, f2 m, f2 (3 * gf p + a), if_neg (show ¬ (3 * gf p ≤ 3 * gf p + a ∧ 3 * gf p + a < 3 * gf p + a) by omega), f1.2.1 53 (by decide)]
    by_cases x : m = 3 * gf p + a
    · rw [if_pos x, if_pos (show 3 * gf p ≤ m ∧ m < 3 * gf p + (a + 1) by omega), show m - 3 * gf p = a by omega, x]
    · rw [if_neg x]
      by_cases y : 3 * gf p ≤ m ∧ m < 3 * gf p + a
      · rw [if_pos y, if_pos (show 3 * gf p ≤ m ∧ m < 3 * gf p + (a + 1) by omega)]
      · rw [if_neg y, if_neg (show ¬ (3 * gf p ≤ m ∧ m < 3 * gf p + (a + 1)) by omega)]) (fun k t hI => by
    have ht := h.fr (hI.1.mo (by simp) (by simp) (by simp)) hA1 hA2
    have hgt : rR t 0 = g := by rw [← hgE]; show t.2.2.2 0 = _; rw [hI.1.2.2.2]
    have r4 : rI t (g + 4) (nI p) = nI (T 4 p) := by
      have := ht.1.C (j := 4) (by omega) (by omega) hp
      rw [hgt, nz_lt (by omega)] at this
      exact this
    show f_Solver_addUp_b37 g k3 k (nI w) (nI i) (nI p) (nI (3 * gf p)) (nI (T 4 p)) t = _
    rw [f_Solver_addUp_b37, ck_p b1, r4, if_pos (nI_le (Nat.le_refl _) (by omega)), f_Solver_addUp_b109, nI_1]) (i := 0) (s := s) (by omega) (Nat.zero_le _) ⟨fr.rf, fun m => by rw [if_neg (by omega)]⟩
  exact ⟨t, e, i1, i2⟩
theorem sL_zero {f : Nat → Int64} : ∀ n, (∀ q, q < n → f q = 0) → sL f n = 0
  | 0, _ => rfl
  | n + 1, h => by
    unfold sL
    rw [sL_zero n (fun q hq => h q (by omega)), h n (by omega)]
    rfl
theorem q_addUp (h : SB A bs ba gf c n T s) (hA1 : A ≠ 53) (hA2 : A ≠ 56) (hw : w < 2) (hi : i < 1000) (hle : ∀ p, gf p ≤ p) (hii : ∀ p, p < n → T 1 p = 2 + w → gf (gf p) = gf p ∧ T 1 (gf p) = 2 + w) (hok : grOk T n w gf) : ∃ t, f_Solver_addUp (rR s 0) (nI w) (nI i) s = some t ∧ fr [] [56] [] s t ∧ ∀ G, G < n → T 1 G = 2 + w → lv T w G = i → gf G = G → ∀ a, a < T 4 G → t.2.1 56 (3 * G + a) = su T n w gf (s.2.1 53) G a := by
  have n60 := h.1.n60
  unfold f_Solver_addUp f_Solver_addUp_l3
  rw [h.1.g, ck_t]
  generalize hgE : rR s 0 = g
  obtain ⟨t, e, i1, i2⟩ := lp_u0 (z := fun _ _ _ _ => none) (body := f_Solver_addUp_b3 g) (fun k p (t : St) => k (nI w) (nI i) (nI p) t) (fun p t => fr [] [56] [] s t ∧ ∀ G, G < p → T 1 G = 2 + w → lv T w G = i → gf G = G → ∀ a, a < T 4 G → t.2.1 56 (3 * G + a) = sL (fun q => if T 1 q = 2 + w ∧ gf q = G then s.2.1 53 (T 9 (4 * q + a)) else 0) p) n (fun t => some t) (fun k p t hp hI => by
    obtain ⟨f1, f2⟩ := hI
    have ht := h.fr (f1.mo (by simp) (by simp) (by simp)) hA1 hA2
    have hgt : rR t 0 = g := by rw [← hgE]; show t.2.2.2 0 = _; rw [f1.2.2.2]
    have cc : rF t (g + 10) = nI n := by
      have := ht.1.c1
      rw [hgt] at this
      exact this
    have io := q_isOwn (i := i) ht.1 hw hp hi
    rw [hgt] at io
    have b1 : ib (nI p) 60 = true := ib_nI (by omega) (by decide)
    have r54 : rI t 54 (nI p) = nI (gf p) := by rw [rI, nI_clamp (by omega)]; exact ht.2.1 p hp
    by_cases x : T 1 p = 2 + w ∧ lv T w p = i
    · have o4 := own_4 h.1.1 hp x.1 hw
      obtain ⟨t', g1, g2, g3⟩ := q_addIn (w := w) (i := i) ht hA1 hA2 hp (hle p) (by omega) k
      rw [hgt] at g1
      refine ⟨t', ?_, f1.tr g2, fun G hG o1 o2 o3 a ha => ?_⟩
      · show f_Solver_addUp_b3 g k (nI w) (nI i) (nI p) t = _
        rw [f_Solver_addUp_b3, if_neg (by rw [cc]; exact nI_ge hp (by omega)), io, bd_s, if_pos x, if_neg i10, ck_p b1, r54, show nI (gf p) * 3 = nI (3 * gf p) by rw [show (3 : Int32) = nI 3 from rfl, pk_mul, Nat.mul_comm], g1]
      · have o4G := own_4 h.1.1 (show G < n by omega) o1 hw
        show _ = sL _ p + (if T 1 p = 2 + w ∧ gf p = G then s.2.1 53 (T 9 (4 * p + a)) else 0)
        rw [g3, f1.2.1 53 (by decide)]
        have gp := hle p
        by_cases y : gf p = G
        · have e4 : T 4 G = T 4 p := by
            obtain ⟨z1, z2⟩ := hii p hp x.1
            have := hok p G hp (by omega) x.1 o1 (by rw [o3, y])
            have q1 := own_4 h.1.1 hp x.1 hw
            rw [this.2] at q1
            omega
          rw [if_pos (show 3 * gf p ≤ 3 * G + a ∧ 3 * G + a < 3 * gf p + T 4 p by omega), if_pos (show T 1 p = 2 + w ∧ gf p = G from ⟨x.1, y⟩), show 3 * G + a - 3 * gf p = a by omega]
          by_cases v : gf p = p
          · rw [if_pos v]
            have : sL (fun q => if T 1 q = 2 + w ∧ gf q = G then s.2.1 53 (T 9 (4 * q + a)) else 0) p = 0 := sL_zero p (fun q hq => if_neg (fun z => by have := hle q; omega))
            rw [this]
          · rw [if_neg v, f2 G (by omega) o1 o2 o3 a ha]
        · have Gp : G ≠ p := by
            intro z
            subst z
            exact y o3
          rw [if_neg (show ¬ (3 * gf p ≤ 3 * G + a ∧ 3 * G + a < 3 * gf p + T 4 p) by omega), if_neg (fun z => y z.2), Int64.add_zero]
          exact f2 G (by omega) o1 o2 o3 a ha
    · refine ⟨t, ?_, f1, fun G hG o1 o2 o3 a ha => ?_⟩
      · show f_Solver_addUp_b3 g k (nI w) (nI i) (nI p) t = _
        rw [f_Solver_addUp_b3, if_neg (by rw [cc]; exact nI_ge hp (by omega)), io, bd_s, if_neg x, if_pos rfl, f_Solver_addUp_b109, nI_1]
      · have Gp : G ≠ p := fun z => x (by rw [← z]; exact ⟨o1, o2⟩)
        show _ = sL _ p + (if T 1 p = 2 + w ∧ gf p = G then s.2.1 53 (T 9 (4 * p + a)) else 0)
        rw [if_neg, Int64.add_zero]
        · exact f2 G (by omega) o1 o2 o3 a ha
        · intro z
          have := hok p G hp (by omega) z.1 o1 (by rw [o3]; exact z.2)
          exact x ⟨z.1, by rw [this.1]; exact o2⟩) (fun k t hI => by
    have ht := h.fr (hI.1.mo (by simp) (by simp) (by simp)) hA1 hA2
    have cc : rF t (g + 10) = nI n := by
      have := ht.1.c1
      rw [show rR t 0 = g by rw [← hgE]; show t.2.2.2 0 = _; rw [hI.1.2.2.2]] at this
      exact this
    show f_Solver_addUp_b3 g k (nI w) (nI i) (nI n) t = some t
    rw [f_Solver_addUp_b3, if_pos (by rw [cc]; exact nI_le (Nat.le_refl _) (by omega))]) (i := 0) (s := s) (by omega) (Nat.zero_le _) ⟨fr.rf, fun G hG => by omega⟩
  exact ⟨t, e, i1, i2⟩
theorem q_isBarred (h : SB A bs ba gf c n T s) (hbs : bs ≤ 1000) (hba : ba ≤ 1000) {p a : Nat} (hp : p < n) (ha : a < 1000) : f_Solver_isBarred (rR s 0) (nI p) (nI a) s = some (if brr bs ba (T 3 p) a = true then 1 else 0, s) := by
  have n60 := h.1.n60
  have k := (h.1.1.K hp).2
  have b1 : ib (nI p) 60 = true := ib_nI (by omega) (by decide)
  have e3 := nz_eq (a := T 3 p) (b := bs) (by omega) hbs
  have ea := nz_eq (a := a) (b := ba) (by omega) hba
  rw [nz_lt ha] at ea
  unfold f_Solver_isBarred
  rw [h.1.g, ck_t, ck_p b1, h.1.C (by omega) (by omega) hp, rF, h.2.2.2.1, rF, h.2.2.2.2]
  unfold brr
  by_cases x : T 3 p = bs
  · rw [if_pos (e3.mpr x)]
    by_cases y : a = ba
    · rw [if_pos (ea.mpr y), if_pos (decide_eq_true ⟨x, y⟩)]
    · rw [if_neg (fun z => y (ea.mp z)), if_neg (fun z => y (of_decide_eq_true z).2)]
  · rw [if_neg (fun z => x (e3.mp z)), if_neg (fun z => x (of_decide_eq_true z).1)]
theorem q_choose (h : SB A bs ba gf c n T s) (hw : w < 2) (hbs : bs ≤ 1000) (hba : ba ≤ 1000) {p : Nat} (hp : p < n) (ho : T 1 p = 2 + w) : f_Solver_chooseAct (rR s 0) (nI w) (nI p) s = some (nI (chs w (fun a => s.2.1 56 (3 * p + a)) (brr bs ba (T 3 p)) (T 4 p)), s) := by
  have n60 := h.1.n60
  have o4 := own_4 h.1.1 hp ho hw
  have b1 : ib (nI p) 60 = true := ib_nI (by omega) (by decide)
  have r4 : rI s (rR s 0 + 4) (nI p) = nI (T 4 p) := by rw [h.1.C (by omega) (by omega) hp, nz_lt (by omega)]
  have key : ∀ m a cc f, a + m = T 4 p → cc < T 4 p → m < f → lp (fun _ _ _ _ _ _ => none) (f_Solver_chooseAct_b28 (rR s 0)) f (nI w) (nI p) (nI (3 * p)) (nI cc) (nI a) s = some (nI (chL w (fun a => s.2.1 56 (3 * p + a)) (brr bs ba (T 3 p)) m a cc), s) := by
    intro m
    induction m with
    | zero =>
      intro a cc f ha hc hf
      obtain ⟨f, rfl⟩ : ∃ f0, f = f0 + 1 := ⟨f - 1, by omega⟩
      rw [lp_s, f_Solver_chooseAct_b28, ck_p b1, r4, if_pos (nI_le (by omega) (by omega))]
      rfl
    | succ m ih =>
      intro a cc f ha hc hf
      obtain ⟨f, rfl⟩ : ∃ f0, f = f0 + 1 := ⟨f - 1, by omega⟩
      have v1 : rL s 56 (nI (3 * p + cc)) = s.2.1 56 (3 * p + cc) := by rw [rL, nI_clamp (by omega)]
      have v2 : rL s 56 (nI (3 * p + a)) = s.2.1 56 (3 * p + a) := by rw [rL, nI_clamp (by omega)]
      have gE : f_HG_gainOf (nI w) (s.2.1 56 (3 * p + cc)) (s.2.1 56 (3 * p + a)) s = some (gn w (s.2.1 56 (3 * p + cc)) (s.2.1 56 (3 * p + a)), s) := by
        unfold f_HG_gainOf gn
        have : w = 0 ∨ w = 1 := by omega
        rcases this with rfl | rfl
        · rw [if_pos (show nI 0 = (0 : Int32) from rfl), if_pos rfl]
        · rw [if_neg (by decide), if_neg (by decide)]
      have st : lp (fun _ _ _ _ _ _ => none) (f_Solver_chooseAct_b28 (rR s 0)) (f + 1) (nI w) (nI p) (nI (3 * p)) (nI cc) (nI a) s = lp (fun _ _ _ _ _ _ => none) (f_Solver_chooseAct_b28 (rR s 0)) f (nI w) (nI p) (nI (3 * p)) (nI (if ¬ gn w (s.2.1 56 (3 * p + cc)) (s.2.1 56 (3 * p + a)) ≤ 0 ∧ brr bs ba (T 3 p) a = false then a else cc)) (nI (a + 1)) s := by
        rw [lp_s, f_Solver_chooseAct_b28, ck_p b1, r4, if_neg (nI_ge (by omega) (by omega)), nI_add, nI_add, ck_p (ib_nI (show 3 * p + cc < 180 by omega) (by decide)), ck_p (ib_nI (show 3 * p + a < 180 by omega) (by decide)), v1, v2, gE, bd_s]
        unfold f_Solver_chooseAct_b87
        rw [nI_1]
        by_cases x : gn w (s.2.1 56 (3 * p + cc)) (s.2.1 56 (3 * p + a)) ≤ 0
        · rw [if_pos x, if_neg (fun z => z.1 x)]
        · rw [if_neg x, q_isBarred h hbs hba hp (show a < 1000 by omega), bd_s]
          by_cases y : brr bs ba (T 3 p) a = true
          · rw [if_pos y, if_neg i10, if_neg (fun z => by rw [y] at z; cases z.2)]
          · have y' : brr bs ba (T 3 p) a = false := by simpa using y
            rw [if_neg y, if_pos rfl, if_pos ⟨x, y'⟩]
      rw [st]
      exact ih (a + 1) _ f (by omega) (by split <;> omega) (by omega)
  have c1 := c0_le (brr bs ba (T 3 p))
  have fin : ∀ z : Nat, z = c0 (brr bs ba (T 3 p)) → f_Solver_chooseAct_b20 (rR s 0) (nI w) (nI p) (nI p * 3) (nI z) s = some (nI (chs w (fun a => s.2.1 56 (3 * p + a)) (brr bs ba (T 3 p)) (T 4 p)), s) := by
    intro z hz
    unfold f_Solver_chooseAct_b20 f_Solver_chooseAct_l28 chs
    rw [show nI p * 3 = nI (3 * p) by rw [show (3 : Int32) = nI 3 from rfl, pk_mul, Nat.mul_comm], nI_1, hz]
    exact key _ _ _ FU (by omega) (by omega) (by unfold FU; omega)
  unfold f_Solver_chooseAct
  have q0 := q_isBarred h hbs hba hp (show 0 < 1000 by omega)
  rw [h.1.g, ck_t, show (0 : Int32) = nI 0 from rfl, q0, bd_s]
  by_cases y : brr bs ba (T 3 p) 0 = true
  · rw [if_pos y, if_neg (show ¬ (1 : Int32) = nI 0 by decide)]
    exact fin 1 (by unfold c0; rw [if_pos y])
  · rw [if_neg y, if_pos (show (0 : Int32) = nI 0 from rfl)]
    exact fin 0 (by unfold c0; rw [if_neg y])
theorem q_chooseActs (h : SB A bs ba gf c n T s) (hA1 : A ≠ 53) (hA2 : A ≠ 56) (hw : w < 2) (hi : i < 1000) (hle : ∀ p, gf p ≤ p) (hbs : bs ≤ 1000) (hba : ba ≤ 1000) : ∃ t, f_Solver_chooseActs (rR s 0) (nI w) (nI i) s = some t ∧ fr [55] [] [] s t ∧ ∀ p, t.1 55 p = if p < n ∧ gf p = p ∧ T 1 p = 2 + w ∧ lv T w p = i then nI (chs w (fun a => s.2.1 56 (3 * p + a)) (brr bs ba (T 3 p)) (T 4 p)) else s.1 55 p := by
  have n60 := h.1.n60
  unfold f_Solver_chooseActs f_Solver_chooseActs_l3
  rw [h.1.g, ck_t]
  generalize hgE : rR s 0 = g
  obtain ⟨t, e, i1, i2⟩ := lp_u0 (z := fun _ _ _ _ => none) (body := f_Solver_chooseActs_b3 g) (fun k p (t : St) => k (nI w) (nI i) (nI p) t) (fun p t => fr [55] [] [] s t ∧ ∀ q, t.1 55 q = if q < p ∧ gf q = q ∧ T 1 q = 2 + w ∧ lv T w q = i then nI (chs w (fun a => s.2.1 56 (3 * q + a)) (brr bs ba (T 3 q)) (T 4 q)) else s.1 55 q) n (fun t => some t) (fun k p t hp hI => by
    obtain ⟨f1, f2⟩ := hI
    have ht := h.fr (f1.mo (by simp) (by simp) (by simp)) hA1 hA2
    have hgt : rR t 0 = g := by rw [← hgE]; show t.2.2.2 0 = _; rw [f1.2.2.2]
    have cc : rF t (g + 10) = nI n := by
      have := ht.1.c1
      rw [hgt] at this
      exact this
    have io := q_isOwn (i := i) ht.1 hw hp hi
    rw [hgt] at io
    have b1 : ib (nI p) 60 = true := ib_nI (by omega) (by decide)
    have r54 : rI t 54 (nI p) = nI (gf p) := by rw [rI, nI_clamp (by omega)]; exact ht.2.1 p hp
    have gp := hle p
    have eg : (nI (gf p) = nI p) ↔ gf p = p := nI_eq (by omega) (by omega)
    have skip : (¬ (gf p = p ∧ T 1 p = 2 + w ∧ lv T w p = i)) → ∀ q, t.1 55 q = if q < p + 1 ∧ gf q = q ∧ T 1 q = 2 + w ∧ lv T w q = i then nI (chs w (fun a => s.2.1 56 (3 * q + a)) (brr bs ba (T 3 q)) (T 4 q)) else s.1 55 q := by
      intro hn q
      rw [f2 q]
      by_cases x : q < p ∧ gf q = q ∧ T 1 q = 2 + w ∧ lv T w q = i
      · rw [if_pos x, if_pos ⟨by omega, x.2⟩]
      · rw [if_neg x, if_neg]
        intro z
        by_cases y : q = p
        · subst y; exact hn z.2
        · exact x ⟨by omega, z.2⟩
    by_cases x : gf p = p
    · by_cases y : T 1 p = 2 + w ∧ lv T w p = i
      · have ch := q_choose (w := w) ht hw hbs hba hp y.1
        rw [hgt] at ch
        refine ⟨stA t 55 p (nI (chs w (fun a => t.2.1 56 (3 * p + a)) (brr bs ba (T 3 p)) (T 4 p))), ?_, f1.A (by simp) _ _, fun q => ?_⟩
        · show f_Solver_chooseActs_b3 g k (nI w) (nI i) (nI p) t = _
          rw [f_Solver_chooseActs_b3, if_neg (by rw [cc]; exact nI_ge hp (by omega)), ck_p b1, r54, if_pos (eg.mpr x), io, bd_s, if_pos y, if_neg i10, ch, bd_s, ck_p b1, lE_d, f_Solver_chooseActs_b50, nI_clamp (by omega), nI_1]
        · rw [sA1, if_pos rfl, updD, f1.2.1 56 (by simp)]
          by_cases z : q = p
          · rw [if_pos z, z, if_pos ⟨by omega, x, y⟩]
          · rw [if_neg z, f2 q]
            by_cases v : q < p ∧ gf q = q ∧ T 1 q = 2 + w ∧ lv T w q = i
            · rw [if_pos v, if_pos ⟨by omega, v.2⟩]
            · rw [if_neg v, if_neg (fun u => v ⟨by omega, u.2⟩)]
      · refine ⟨t, ?_, f1, skip (fun z => y z.2)⟩
        show f_Solver_chooseActs_b3 g k (nI w) (nI i) (nI p) t = _
        rw [f_Solver_chooseActs_b3, if_neg (by rw [cc]; exact nI_ge hp (by omega)), ck_p b1, r54, if_pos (eg.mpr x), io, bd_s, if_neg y, if_pos rfl, f_Solver_chooseActs_b50, nI_1]
    · refine ⟨t, ?_, f1, skip (fun z => x z.1)⟩
      show f_Solver_chooseActs_b3 g k (nI w) (nI i) (nI p) t = _
      rw [f_Solver_chooseActs_b3, if_neg (by rw [cc]; exact nI_ge hp (by omega)), ck_p b1, r54, if_neg (fun z => x (eg.mp z)), f_Solver_chooseActs_b50, nI_1]) (fun k t hI => by
    have ht := h.fr (hI.1.mo (by simp) (by simp) (by simp)) hA1 hA2
    have cc : rF t (g + 10) = nI n := by
      have := ht.1.c1
      rw [show rR t 0 = g by rw [← hgE]; show t.2.2.2 0 = _; rw [hI.1.2.2.2]] at this
      exact this
    show f_Solver_chooseActs_b3 g k (nI w) (nI i) (nI n) t = some t
    rw [f_Solver_chooseActs_b3, if_pos (by rw [cc]; exact nI_le (Nat.le_refl _) (by omega))]) (i := 0) (s := s) (by omega) (Nat.zero_le _) ⟨fr.rf, fun q => by rw [if_neg (by omega)]⟩
  exact ⟨t, e, i1, i2⟩
end
