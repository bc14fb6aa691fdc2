/-! asks -/
def up (f : Nat → Nat) (m x : Nat) : Nat → Nat := fun i => if i = m then x else f i
def TC (m : Nat) (f : Nat → Nat) (s : St) : Prop := s.2.2.1 12 = nI m ∧ ∀ i, i < m → s.1 62 i = nI (f i)
def TM (m : Nat) (f : Nat → Nat) (s : St) : Prop := s.2.2.1 45 = nI m ∧ ∀ i, i < m → s.1 80 i = nI (f i)
theorem q_leave {m x : Nat} {f : Nat → Nat} {s : St} (h : TC m f s) (hm : m < 16) : ∃ t, f_Asker_leave (nI x) s = some t ∧ fr [62] [] [12] s t ∧ TC (m + 1) (up f m x) t := by
  refine ⟨stF (stA s 62 m (nI x)) 12 (nI (m + 1)), ?_, (fr.rf.A (by simp) _ _).F (by simp) _, by rw [sF3, if_pos rfl], fun i hi => ?_⟩
  · unfold f_Asker_leave
    have e : rF (stA s 62 m (nI x)) 12 = nI m := h.1
    rw [rF, h.1, if_neg (show ¬ (16 : Int32) ≤ nI m from nI_ge (b := 16) hm (by decide)), ck_p (ib_nI hm (by decide)), lE_d, nI_clamp (by omega), e, nI_1, lE_d]
  · rw [sF1, sA1, if_pos rfl, updD]
    unfold up
    by_cases c : i = m
    · rw [if_pos c, if_pos c]
    · rw [if_neg c, if_neg c]; exact h.2 i (by omega)
theorem q_noteM {m x : Nat} {f : Nat → Nat} {s : St} (h : TM m f s) (hm : m < 16) : ∃ t, f_HM_note (nI x) s = some t ∧ fr [80] [] [45] s t ∧ TM (m + 1) (up f m x) t := by
  refine ⟨stF (stA s 80 m (nI x)) 45 (nI (m + 1)), ?_, (fr.rf.A (by simp) _ _).F (by simp) _, by rw [sF3, if_pos rfl], fun i hi => ?_⟩
  · unfold f_HM_note
    have e : rF (stA s 80 m (nI x)) 45 = nI m := h.1
    rw [rF, h.1, if_neg (show ¬ (16 : Int32) ≤ nI m from nI_ge (b := 16) hm (by decide)), ck_p (ib_nI hm (by decide)), lE_d, nI_clamp (by omega), e, nI_1, lE_d]
  · rw [sF1, sA1, if_pos rfl, updD]
    unfold up
    by_cases c : i = m
    · rw [if_pos c, if_pos c]
    · rw [if_neg c, if_neg c]; exact h.2 i (by omega)
theorem rbS (d : Nat) (g : Nat) (x2 x3 x4 : Int32) (σ : St) : f_Asker_runBodyR (d + 1) g x2 x3 x4 σ = f_Asker_runBody (f_Asker_runBodyR d) g x2 x3 x4 σ := by
  unfold f_Asker_runBodyR
  rw [lp_s]
section
variable {n : Nat} {T : TT} {s : St} {m dp d p : Nat} {f : Nat → Nat}
theorem dp8 (h : dp ≤ 8) : nI dp ≤ (8 : Int32) := nI_le (b := 8) h (by decide)
def frC (s t : St) : Prop := fr [62] [] [12] s t
theorem gI_fC {s t : St} (h : gI s n T) (hf : fr [62] [] [12] s t) : gI t n T ∧ rR t 0 = rR s 0 := ⟨h.fr hf (by decide) (by decide), by show t.2.2.2 0 = s.2.2.2 0; rw [hf.2.2.2]⟩
theorem rb10 (h : gI s n T) (hp : p < n) (ht : TC m f s) (hm : m < 16) (hd : dp ≤ 8) : ∃ t, f_Asker_runBodyR (d + 1) (rR s 0) (nI 10) (nI p) (nI dp) s = some ((nI (szm T n 0 p)).toInt64, t) ∧ fr [62] [] [12] s t ∧ TC (m + 1) (up f m 10) t := by
  have n60 := h.n60
  obtain ⟨t, a1, a2, a3⟩ := q_leave (x := 10) ht hm
  obtain ⟨g1, g2⟩ := gI_fC h a2
  refine ⟨t, ?_, a2, a3⟩
  have r : rI t (rR s 0 + 10) (nI p) = nI (szm T n 0 p) := by
    rw [rI, nI_clamp (by omega), ← g2]
    exact g1.2.2.1.2.1 p hp
  rw [rbS, f_Asker_runBody, h.g, ck_t, if_pos (dp8 hd), a1, bv_s]
  rw [if_neg (by decide), if_neg (by decide), if_neg (by decide), if_neg (by decide), if_neg (by decide), if_neg (by decide), if_neg (by decide), if_neg (by decide), if_neg (by decide), if_neg (by decide), if_neg (by decide), if_neg (by decide), ck_p (ib_nI (show p < 60 by omega) (by decide)), r]
theorem rb14 (h : gI s n T) (hp : p < n) (ht : TC m f s) (hm : m < 16) (hd : dp ≤ 8) : ∃ t, f_Asker_runBodyR (d + 1) (rR s 0) (nI 14) (nI p) (nI dp) s = some ((nz (T 2 p)).toInt64, t) ∧ fr [62] [] [12] s t ∧ TC (m + 1) (up f m 14) t := by
  have n60 := h.n60
  obtain ⟨t, a1, a2, a3⟩ := q_leave (x := 14) ht hm
  obtain ⟨g1, g2⟩ := gI_fC h a2
  refine ⟨t, ?_, a2, a3⟩
  have r : rI t (rR s 0 + 2) (nI p) = nz (T 2 p) := by rw [← g2]; exact g1.C (by omega) (by omega) hp
  rw [rbS, f_Asker_runBody, h.g, ck_t, if_pos (dp8 hd), a1, bv_s, if_neg (by decide), if_neg (by decide), if_neg (by decide), if_pos (by decide), ck_p (ib_nI (show p < 60 by omega) (by decide)), r]
theorem rb20 (h : gI s n T) (hp : p < n) (ht : TC m f s) (hm : m < 16) (hd : dp ≤ 8) : ∃ t, f_Asker_runBodyR (d + 1) (rR s 0) (nI 20) (nI p) (nI dp) s = some ((nI p).toInt64, t) ∧ fr [62] [] [12] s t ∧ TC (m + 1) (up f m 20) t := by
  obtain ⟨t, a1, a2, a3⟩ := q_leave (x := 20) ht hm
  refine ⟨t, ?_, a2, a3⟩
  rw [rbS, f_Asker_runBody, h.g, ck_t, if_pos (dp8 hd), a1, bv_s]
  rw [if_neg (by decide), if_neg (by decide), if_neg (by decide), if_neg (by decide), if_neg (by decide), if_neg (by decide), if_neg (by decide), if_neg (by decide), if_neg (by decide), if_pos (by decide)]
theorem rb21 (h : gI s n T) (hp : p < n) (ht : TC m f s) (hm : m + 1 < 16) (hd : dp + 1 ≤ 8) : ∃ t, f_Asker_runBodyR (d + 2) (rR s 0) (nI 21) (nI p) (nI dp) s = some ((nI p).toInt64 + 100 * (nz (T 3 p)).toInt64, t) ∧ fr [62] [] [12] s t ∧ TC (m + 2) (up (up f m 21) (m + 1) 20) t := by
  have n60 := h.n60
  obtain ⟨t, a1, a2, a3⟩ := q_leave (x := 21) ht (by omega)
  obtain ⟨g1, g2⟩ := gI_fC h a2
  obtain ⟨u, b1, b2, b3⟩ := rb20 (d := d) (dp := dp + 1) g1 hp a3 hm hd
  obtain ⟨g3, g4⟩ := gI_fC g1 b2
  refine ⟨u, ?_, a2.tr b2, b3⟩
  rw [g2] at b1
  have b1' : f_Asker_runBodyR (d + 1) (rR s 0) 20 (nI p) (nI (dp + 1)) t = _ := b1
  have r : rI u (rR s 0 + 3) (nI p) = nz (T 3 p) := by rw [← g2, ← g4]; exact g3.C (by omega) (by omega) hp
  rw [rbS, f_Asker_runBody, h.g, ck_t, if_pos (dp8 (by omega)), a1, bv_s]
  rw [if_neg (by decide), if_neg (by decide), if_neg (by decide), if_neg (by decide), if_neg (by decide), if_neg (by decide), if_neg (by decide), if_neg (by decide), if_neg (by decide), if_neg (by decide), if_pos (by decide), nI_1, b1', bd_s, ck_p (ib_nI (show p < 60 by omega) (by decide)), r]
theorem mkB (h : gI s n T) (hp : p < n) (hk : kN T p = 2 ∨ kN T p = 3) : f_Asker_markBody (rR s 0) (nI p) s = some (nI 21, s) := by
  unfold f_Asker_markBody
  rw [h.g, ck_t, q_kindC h hp, bd_s]
  rcases hk with e | e <;> rw [e] <;> rfl
theorem szB (h : gI s n T) (hp : p < n) : f_Asker_sizeBody (rR s 0) (nI p) s = some (nI (10 + kN T p), s) := by
  unfold f_Asker_sizeBody
  rw [h.g, ck_t, q_kindC h hp, bd_s]
  have := kN_5 T p
  have kk : kN T p = 1 ∨ kN T p = 2 ∨ kN T p = 3 ∨ kN T p = 4 ∨ kN T p = 5 := by omega
  rcases kk with e | e | e | e | e <;> rw [e] <;> rfl
theorem rb12 (h : gI s n T) (hp : p < n) (hk : kN T p = 2 ∨ kN T p = 3) (ht : TC m f s) (hm : m + 3 < 16) (hd : dp + 2 ≤ 8) : ∃ t, f_Asker_runBodyR (d + 3) (rR s 0) (nI 12) (nI p) (nI dp) s = some ((nI (szm T n 0 p)).toInt64 + ((nI p).toInt64 + 100 * (nz (T 3 p)).toInt64), t) ∧ fr [62] [] [12] s t ∧ TC (m + 4) (up (up (up (up f m 12) (m + 1) 10) (m + 2) 21) (m + 3) 20) t := by
  obtain ⟨t, a1, a2, a3⟩ := q_leave (x := 12) ht (by omega)
  obtain ⟨g1, g2⟩ := gI_fC h a2
  obtain ⟨u, b1, b2, b3⟩ := rb10 (d := d + 1) (dp := dp + 1) g1 hp a3 (by omega) (by omega)
  obtain ⟨g3, g4⟩ := gI_fC g1 b2
  obtain ⟨v, c1, c2, c3⟩ := rb21 (d := d) (dp := dp + 1) g3 hp b3 (by omega) (by omega)
  have mk := mkB g3 hp hk
  rw [g2] at b1
  rw [g4, g2] at c1 mk
  refine ⟨v, ?_, (a2.tr b2).tr c2, c3⟩
  have b1' : f_Asker_runBodyR (d + 2) (rR s 0) 10 (nI p) (nI (dp + 1)) t = _ := b1
  rw [rbS, f_Asker_runBody, h.g, ck_t, if_pos (dp8 (by omega)), a1, bv_s, if_neg (by decide), if_pos (by decide), nI_1, b1', bd_s, mk, bd_s, c1, bd_s]
theorem rb11 (h : gI s n T) (hp : p < n) (ht : TC m f s) (hm : m + 1 < 16) (hd : dp + 1 ≤ 8) : ∃ t, f_Asker_runBodyR (d + 2) (rR s 0) (nI 11) (nI p) (nI dp) s = some ((nI (szm T n 0 p)).toInt64 + (nz (T 4 p)).toInt64, t) ∧ fr [62] [] [12] s t ∧ TC (m + 2) (up (up f m 11) (m + 1) 10) t := by
  have n60 := h.n60
  obtain ⟨t, a1, a2, a3⟩ := q_leave (x := 11) ht (by omega)
  obtain ⟨g1, g2⟩ := gI_fC h a2
  obtain ⟨u, b1, b2, b3⟩ := rb10 (d := d) (dp := dp + 1) g1 hp a3 hm hd
  obtain ⟨g3, g4⟩ := gI_fC g1 b2
  refine ⟨u, ?_, a2.tr b2, b3⟩
  rw [g2] at b1
  have b1' : f_Asker_runBodyR (d + 1) (rR s 0) 10 (nI p) (nI (dp + 1)) t = _ := b1
  have r : rI u (rR s 0 + 4) (nI p) = nz (T 4 p) := by rw [← g2, ← g4]; exact g3.C (by omega) (by omega) hp
  rw [rbS, f_Asker_runBody, h.g, ck_t, if_pos (dp8 (by omega)), a1, bv_s, if_pos (by decide), nI_1, b1', bd_s, ck_p (ib_nI (show p < 60 by omega) (by decide)), r]
theorem rb13 (h : gI s n T) (hp : p < n) (hk : kN T p = 3) (t3 : T 3 p < 10) (ht : TC m f s) (hm : m + 4 < 16) (hd : dp + 3 ≤ 8) : ∃ t, f_Asker_runBodyR (d + 4) (rR s 0) (nI 13) (nI p) (nI dp) s = some (((nI (szm T n 0 p)).toInt64 + ((nI p).toInt64 + 100 * (nz (T 3 p)).toInt64)) * (nI (T 15 (T 3 p))).toInt64, t) ∧ fr [62] [] [12] s t ∧ TC (m + 5) (up (up (up (up (up f m 13) (m + 1) 12) (m + 2) 10) (m + 3) 21) (m + 4) 20) t := by
  have n60 := h.n60
  obtain ⟨t, a1, a2, a3⟩ := q_leave (x := 13) ht (by omega)
  obtain ⟨g1, g2⟩ := gI_fC h a2
  obtain ⟨u, b1, b2, b3⟩ := rb12 (d := d) (dp := dp + 1) g1 hp (Or.inr hk) a3 (by omega) (by omega)
  obtain ⟨g3, g4⟩ := gI_fC g1 b2
  refine ⟨u, ?_, a2.tr b2, b3⟩
  rw [g2] at b1
  have b1' : f_Asker_runBodyR (d + 3) (rR s 0) 12 (nI p) (nI (dp + 1)) t = _ := b1
  have r : rI u (rR s 0 + 3) (nI p) = nI (T 3 p) := by rw [← g2, ← g4, g3.C (by omega) (by omega) hp, nz_lt (by omega)]
  have r15 : rI u (rR s 0 + 15) (nI (T 3 p)) = nI (T 15 (T 3 p)) := by
    have := t15_e h t3
    rw [← g2, ← g4, g3.S (by omega) (by omega) t3, nz_lt (by omega)]
  rw [rbS, f_Asker_runBody, h.g, ck_t, if_pos (dp8 (by omega)), a1, bv_s, if_neg (by decide), if_neg (by decide), if_pos (by decide), nI_1, b1', bd_s, ck_p (ib_nI (show p < 60 by omega) (by decide)), r, ck_p (ib_nI t3 (by decide)), r15]
theorem rb15 (h : gI s n T) (hp : p < n) (ht : TC m f s) (hm : m + 1 < 16) (hd : dp + 1 ≤ 8) : ∃ t, f_Asker_runBodyR (d + 2) (rR s 0) (nI 15) (nI p) (nI dp) s = some ((nz (T 2 p)).toInt64 * 2, t) ∧ fr [62] [] [12] s t ∧ TC (m + 2) (up (up f m 15) (m + 1) 14) t := by
  obtain ⟨t, a1, a2, a3⟩ := q_leave (x := 15) ht (by omega)
  obtain ⟨g1, g2⟩ := gI_fC h a2
  obtain ⟨u, b1, b2, b3⟩ := rb14 (d := d) (dp := dp + 1) g1 hp a3 hm hd
  refine ⟨u, ?_, a2.tr b2, b3⟩
  rw [g2] at b1
  have b1' : f_Asker_runBodyR (d + 1) (rR s 0) 14 (nI p) (nI (dp + 1)) t = _ := b1
  rw [rbS, f_Asker_runBody, h.g, ck_t, if_pos (dp8 (by omega)), a1, bv_s]
  rw [if_neg (by decide), if_neg (by decide), if_neg (by decide), if_neg (by decide), if_pos (by decide), nI_1, b1', bd_s]
theorem rb22 (h : gI s n T) (hp : p < n) (hk : kN T p = 5) (ht : TC m f s) (hm : m + 3 < 16) (hd : dp + 2 ≤ 8) : ∃ t, f_Asker_runBodyR (d + 3) (rR s 0) (nI 22) (nI p) (nI dp) s = some ((nI p).toInt64 + (nz (T 2 p)).toInt64 * 2, t) ∧ fr [62] [] [12] s t ∧ TC (m + 4) (up (up (up (up f m 22) (m + 1) 20) (m + 2) 15) (m + 3) 14) t := by
  obtain ⟨t, a1, a2, a3⟩ := q_leave (x := 22) ht (by omega)
  obtain ⟨g1, g2⟩ := gI_fC h a2
  obtain ⟨u, b1, b2, b3⟩ := rb20 (d := d + 1) (dp := dp + 1) g1 hp a3 (by omega) (by omega)
  obtain ⟨g3, g4⟩ := gI_fC g1 b2
  obtain ⟨v, c1, c2, c3⟩ := rb15 (d := d) (dp := dp + 1) g3 hp b3 (by omega) (by omega)
  have mk := szB g3 hp
  rw [hk] at mk
  rw [g2] at b1
  rw [g4, g2] at c1 mk
  refine ⟨v, ?_, (a2.tr b2).tr c2, c3⟩
  have b1' : f_Asker_runBodyR (d + 2) (rR s 0) 20 (nI p) (nI (dp + 1)) t = _ := b1
  rw [rbS, f_Asker_runBody, h.g, ck_t, if_pos (dp8 (by omega)), a1, bv_s]
  rw [if_neg (by decide), if_neg (by decide), if_neg (by decide), if_neg (by decide), if_neg (by decide), if_neg (by decide), if_neg (by decide), if_neg (by decide), if_neg (by decide), if_neg (by decide), if_neg (by decide), if_pos (by decide), nI_1, b1', bd_s, mk, bd_s, c1, bd_s]
/-! the reference's -/
theorem m10 (h : gI s n T) (hp : p < n) (ht : TM m f s) (hm : m < 16) : ∃ t, f_HM_size10 (nI p) s = some ((nI (szm T n 0 p)).toInt64, t) ∧ fr [80] [] [45] s t ∧ TM (m + 1) (up f m 10) t := by
  have n60 := h.n60
  obtain ⟨t, a1, a2, a3⟩ := q_noteM (x := 10) ht hm
  have g1 : gI t n T := h.fr a2 (by decide) (by decide)
  refine ⟨t, ?_, a2, a3⟩
  have a1' : f_HM_note 10 s = some t := a1
  unfold f_HM_size10 f_HM_size10_l8
  rw [a1', bv_s]
  have deep : ∀ q, q < n → rI t 74 (nI q) = nI (T 6 q) := fun q hq => by
    have : rI t 74 (nI q) = nz (T 6 q) := g1.M (j := 6) (by omega) (by omega) hq
    have k := (h.1.K hq).1
    rw [this, nz_lt (by omega)]
  have key : ∀ mm k ff, p + k + mm = n → 0 < k → mm < ff → (∀ q, p < q → q < p + k → T 6 p < T 6 q) → lp (fun _ _ _ => none) f_HM_size10_b8 ff (nI p) (nI k) t = some ((nI (szm T n 0 p)).toInt64, t) := by
    intro mm
    induction mm with
    | zero =>
      intro k ff hk k0 hf hh
      obtain ⟨ff, rfl⟩ : ∃ f0, ff = f0 + 1 := ⟨ff - 1, by omega⟩
      rw [lp_s, f_HM_size10_b8, nI_add, g1.c2, if_pos (nI_le (by omega) (by omega)), sz_run h.1 (e := p + k) hp (by omega) (by omega) hh (fun z => by omega), show p + k - p = k by omega]
    | succ mm ih =>
      intro k ff hk k0 hf hh
      obtain ⟨ff, rfl⟩ : ∃ f0, ff = f0 + 1 := ⟨ff - 1, by omega⟩
      have kq := (h.1.K (show p + k < n by omega)).1
      have kp := (h.1.K hp).1
      have e : (nI (T 6 (p + k)) ≤ nI (T 6 p)) ↔ T 6 (p + k) ≤ T 6 p := nI_leI (by omega) (by omega)
      rw [lp_s, f_HM_size10_b8, nI_add, g1.c2, if_neg (nI_ge (by omega) (by omega)), ck_p (ib_nI (show p + k < 120 by omega) (by decide)), ck_p (ib_nI (show p < 120 by omega) (by decide)), deep _ (by omega), deep _ hp]
      by_cases x : T 6 (p + k) ≤ T 6 p
      · rw [if_pos (e.mpr x), sz_run h.1 (e := p + k) hp (by omega) (by omega) hh (fun _ => x), show p + k - p = k by omega]
      · rw [if_neg (fun z => x (e.mp z)), nI_1]
        exact ih (k + 1) ff (by omega) (by omega) (by omega) (fun q h1 h2 => by
          by_cases y : q = p + k
          · rw [y]; omega
          · exact hh q h1 (by omega))
  exact key (n - (p + 1)) 1 FU (by omega) (by omega) (by unfold FU; omega) (fun q h1 h2 => by omega)
theorem m14 (h : gI s n T) (hp : p < n) (ht : TM m f s) (hm : m < 16) : ∃ t, f_HM_size14 (nI p) s = some ((nz (T 2 p)).toInt64, t) ∧ fr [80] [] [45] s t ∧ TM (m + 1) (up f m 14) t := by
  have n60 := h.n60
  obtain ⟨t, a1, a2, a3⟩ := q_noteM (x := 14) ht hm
  have g1 : gI t n T := h.fr a2 (by decide) (by decide)
  refine ⟨t, ?_, a2, a3⟩
  have a1' : f_HM_note 14 s = some t := a1
  have r : rI t 68 (nI p) = nz (T 2 p) := g1.M (j := 2) (by omega) (by omega) hp
  unfold f_HM_size14
  rw [a1', bv_s, ck_p (ib_nI (show p < 120 by omega) (by decide)), r]
theorem m20 (ht : TM m f s) (hm : m < 16) : ∃ t, f_HM_mark20 (nI p) s = some ((nI p).toInt64, t) ∧ fr [80] [] [45] s t ∧ TM (m + 1) (up f m 20) t := by
  obtain ⟨t, a1, a2, a3⟩ := q_noteM (x := 20) ht hm
  refine ⟨t, ?_, a2, a3⟩
  have a1' : f_HM_note 20 s = some t := a1
  unfold f_HM_mark20
  rw [a1', bv_s]
theorem m21 (h : gI s n T) (hp : p < n) (ht : TM m f s) (hm : m + 1 < 16) : ∃ t, f_HM_mark21 (nI p) s = some ((nI p).toInt64 + 100 * (nz (T 3 p)).toInt64, t) ∧ fr [80] [] [45] s t ∧ TM (m + 2) (up (up f m 21) (m + 1) 20) t := by
  have n60 := h.n60
  obtain ⟨t, a1, a2, a3⟩ := q_noteM (x := 21) ht (by omega)
  obtain ⟨u, b1, b2, b3⟩ := m20 (p := p) a3 hm
  have g3 : gI u n T := h.fr (a2.tr b2) (by decide) (by decide)
  refine ⟨u, ?_, a2.tr b2, b3⟩
  have a1' : f_HM_note 21 s = some t := a1
  have r : rI u 69 (nI p) = nz (T 3 p) := g3.M (j := 3) (by omega) (by omega) hp
  unfold f_HM_mark21
  rw [a1', bv_s, b1, bd_s, ck_p (ib_nI (show p < 120 by omega) (by decide)), r]
theorem m12 (h : gI s n T) (hp : p < n) (ht : TM m f s) (hm : m + 3 < 16) : ∃ t, f_HM_size12 (nI p) s = some ((nI (szm T n 0 p)).toInt64 + ((nI p).toInt64 + 100 * (nz (T 3 p)).toInt64), t) ∧ fr [80] [] [45] s t ∧ TM (m + 4) (up (up (up (up f m 12) (m + 1) 10) (m + 2) 21) (m + 3) 20) t := by
  obtain ⟨t, a1, a2, a3⟩ := q_noteM (x := 12) ht (by omega)
  have g1 : gI t n T := h.fr a2 (by decide) (by decide)
  obtain ⟨u, b1, b2, b3⟩ := m10 g1 hp a3 (by omega)
  have g2 : gI u n T := g1.fr b2 (by decide) (by decide)
  obtain ⟨v, c1, c2, c3⟩ := m21 g2 hp b3 (by omega)
  refine ⟨v, ?_, (a2.tr b2).tr c2, c3⟩
  have a1' : f_HM_note 12 s = some t := a1
  unfold f_HM_size12
  rw [a1', bv_s, b1, bd_s, c1, bd_s]
theorem m11 (h : gI s n T) (hp : p < n) (ht : TM m f s) (hm : m + 1 < 16) : ∃ t, f_HM_size11 (nI p) s = some ((nI (szm T n 0 p)).toInt64 + (nz (T 4 p)).toInt64, t) ∧ fr [80] [] [45] s t ∧ TM (m + 2) (up (up f m 11) (m + 1) 10) t := by
  have n60 := h.n60
  obtain ⟨t, a1, a2, a3⟩ := q_noteM (x := 11) ht (by omega)
  have g1 : gI t n T := h.fr a2 (by decide) (by decide)
  obtain ⟨u, b1, b2, b3⟩ := m10 g1 hp a3 hm
  have g3 : gI u n T := g1.fr b2 (by decide) (by decide)
  refine ⟨u, ?_, a2.tr b2, b3⟩
  have a1' : f_HM_note 11 s = some t := a1
  have r : rI u 70 (nI p) = nz (T 4 p) := g3.M (j := 4) (by omega) (by omega) hp
  unfold f_HM_size11
  rw [a1', bv_s, b1, bd_s, ck_p (ib_nI (show p < 120 by omega) (by decide)), r]
theorem m13 (h : gI s n T) (hp : p < n) (t3 : T 3 p < 10) (ht : TM m f s) (hm : m + 4 < 16) : ∃ t, f_HM_size13 (nI p) s = some (((nI (szm T n 0 p)).toInt64 + ((nI p).toInt64 + 100 * (nz (T 3 p)).toInt64)) * (nI (T 15 (T 3 p))).toInt64, t) ∧ fr [80] [] [45] s t ∧ TM (m + 5) (up (up (up (up (up f m 13) (m + 1) 12) (m + 2) 10) (m + 3) 21) (m + 4) 20) t := by
  have n60 := h.n60
  obtain ⟨t, a1, a2, a3⟩ := q_noteM (x := 13) ht (by omega)
  have g1 : gI t n T := h.fr a2 (by decide) (by decide)
  obtain ⟨u, b1, b2, b3⟩ := m12 g1 hp a3 (by omega)
  have g3 : gI u n T := g1.fr b2 (by decide) (by decide)
  refine ⟨u, ?_, a2.tr b2, b3⟩
  have a1' : f_HM_note 13 s = some t := a1
  have r : rI u 69 (nI p) = nI (T 3 p) := by
    have : rI u 69 (nI p) = nz (T 3 p) := g3.M (j := 3) (by omega) (by omega) hp
    rw [this, nz_lt (by omega)]
  unfold f_HM_size13
  rw [a1', bv_s, b1, bd_s, ck_p (ib_nI (show p < 120 by omega) (by decide)), r, q_placesIn g3 t3, bd_s, (t15_e h t3).1]
theorem m15 (h : gI s n T) (hp : p < n) (ht : TM m f s) (hm : m + 1 < 16) : ∃ t, f_HM_size15 (nI p) s = some ((nz (T 2 p)).toInt64 * 2, t) ∧ fr [80] [] [45] s t ∧ TM (m + 2) (up (up f m 15) (m + 1) 14) t := by
  obtain ⟨t, a1, a2, a3⟩ := q_noteM (x := 15) ht (by omega)
  have g1 : gI t n T := h.fr a2 (by decide) (by decide)
  obtain ⟨u, b1, b2, b3⟩ := m14 g1 hp a3 hm
  refine ⟨u, ?_, a2.tr b2, b3⟩
  have a1' : f_HM_note 15 s = some t := a1
  unfold f_HM_size15
  rw [a1', bv_s, b1, bd_s, Int64.mul_comm]
theorem m22 (h : gI s n T) (hp : p < n) (ht : TM m f s) (hm : m + 3 < 16) : ∃ t, f_HM_mark22 (nI p) s = some ((nI p).toInt64 + (nz (T 2 p)).toInt64 * 2, t) ∧ fr [80] [] [45] s t ∧ TM (m + 4) (up (up (up (up f m 22) (m + 1) 20) (m + 2) 15) (m + 3) 14) t := by
  obtain ⟨t, a1, a2, a3⟩ := q_noteM (x := 22) ht (by omega)
  have g1 : gI t n T := h.fr a2 (by decide) (by decide)
  obtain ⟨u, b1, b2, b3⟩ := m20 (p := p) a3 (by omega)
  have g2 : gI u n T := g1.fr b2 (by decide) (by decide)
  obtain ⟨v, c1, c2, c3⟩ := m15 g2 hp b3 (by omega)
  refine ⟨v, ?_, (a2.tr b2).tr c2, c3⟩
  have a1' : f_HM_note 22 s = some t := a1
  unfold f_HM_mark22
  rw [a1', bv_s, b1, bd_s, c1, bd_s]
end
