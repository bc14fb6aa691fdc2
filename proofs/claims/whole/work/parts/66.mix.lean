theorem gI.fr {ka kl kf : List Nat} {σ σ' : St} {n : Nat} {T : TT} (h : gI σ n T) (hf : fr ka kl kf σ σ') (h1 : ∀ k ∈ ka, (46 ≤ k ∧ k ≤ 66) ∨ 78 ≤ k) (h2 : ∀ k ∈ kf, k ≠ 20 ∧ k ≠ 38 ∧ k ≠ 43) : gI σ' n T := by
  have g := (g_of h).1
  obtain ⟨g1, g2, g3, g4⟩ := h
  have kk : ∀ k i, 67 ≤ k → k ≤ 77 → i < lom k → σ'.1 k i = σ.1 k i := fun k i a b _ => by
    rw [hf.1 k (fun z => by have := h1 k z; omega)]
  refine ⟨g1, by rw [hf.2.2.2]; exact g2, ?_, g4.kp g1 kk (hf.2.2.1 43 (fun z => (h2 43 z).2.2 rfl))⟩
  rw [hf.2.2.2]
  refine g3.cg (fun j a b => hf.1 _ (fun z => by have := h1 _ z; omega)) (hf.2.2.1 _ (fun z => by have := h2 _ z; omega))
theorem rdI.fr {ka kl kf : List Nat} {σ σ' : St} {n : Nat} {T : TT} {R : Nat} {D : Nat → Nat → Nat} (h : rdI σ n T R D) (hf : fr ka kl kf σ σ') (h1 : 58 ∉ ka) (h2 : 79 ∉ ka) (h3 : 59 ∉ kl) (h4 : 60 ∉ kl) (h5 : 11 ∉ kf) (h6 : 44 ∉ kf) : rdI σ' n T R D := by
  obtain ⟨r1, r2, r3, r4, r5, r6⟩ := h
  refine ⟨r1, by rw [hf.2.2.1 11 h5]; exact r2, by rw [hf.2.2.1 44 h6]; exact r3, r4, fun r s x y => ?_, fun w p x y => ?_⟩
  · rw [hf.1 58 h1, hf.1 79 h2]; exact r5 r s x y
  · have : w = 0 ∨ w = 1 := by omega
    rcases this with rfl | rfl
    · rw [hf.2.1 59 h3]; exact r6 0 p x y
    · rw [hf.2.1 60 h4]; exact r6 1 p x y
theorem pI.fr {ka kl kf : List Nat} {σ σ' : St} {T : TT} {sh : Nat → Nat → Nat} (h : pI σ T sh) (hf : fr ka kl kf σ σ') (h1 : 51 ∉ ka) (h2 : 78 ∉ ka) : pI σ' T sh := fun s a x y z => by
  rw [hf.1 51 h1, hf.1 78 h2]; exact h s a x y z
theorem iTap.fr {ka kl kf : List Nat} {σ σ' : St} (h : iTap σ) (hf : fr ka kl kf σ σ') (h1 : 50 ∉ ka) (h2 : 66 ∉ ka) (h3 : 2 ∉ kf) (h4 : 41 ∉ kf) : iTap σ' := by
  obtain ⟨T, x1, x2, x3, x4⟩ := h
  refine ⟨T, x1, by rw [hf.2.2.1 2 h3]; exact x2, by rw [hf.2.2.1 41 h4]; exact x3, fun i hi => ?_⟩
  rw [hf.1 66 h2, hf.1 50 h1]
  exact x4 i hi
theorem trI.fr {ka kl kf : List Nat} {σ σ' : St} (h : trI σ) (hf : fr ka kl kf σ σ') (h1 : 62 ∉ ka) (h2 : 80 ∉ ka) (h3 : 12 ∉ kf) (h4 : 45 ∉ kf) : trI σ' := h.cg (hf.2.2.1 12 h3) (hf.2.2.1 45 h4) (hf.1 62 h1) (hf.1 80 h2)
/-- calls of rows: what they leave alone -/
theorem Inv.rows {σ σ' : St} (h : Inv σ) (hf : fr [47, 48, 49, 63, 64, 65] [] [1, 40] σ σ') (h1 : iRow σ') (h2 : iFnd σ') : Inv σ' := by
  obtain ⟨⟨a1, a2, a3, a4, n, T, sh, R, D, hg, hp, hr⟩, b, c⟩ := h
  have F : ∀ k, k ≠ 1 → k ≠ 40 → σ'.2.2.1 k = σ.2.2.1 k := fun k x y => hf.2.2.1 k (by simp [x, y])
  refine ⟨⟨h1, h2, ⟨by rw [F 9 (by decide) (by decide)]; exact a3.1, by rw [F 10 (by decide) (by decide)]; exact a3.2⟩, a4.fr hf (by decide) (by decide) (by decide) (by decide), n, T, sh, R, D, hg.fr hf (by decide) (by decide), hp.fr hf (by decide) (by decide), hr.fr hf (by decide) (by decide) (by decide) (by decide) (by decide) (by decide)⟩, b.fr hf (by decide) (by decide) (by decide) (by decide), ?_⟩
  rw [F 0 (by decide) (by decide), F 42 (by decide) (by decide)]
  exact c
theorem iv_row (x1 x2 x3 : Int32) {σ : St} (h : Inv σ) : stq (f_HG_row x1 x2 x3) (f_HM_row x1 x2 x3) σ := by
  obtain ⟨r, σ1, σ2, a, b, c, d⟩ := st_row x1 x2 x3 h.1.1 h.1.2.1
  exact ⟨r, σ1, σ2, a, b, h.rows d c.1 c.2⟩
theorem iv_set (x1 x2 x3 : Int32) {σ : St} (h : Inv σ) : stq (f_HG_set x1 x2 x3) (f_HM_set x1 x2 x3) σ := by
  obtain ⟨r, σ1, σ2, a, b, c, d⟩ := st_set x1 x2 x3 h.1.1 h.1.2.1
  exact ⟨r, σ1, σ2, a, b, h.rows (d.mo (by decide) (by decide) (by decide)) c.1 c.2⟩
theorem iv_copy (x1 x2 x3 x4 x5 : Int32) {σ : St} (h : Inv σ) : stq (f_HG_copy x1 x2 x3 x4 x5) (f_HM_copy x1 x2 x3 x4 x5) σ := by
  obtain ⟨r, σ1, σ2, a, b, c, d⟩ := st_copy x1 x2 x3 x4 x5 h.1.1 h.1.2.1
  exact ⟨r, σ1, σ2, a, b, h.rows (d.mo (by decide) (by decide) (by decide)) c.1 c.2⟩
theorem iv_drop (x1 : Int32) {σ : St} (h : Inv σ) : stq (f_HG_drop x1) (f_HM_drop x1) σ := by
  obtain ⟨r, σ1, σ2, a, b, c, d⟩ := st_drop x1 h.1.1 h.1.2.1
  exact ⟨r, σ1, σ2, a, b, h.rows (d.mo (by decide) (by decide) (by decide)) c.1 c.2⟩
theorem iv_feed (x1 : Int64) (x3 : Int32) {σ : St} (h : Inv σ) : stq (f_HG_feed x1 x3) (f_HM_feed x1 x3) σ := by
  obtain ⟨r, σ1, σ2, a, b, c, hf⟩ := st_feed x1 x3 h.2.1
  refine ⟨r, σ1, σ2, a, b, ?_⟩
  obtain ⟨⟨a1, a2, a3, a4, n, T, sh, R, D, hg, hp, hr⟩, _, c0⟩ := h
  have F : ∀ k, k ≠ 2 → k ≠ 41 → σ2.2.2.1 k = σ.2.2.1 k := fun k x y => hf.2.2.1 k (by simp [x, y])
  refine ⟨⟨a1.fr hf (by decide), ?_, ⟨by rw [F 9 (by decide) (by decide)]; exact a3.1, by rw [F 10 (by decide) (by decide)]; exact a3.2⟩, a4.fr hf (by decide) (by decide) (by decide) (by decide), n, T, sh, R, D, hg.fr hf (by decide) (by decide), hp.fr hf (by decide) (by decide), hr.fr hf (by decide) (by decide) (by decide) (by decide) (by decide) (by decide)⟩, c, ?_⟩
  · unfold iFnd at a2 ⊢
    rw [F 1 (by decide) (by decide), F 40 (by decide) (by decide)]
    exact a2
  · rw [F 0 (by decide) (by decide), F 42 (by decide) (by decide)]
    exact c0
/-! mix -/
def okI (x : Int32) : Prop := ¬ x < 0 ∧ x ≤ 12
theorem okI_n {x : Int32} (h : okI x) : ∃ k, k ≤ 12 ∧ x = nI k := nI_of2 (M := 12) (n := 12) (by decide) h.1 h.2
def ac (it : Nat → Int32) (S : Int32) : Nat → Nat → Int32
  | _, 0 => S
  | k, m + 1 => ac it (S + it k) (k + 1) m
theorem q_itemAt {r i : Nat} {σ : St} (hr : r < 8) (hi : i < 40) : f_Shelf_itemAt (nI r) (nI i) σ = some (σ.1 49 (40 * r + i), σ) := by
  unfold f_Shelf_itemAt
  rw [ix40, ck_p (ib_nI (show 40 * r + i < 320 by omega) (by decide)), rI, nI_clamp (by omega)]
theorem shC {r i n : Nat} {σ : St} (hr : r < 8) (hi : i + n ≤ 40) : ∀ m k f S, k + m = n → m < f → ((∀ j, k ≤ j → j < n → okI (σ.1 49 (40 * r + (i + j)))) → lp (fun _ _ _ _ _ _ => none) f_Shelf_hasShares_b6 f (nI r) (nI i) (nI n) S (nI k) σ = some (if ac (fun j => σ.1 49 (40 * r + (i + j))) S k m = 12 then 1 else 0, σ)) ∧ ((∃ j, k ≤ j ∧ j < n ∧ ¬ okI (σ.1 49 (40 * r + (i + j)))) → lp (fun _ _ _ _ _ _ => none) f_Shelf_hasShares_b6 f (nI r) (nI i) (nI n) S (nI k) σ = some (0, σ))
  | 0, k, f + 1, S, hk, _ => by
    refine ⟨fun _ => ?_, fun ⟨j, j1, j2, _⟩ => by omega⟩
    rw [lp_s, f_Shelf_hasShares_b6, if_pos (nI_le (by omega) (by omega))]
    show _ = some (if S = 12 then 1 else 0, σ)
    by_cases c : S = 12
    · rw [if_pos c, if_pos c]
    · rw [if_neg c, if_neg c]
  | m + 1, k, f + 1, S, hk, hf => by
    obtain ⟨r1, r2⟩ := shC (σ := σ) hr hi m (k + 1) f (S + σ.1 49 (40 * r + (i + k))) (by omega) (by omega)
    have step : lp (fun _ _ _ _ _ _ => none) f_Shelf_hasShares_b6 (f + 1) (nI r) (nI i) (nI n) S (nI k) σ = if σ.1 49 (40 * r + (i + k)) < 0 then some (0, σ) else if σ.1 49 (40 * r + (i + k)) ≤ 12 then lp (fun _ _ _ _ _ _ => none) f_Shelf_hasShares_b6 f (nI r) (nI i) (nI n) (S + σ.1 49 (40 * r + (i + k))) (nI (k + 1)) σ else some (0, σ) := by
      rw [lp_s, f_Shelf_hasShares_b6, if_neg (nI_ge (by omega) (by omega)), nI_add, q_itemAt hr (by omega), bd_s, nI_1]
    rw [step]
    refine ⟨fun ha => ?_, fun ⟨j, j1, j2, j3⟩ => ?_⟩
    · have hk1 := ha k (Nat.le_refl _) (by omega)
      rw [if_neg hk1.1, if_pos hk1.2]
      exact r1 (fun j a b => ha j (by omega) b)
    · by_cases c : σ.1 49 (40 * r + (i + k)) < 0
      · rw [if_pos c]
      · rw [if_neg c]
        by_cases d : σ.1 49 (40 * r + (i + k)) ≤ 12
        · rw [if_pos d]
          have : j ≠ k := fun e => j3 (by rw [e]; exact ⟨c, d⟩)
          exact r2 ⟨j, by omega, j2, j3⟩
        · rw [if_neg d]
theorem in12 (x : Int32) (σ : St) : f_HM_in x.toInt64 0 12 σ = some (if x < 0 ∨ (13 : Int32) ≤ x then 0 else 1, σ) := q_HM_inN x 0 12 (by decide) (by decide) σ
theorem okI_13 (x : Int32) : okI x ↔ ¬ (x < 0 ∨ (13 : Int32) ≤ x) := by
  have h3 : (13 : Int32).toInt = 13 := by decide
  have h2 : (12 : Int32).toInt = 12 := by decide
  have e : x ≤ 12 ↔ ¬ (13 : Int32) ≤ x := by
    rw [fa_le, fa_le, h2, h3]
    omega
  unfold okI
  rw [e]
  exact ⟨fun h z => z.elim h.1 h.2, fun h => ⟨fun z => h (Or.inl z), fun z => h (Or.inr z)⟩⟩
theorem ix40m (r i k : Nat) : 40 * nI r + nI i + nI k = nI (40 * r + (i + k)) := by
  rw [ix40', nI_add]; congr 1; omega
theorem shM {r i n s : Nat} {σ : St} (hr : r < 8) (hs : s < 10) (hn : σ.1 77 s = nI n) (hi : i + n ≤ 40) : ∀ m k f S, k + m = n → m < f → ((∀ j, k ≤ j → j < n → okI (σ.1 65 (40 * r + (i + j)))) → lp (fun _ _ _ _ _ _ _ => none) f_HM_mix_b74 f (nI s) (nI r) (nI i) S 1 (nI k) σ = if ac (fun j => σ.1 65 (40 * r + (i + j))) S k m = 12 then f_HM_mix_l167 (nI s) (nI r) (nI i) 0 σ else some ((-9000000000000000001), σ)) ∧ ((∃ j, k ≤ j ∧ j < n ∧ ¬ okI (σ.1 65 (40 * r + (i + j)))) → lp (fun _ _ _ _ _ _ _ => none) f_HM_mix_b74 f (nI s) (nI r) (nI i) S 1 (nI k) σ = some ((-9000000000000000001), σ)) ∧ lp (fun _ _ _ _ _ _ _ => none) f_HM_mix_b74 f (nI s) (nI r) (nI i) S 0 (nI k) σ = some ((-9000000000000000001), σ)
  | 0, k, f + 1, S, hk, _ => by
    have b2 : ib (nI s) 20 = true := ib_nI (by omega) (by decide)
    have e77 : rI σ 77 (nI s) = nI n := by rw [rI, nI_clamp (by omega)]; exact hn
    have step : ∀ x5, lp (fun _ _ _ _ _ _ _ => none) f_HM_mix_b74 (f + 1) (nI s) (nI r) (nI i) S x5 (nI k) σ = if x5 = 0 then (some ((-9000000000000000001), σ)) else (if S = 12 then (f_HM_mix_l167 (nI s) (nI r) (nI i) 0 σ) else (some ((-9000000000000000001), σ))) := by
      intro x5
      rw [lp_s, f_HM_mix_b74, ck_p b2, e77, if_pos (nI_le (by omega) (by omega))]
    rw [step, step]
    refine ⟨fun _ => by rw [if_neg i10]; rfl, fun ⟨j, j1, j2, _⟩ => by omega, by rw [if_pos rfl]⟩
  | m + 1, k, f + 1, S, hk, hf => by
    have b2 : ib (nI s) 20 = true := ib_nI (by omega) (by decide)
    have b3 : ib (nI (40 * r + (i + k))) 320 = true := ib_nI (by omega) (by decide)
    have e77 : rI σ 77 (nI s) = nI n := by rw [rI, nI_clamp (by omega)]; exact hn
    have e65 : rI σ 65 (nI (40 * r + (i + k))) = σ.1 65 (40 * r + (i + k)) := by rw [rI, nI_clamp (by omega)]
    obtain ⟨r1, r2, r3⟩ := shM (σ := σ) hr hs hn hi m (k + 1) f (S + σ.1 65 (40 * r + (i + k))) (by omega) (by omega)
    obtain ⟨_, _, q3⟩ := shM (σ := σ) hr hs hn hi m (k + 1) f (S + 0) (by omega) (by omega)
    have step0 : lp (fun _ _ _ _ _ _ _ => none) f_HM_mix_b74 (f + 1) (nI s) (nI r) (nI i) S 0 (nI k) σ = some ((-9000000000000000001), σ) := by
      rw [lp_s, f_HM_mix_b74, ck_p b2, e77, if_neg (nI_ge (by omega) (by omega)), ix40m, ck_p b3, if_pos rfl]
      rw [f_HM_mix_b123, f_HM_mix_b124, if_pos rfl, f_HM_mix_b139, nI_1]
      exact q3
    have step1 : lp (fun _ _ _ _ _ _ _ => none) f_HM_mix_b74 (f + 1) (nI s) (nI r) (nI i) S 1 (nI k) σ = if σ.1 65 (40 * r + (i + k)) < 0 ∨ (13 : Int32) ≤ σ.1 65 (40 * r + (i + k)) then some ((-9000000000000000001), σ) else lp (fun _ _ _ _ _ _ _ => none) f_HM_mix_b74 f (nI s) (nI r) (nI i) (S + σ.1 65 (40 * r + (i + k))) 1 (nI (k + 1)) σ := by
      rw [lp_s, f_HM_mix_b74, ck_p b2, e77, if_neg (nI_ge (by omega) (by omega)), ix40m, ck_p b3, if_neg i10, e65, in12, bd_s]
      by_cases c : σ.1 65 (40 * r + (i + k)) < 0 ∨ (13 : Int32) ≤ σ.1 65 (40 * r + (i + k))
      · rw [if_pos c, if_pos rfl, if_pos c, f_HM_mix_b123, f_HM_mix_b124, if_pos rfl, f_HM_mix_b139, nI_1]
        exact q3
      · rw [if_neg c, if_neg i10, if_neg c, f_HM_mix_b124, if_neg i10, f_HM_mix_b139, nI_1]
    rw [step0, step1]
    refine ⟨fun ha => ?_, fun ⟨j, j1, j2, j3⟩ => ?_, rfl⟩
    · have hk1 := ha k (Nat.le_refl _) (by omega)
      rw [if_neg ((okI_13 _).mp hk1)]
      exact r1 (fun j a b => ha j (by omega) b)
    · by_cases c : σ.1 65 (40 * r + (i + k)) < 0 ∨ (13 : Int32) ≤ σ.1 65 (40 * r + (i + k))
      · rw [if_pos c]
      · rw [if_neg c]
        have : j ≠ k := fun e => j3 (by rw [e]; exact (okI_13 _).mpr c)
        exact r2 ⟨j, by omega, j2, j3⟩
theorem ac_cg {f g : Nat → Int32} : ∀ m k S, (∀ j, k ≤ j → j < k + m → f j = g j) → ac f S k m = ac g S k m
  | 0, _, _, _ => rfl
  | m + 1, k, S, h => by
    unfold ac
    rw [h k (Nat.le_refl _) (by omega)]
    exact ac_cg m (k + 1) _ (fun j a b => h j (by omega) (by omega))
theorem giC {s r i n : Nat} {σ : St} (hs : s < 10) (hr : r < 8) (hi : i + n ≤ 40) (hn : n ≤ 3) : ∃ σ', f_HG_mix_l88 (nI s) (nI r) (nI i) (nI n) 0 σ = some (1, σ') ∧ fr [51] [] [1] σ σ' ∧ σ'.2.2.1 1 = 0 ∧ ∀ m, σ'.1 51 m = if 3 * s ≤ m ∧ m < 3 * s + n then σ.1 49 (40 * r + (i + (m - 3 * s))) else σ.1 51 m := by
  unfold f_HG_mix_l88
  have key : ∀ (k : Int32 → Int32 → Int32 → Int32 → Int32 → St → Option (Int64 × St)) (a : Nat) (t : St), a < n → f_HG_mix_b88 k (nI s) (nI r) (nI i) (nI n) (nI a) t = k (nI s) (nI r) (nI i) (nI n) (nI (a + 1)) (stA t 51 (3 * s + a) (t.1 49 (40 * r + (i + a)))) := by
    intro k a t ha
    rw [f_HG_mix_b88, if_neg (nI_ge (by omega) (by omega)), nI_add, q_itemAt hr (by omega), bd_s]
    unfold f_Plan_give
    rw [show isP 4 = true from rfl, ck_t, show nI s * 3 + nI a = nI (3 * s + a) by rw [show (3 : Int32) = nI 3 from rfl, pk_mul, nI_add, Nat.mul_comm], ck_p (ib_nI (show 3 * s + a < 30 by omega) (by decide)), lE_d, bv_s, nI_clamp (by omega), nI_1]
  obtain ⟨t, e, h1, h2⟩ := lp_u0 (z := fun _ _ _ _ _ _ => none) (body := f_HG_mix_b88) (fun k a (t : St) => k (nI s) (nI r) (nI i) (nI n) (nI a) t) (fun a t => fr [51] [] [] σ t ∧ ∀ m, t.1 51 m = if 3 * s ≤ m ∧ m < 3 * s + a then σ.1 49 (40 * r + (i + (m - 3 * s))) else σ.1 51 m) n (fun t => some (1, stF t 1 0)) (fun k a t ha hI => by
    refine ⟨_, key k a t ha, hI.1.A (by simp) _ _, fun m => ?_⟩
    rw [sA1, if_pos rfl, updD, hI.1.1 49 (by decide), hI.2 m]
    by_cases c : m = 3 * s + a
    · rw [if_pos c, if_pos (show 3 * s ≤ m ∧ m < 3 * s + (a + 1) by omega), show m - 3 * s = a by omega]
    · rw [if_neg c]
      by_cases d : 3 * s ≤ m ∧ m < 3 * s + a
      · rw [if_pos d, if_pos (show 3 * s ≤ m ∧ m < 3 * s + (a + 1) by omega)]
      · rw [if_neg d, if_neg (show ¬ (3 * s ≤ m ∧ m < 3 * s + (a + 1)) by omega)]) (fun k t hI => by
    show f_HG_mix_b88 k (nI s) (nI r) (nI i) (nI n) (nI n) t = _
    rw [f_HG_mix_b88, if_pos (nI_le (Nat.le_refl _) (by omega)), q_fine, bd_s]) (i := 0) (s := σ) (by omega) (Nat.zero_le _) ⟨fr.rf, fun m => by rw [if_neg (by omega)]⟩
  exact ⟨stF t 1 0, e, (h1.mo (by simp) (by simp) (by simp)).F (by simp) _, by rw [sF3, if_pos rfl], fun m => h2 m⟩
theorem giM {s r i n : Nat} {σ : St} (hs : s < 10) (hr : r < 8) (hi : i + n ≤ 40) (hn : n ≤ 3) (h77 : σ.1 77 s = nI n) : ∃ σ', f_HM_mix_l167 (nI s) (nI r) (nI i) 0 σ = some (1, σ') ∧ fr [78] [] [40] σ σ' ∧ σ'.2.2.1 40 = 0 ∧ ∀ m, σ'.1 78 m = if 3 * s ≤ m ∧ m < 3 * s + n then σ.1 65 (40 * r + (i + (m - 3 * s))) else σ.1 78 m := by
  unfold f_HM_mix_l167
  have b2 : ib (nI s) 20 = true := ib_nI (by omega) (by decide)
  have key : ∀ (k : Int32 → Int32 → Int32 → Int32 → St → Option (Int64 × St)) (a : Nat) (t : St), a < n → t.1 77 s = nI n → f_HM_mix_b167 k (nI s) (nI r) (nI i) (nI a) t = k (nI s) (nI r) (nI i) (nI (a + 1)) (stA t 78 (3 * s + a) (t.1 65 (40 * r + (i + a)))) := by
    intro k a t ha h7
    rw [f_HM_mix_b167, ck_p b2, rI, nI_clamp (show s < 2 ^ 31 by omega), h7, if_neg (nI_ge (by omega) (by omega)), ix40m, ck_p (ib_nI (show 40 * r + (i + a) < 320 by omega) (by decide)), show 3 * nI s + nI a = nI (3 * s + a) by rw [show (3 : Int32) = nI 3 from rfl, pk_mul, nI_add], ck_p (ib_nI (show 3 * s + a < 30 by omega) (by decide)), lE_d, nI_clamp (by omega), rI, nI_clamp (by omega), nI_1]
  obtain ⟨t, e, h1, h2⟩ := lp_u0 (z := fun _ _ _ _ _ => none) (body := f_HM_mix_b167) (fun k a (t : St) => k (nI s) (nI r) (nI i) (nI a) t) (fun a t => fr [78] [] [] σ t ∧ ∀ m, t.1 78 m = if 3 * s ≤ m ∧ m < 3 * s + a then σ.1 65 (40 * r + (i + (m - 3 * s))) else σ.1 78 m) n (fun t => some (1, stF t 40 0)) (fun k a t ha hI => by
    refine ⟨_, key k a t ha (by rw [hI.1.1 77 (by decide)]; exact h77), hI.1.A (by simp) _ _, fun m => ?_⟩
    rw [sA1, if_pos rfl, updD, hI.1.1 65 (by decide), hI.2 m]
    by_cases c : m = 3 * s + a
    · rw [if_pos c, if_pos (show 3 * s ≤ m ∧ m < 3 * s + (a + 1) by omega), show m - 3 * s = a by omega]
    · rw [if_neg c]
      by_cases d : 3 * s ≤ m ∧ m < 3 * s + a
      · rw [if_pos d, if_pos (show 3 * s ≤ m ∧ m < 3 * s + (a + 1) by omega)]
      · rw [if_neg d, if_neg (show ¬ (3 * s ≤ m ∧ m < 3 * s + (a + 1)) by omega)]) (fun k t hI => by
    show f_HM_mix_b167 k (nI s) (nI r) (nI i) (nI n) t = _
    rw [f_HM_mix_b167, ck_p b2, rI, nI_clamp (show s < 2 ^ 31 by omega), hI.1.1 77 (by decide), h77, if_pos (nI_le (Nat.le_refl _) (by omega)), q_mtaken, bd_s]) (i := 0) (s := σ) (by omega) (Nat.zero_le _) ⟨fr.rf, fun m => by rw [if_neg (by omega)]⟩
  exact ⟨stF t 40 0, e, (h1.mo (by simp) (by simp) (by simp)).F (by simp) _, by rw [sF3, if_pos rfl], fun m => h2 m⟩
