/-! plans: all to one act -/
theorem q_giveAll {q s a : Nat} {σ : St} (hq : isP q = true) (hs : s < 10) (ha : a < 1000) : ∃ σ', f_Plan_giveAllTo q (nI s) (nI a) σ = some σ' ∧ fr [q + 47] [] [] σ σ' ∧ ∀ m, σ'.1 (q + 47) m = if 3 * s ≤ m ∧ m < 3 * s + 3 then (if m = 3 * s + a then 12 else 0) else σ.1 (q + 47) m := by
  unfold f_Plan_giveAllTo f_Plan_giveAllTo_l2
  rw [hq, ck_t]
  have hs3 : nI s * 3 = nI (3 * s) := by rw [show (3 : Int32) = nI 3 from rfl, pk_mul, Nat.mul_comm]
  have key : ∀ (k : Int32 → Int32 → Int32 → St → Option St) (i : Nat) (t : St), i < 3 → f_Plan_giveAllTo_b2 q k (nI s) (nI a) (nI i) t = k (nI s) (nI a) (nI (i + 1)) (stA t (q + 47) (3 * s + i) (if i = a then 12 else 0)) := by
    intro k i t hi
    have e1 : (nI i = nI a) ↔ i = a := nI_eq (by omega) (by omega)
    have e2 : nI (3 * s) + nI i = nI (3 * s + i) := nI_add _ _
    have e3 : ib (nI (3 * s + i)) 30 = true := ib_nI (by omega) (by decide)
    have e4 : (nI (3 * s + i)).toNatClampNeg = 3 * s + i := nI_clamp (by omega)
    unfold f_Plan_giveAllTo_b2 f_Plan_giveAllTo_b21 f_Plan_give
    rw [if_neg (show ¬ (3 : Int32) ≤ nI i from nI_ge (b := 3) (by omega) (by decide))]
    by_cases c : i = a
    · rw [if_pos (e1.mpr c), if_pos c, hq, ck_t, hs3, e2, ck_p e3, lE_d, e4, bv_s, nI_1]
    · rw [if_neg (fun z => c (e1.mp z)), if_neg c, hq, ck_t, hs3, e2, ck_p e3, lE_d, e4, bv_s, nI_1]
  exact lp_u0 (z := fun _ _ _ _ => none) (body := f_Plan_giveAllTo_b2 q) (fun k i (t : St) => k (nI s) (nI a) (nI i) t) (fun i t => fr [q + 47] [] [] σ t ∧ ∀ m, t.1 (q + 47) m = if 3 * s ≤ m ∧ m < 3 * s + i then (if m = 3 * s + a then 12 else 0) else σ.1 (q + 47) m) 3 (fun t => some t) (fun k i t hi hI => by
    refine ⟨_, key k i t hi, hI.1.A (by simp) _ _, fun m => ?_⟩
    rw [sA1, if_pos rfl, updD, hI.2 m]
    by_cases c : m = 3 * s + i
    · rw [if_pos c, if_pos (show 3 * s ≤ m ∧ m < 3 * s + (i + 1) by omega)]
      by_cases c2 : i = a
      · rw [if_pos c2, if_pos (by omega)]
      · rw [if_neg c2, if_neg (by omega)]
    · rw [if_neg c]
      by_cases c2 : 3 * s ≤ m ∧ m < 3 * s + i
      · rw [if_pos c2, if_pos (show 3 * s ≤ m ∧ m < 3 * s + (i + 1) by omega)]
      · rw [if_neg c2, if_neg (show ¬ (3 * s ≤ m ∧ m < 3 * s + (i + 1)) by omega)]) (fun k t hI => by
    show f_Plan_giveAllTo_b2 q k (nI s) (nI a) (nI 3) t = some t
    unfold f_Plan_giveAllTo_b2
    rw [if_pos (show (3 : Int32) ≤ nI 3 by decide)]) (i := 0) (s := σ) (by omega) (by omega) ⟨fr.rf, fun m => by rw [if_neg (by omega)]⟩
theorem q_begin {σ : St} : ∃ σ', f_Plan_begin 4 σ = some σ' ∧ fr [51] [] [] σ σ' ∧ ∀ s a, s < 10 → a < 3 → σ'.1 51 (3 * s + a) = if a = 0 then 12 else 0 := by
  unfold f_Plan_begin f_Plan_begin_l2
  rw [show isP 4 = true from rfl, ck_t]
  obtain ⟨σ', e, h1, h2⟩ := lp_u0 (z := fun _ _ => none) (body := f_Plan_begin_b2 4) (fun k i (t : St) => k (nI i) t) (fun i t => fr [51] [] [] σ t ∧ ∀ s a, s < i → a < 3 → t.1 51 (3 * s + a) = if a = 0 then 12 else 0) 10 (fun t => some t) (fun k i t hi hI => by
    obtain ⟨t', g1, g2, g3⟩ := @q_giveAll 4 i 0 t rfl hi (by omega)
    have g1' : f_Plan_giveAllTo 4 (nI i) 0 t = some t' := g1
    refine ⟨t', ?_, hI.1.tr g2, fun s a hs ha => ?_⟩
    · show f_Plan_begin_b2 4 k (nI i) t = k (nI (i + 1)) t'
      unfold f_Plan_begin_b2
      rw [if_neg (show ¬ (10 : Int32) ≤ nI i from nI_ge (b := 10) (by omega) (by decide)), g1', bv_s, nI_1]
    · rw [g3 (3 * s + a)]
      by_cases c : s = i
      · subst c
        rw [if_pos (by omega)]
        by_cases c2 : a = 0
        · rw [if_pos c2, if_pos (by omega)]
        · rw [if_neg c2, if_neg (by omega)]
      · rw [if_neg (by omega)]
        exact hI.2 s a (by omega) ha) (fun k t hI => by
    show f_Plan_begin_b2 4 k (nI 10) t = some t
    unfold f_Plan_begin_b2
    rw [if_pos (show (10 : Int32) ≤ nI 10 by decide)]) (i := 0) (s := σ) (by omega) (by omega) ⟨fr.rf, fun s a hs => by omega⟩
  exact ⟨σ', e, h1, h2⟩
theorem q_hbegin {σ : St} : ∃ σ', f_History_begin σ = some σ' ∧ fr [] [59, 60] [11] σ σ' ∧ σ'.2.2.1 11 = nI 0 ∧ ∀ w p, w < 2 → p < 60 → σ'.2.1 (59 + w) p = 0 := by
  obtain ⟨σ1, a1, a2, a3⟩ := @q_fillJ 59 0 (stF σ 11 0) (by decide) (by decide)
  obtain ⟨σ2, b1, b2, b3⟩ := @q_fillJ 60 0 σ1 (by decide) (by decide)
  refine ⟨σ2, ?_, ((fr.rf.F (by simp) _).tr (a2.mo (by simp) (by simp) (by simp))).tr (b2.mo (by simp) (by simp) (by simp)), ?_, fun w p hw hp => ?_⟩
  · unfold f_History_begin
    rw [lE_d, a1, bv_s, b1, bv_s]
  · rw [b2.2.2.1 _ (by simp), a2.2.2.1 _ (by simp), sF3, if_pos rfl]; rfl
  · have l1 : ln 59 = 60 := rfl
    have l2 : ln 60 = 60 := rfl
    have : w = 0 ∨ w = 1 := by omega
    rcases this with rfl | rfl
    · rw [b2.2.1 _ (by simp), a3 p, if_pos (by omega)]
    · rw [b3 p, if_pos (by omega)]
/-! the reference's game comes to stand -/
def cp (σ : St) (k i : Nat) : St := stA σ k i (σ.1 k (60 + i))
def cpl (σ : St) (i : Nat) : List Nat → St
  | [] => σ
  | k :: ks => cpl (cp σ k i) i ks
theorem cpl_2 (i : Nat) : ∀ (ks : List Nat) (σ : St), (cpl σ i ks).2 = σ.2
  | [], _ => rfl
  | k :: ks, σ => by
    show (cpl (cp σ k i) i ks).2 = _
    rw [cpl_2 i ks]
    rfl
theorem cpl_1 (i : Nat) : ∀ (ks : List Nat) (σ : St), ks.Nodup → ∀ k, (cpl σ i ks).1 k = if k ∈ ks then upd (σ.1 k) i (σ.1 k (60 + i)) else σ.1 k
  | [], σ, _, k => by simp [cpl]
  | a :: ks, σ, hn, k => by
    show (cpl (cp σ a i) i ks).1 k = _
    rw [cpl_1 i ks _ (List.nodup_cons.mp hn).2 k]
    have na := (List.nodup_cons.mp hn).1
    by_cases c : k = a
    · rw [c, if_neg na, if_pos List.mem_cons_self, cp, sA1, if_pos rfl]
    · rw [cp, sA1, if_neg c]
      by_cases d : k ∈ ks
      · rw [if_pos d, if_pos (List.mem_cons_of_mem _ d)]
      · rw [if_neg d, if_neg (fun z => (List.mem_cons.mp z).elim c d)]
def k8 : List Nat := [67, 68, 69, 70, 71, 72, 73, 74]
theorem b39g_e {i n : Nat} {s : St} (k : Int32 → St → Option (Int64 × St)) (hi : i < n) (hn : n ≤ 60) (hc : s.2.2.1 43 = nI n) : f_HM_game_b39 k (nI i) s = f_HM_game_l169 k (nI i) 0 (cpl s i k8) := by
  have e1 : ib (nI (60 + i)) 120 = true := ib_nI (by omega) (by decide)
  have e2 : ib (nI i) 120 = true := ib_nI (by omega) (by decide)
  have e3 : (60 : Int32) + nI i = nI (60 + i) := nI_add 60 i
  have e4 : (nI (60 + i)).toNatClampNeg = 60 + i := nI_clamp (by omega)
  have e5 : (nI i).toNatClampNeg = i := nI_clamp (by omega)
  unfold f_HM_game_b39
  unfold rI
  rw [if_neg (by rw [rF, hc]; exact nI_ge hi (by omega)), e3, e4, e5, ck_p e1, ck_p e2, lE_d, ck_p e1, ck_p e2, lE_d, ck_p e1, ck_p e2, lE_d, ck_p e1, ck_p e2, lE_d, ck_p e1, ck_p e2, lE_d, ck_p e1, ck_p e2, lE_d, ck_p e1, ck_p e2, lE_d, ck_p e1, ck_p e2, lE_d]
  rfl
theorem q_l169 {i : Nat} {σ : St} (k : Int32 → St → Option (Int64 × St)) (hi : i < 60) : ∃ s, f_HM_game_l169 k (nI i) 0 σ = k (nI (i + 1)) s ∧ fr [75] [] [] σ s ∧ ∀ m, s.1 75 m = if 4 * i ≤ m ∧ m < 4 * i + 4 then σ.1 75 (240 + m) else σ.1 75 m := by
  unfold f_HM_game_l169
  have key : ∀ (k2 : Int32 → Int32 → St → Option (Int64 × St)) (j : Nat) (t : St), j < 4 → f_HM_game_b169 k k2 (nI i) (nI j) t = k2 (nI i) (nI (j + 1)) (stA t 75 (4 * i + j) (t.1 75 (240 + (4 * i + j)))) := by
    intro k2 j t hj
    have e1 : (60 : Int32) + nI i = nI (60 + i) := nI_add 60 i
    have e2 : 4 * nI (60 + i) + nI j = nI (240 + (4 * i + j)) := by
      rw [show (4 : Int32) = nI 4 from rfl, pk_mul, nI_add]; congr 1; omega
    have e3 : 4 * nI i + nI j = nI (4 * i + j) := by
      rw [show (4 : Int32) = nI 4 from rfl, pk_mul, nI_add]
    have e4 : ib (nI (240 + (4 * i + j))) 480 = true := ib_nI (by omega) (by decide)
    have e5 : ib (nI (4 * i + j)) 480 = true := ib_nI (by omega) (by decide)
    unfold f_HM_game_b169
    unfold rI
    rw [if_neg (show ¬ (4 : Int32) ≤ nI j from nI_ge (b := 4) (by omega) (by decide)), e1, e2, e3, ck_p e4, ck_p e5, nI_clamp (show 240 + (4 * i + j) < 2 ^ 31 by omega), nI_clamp (show 4 * i + j < 2 ^ 31 by omega), lE_d, nI_1]
  obtain ⟨s, e, h1, h2⟩ := lp_u0 (z := fun _ _ _ => none) (body := f_HM_game_b169 k) (fun k2 j (t : St) => k2 (nI i) (nI j) t) (fun j t => fr [75] [] [] σ t ∧ ∀ m, t.1 75 m = if 4 * i ≤ m ∧ m < 4 * i + j then σ.1 75 (240 + m) else σ.1 75 m) 4 (fun t => k (nI (i + 1)) t) (fun k2 j t hj hI => by
    refine ⟨_, key k2 j t hj, hI.1.A (by simp) _ _, fun m => ?_⟩
    rw [sA1, if_pos rfl, updD, hI.2 m, hI.2, if_neg (show ¬ (4 * i ≤ 240 + (4 * i + j) ∧ 240 + (4 * i + j) < 4 * i + j) by omega)]
    by_cases c : m = 4 * i + j
    · rw [if_pos c, if_pos (show 4 * i ≤ m ∧ m < 4 * i + (j + 1) by omega), c]
    · rw [if_neg c]
      by_cases c2 : 4 * i ≤ m ∧ m < 4 * i + j
      · rw [if_pos c2, if_pos (show 4 * i ≤ m ∧ m < 4 * i + (j + 1) by omega)]
      · rw [if_neg c2, if_neg (show ¬ (4 * i ≤ m ∧ m < 4 * i + (j + 1)) by omega)]) (fun k2 t hI => by
    show f_HM_game_b169 k k2 (nI i) (nI 4) t = _
    unfold f_HM_game_b169
    rw [if_pos (show (4 : Int32) ≤ nI 4 by decide), nI_1]) (i := 0) (s := σ) (by omega) (by omega) ⟨fr.rf, fun m => by rw [if_neg (by omega)]⟩
  exact ⟨s, e, h1, h2⟩
theorem q_l39 {n : Nat} {σ : St} (hn : n ≤ 60) (hc : σ.2.2.1 43 = nI n) : ∃ s, f_HM_game_l39 0 σ = f_HM_game_l211 0 s ∧ fr [67, 68, 69, 70, 71, 72, 73, 74, 75] [] [] σ s ∧ (∀ k p, k ∈ k8 → p < n → s.1 k p = σ.1 k (60 + p)) ∧ ∀ m, m < 4 * n → s.1 75 m = σ.1 75 (240 + m) := by
  unfold f_HM_game_l39
  obtain ⟨s, e, h1, h2, h3⟩ := lp_u0 (z := fun _ _ => none) (body := f_HM_game_b39) (fun k i (t : St) => k (nI i) t) (fun i t => fr [67, 68, 69, 70, 71, 72, 73, 74, 75] [] [] σ t ∧ (∀ k p, k ∈ k8 → t.1 k p = if p < i then σ.1 k (60 + p) else σ.1 k p) ∧ ∀ m, t.1 75 m = if m < 4 * i then σ.1 75 (240 + m) else σ.1 75 m) n (fun t => f_HM_game_l211 0 t) (fun k i t hi hI => by
    obtain ⟨f1, f2, f3⟩ := hI
    obtain ⟨s, g1, g2, g3⟩ := @q_l169 i (cpl t i k8) k (by omega)
    have c1 := cpl_1 i k8 t (by decide)
    have c2 := cpl_2 i k8 t
    refine ⟨s, (b39g_e k hi hn (by rw [f1.2.2.1 _ (by simp)]; exact hc)).trans g1, ?_, fun k' p hk => ?_, fun m => ?_⟩
    · refine f1.tr ⟨fun k' hk => ?_, fun k' hk => ?_, fun k' hk => ?_, ?_⟩
      · rw [g2.1 k' (fun z => hk (by simp at z; simp [z])), c1 k', if_neg (fun z => hk (by simp [k8] at z; simp; omega))]
      · rw [g2.2.1 k' (by simp), c2]
      · rw [g2.2.2.1 k' (by simp), c2]
      · rw [g2.2.2.2, c2]
    · have k75 : k' ≠ 75 := by
        intro z
        subst z
        revert hk
        decide
      rw [g2.1 k' (by simpa using k75), c1 k', if_pos hk, updD, f2 k' p hk, f2 k' (60 + i) hk, if_neg (show ¬ 60 + i < i by omega)]
      by_cases c : p = i
      · rw [if_pos c, if_pos (by omega), c]
      · rw [if_neg c]
        by_cases d : p < i
        · rw [if_pos d, if_pos (by omega)]
        · rw [if_neg d, if_neg (by omega)]
    · have e75 : (cpl t i k8).1 75 = t.1 75 := by rw [c1 75, if_neg (by decide)]
      rw [g3 m, e75, f3 m, f3 (240 + m), if_neg (show ¬ 240 + m < 4 * i by omega)]
      by_cases c : 4 * i ≤ m ∧ m < 4 * i + 4
      · rw [if_pos c, if_pos (by omega)]
      · rw [if_neg c]
        by_cases d : m < 4 * i
        · rw [if_pos d, if_pos (by omega)]
        · rw [if_neg d, if_neg (by omega)]) (fun k t hI => by
    show f_HM_game_b39 k (nI n) t = _
    unfold f_HM_game_b39
    rw [if_pos (by rw [rF, hI.1.2.2.1 _ (by simp), hc]; exact nI_le (Nat.le_refl _) (by omega))]) (i := 0) (s := σ) (by omega) (Nat.zero_le _) ⟨fr.rf, fun k p _ => by rw [if_neg (by omega)], fun m => by rw [if_neg (by omega)]⟩
  exact ⟨s, e, h1, fun k p hk hp => by rw [h2 k p hk, if_pos hp], fun m hm => by rw [h3 m, if_pos hm]⟩
theorem q_l211 {σ : St} : ∃ s, f_HM_game_l211 0 σ = some ((s.2.2.1 43).toInt64, s) ∧ fr [76, 77, 78] [] [44] σ s ∧ s.2.2.1 44 = nI 0 ∧ (∀ m, m < 10 → s.1 76 m = σ.1 76 (10 + m) ∧ s.1 77 m = σ.1 77 (10 + m)) ∧ (∀ m a, m < 10 → a < 3 → s.1 78 (3 * m + a) = if a = 0 then 12 else 0) := by
  unfold f_HM_game_l211
  have key : ∀ (k : Int32 → St → Option (Int64 × St)) (i : Nat) (t : St), i < 10 → f_HM_game_b211 k (nI i) t = k (nI (i + 1)) (stA (stA (stA (stA (stA t 76 i (t.1 76 (10 + i))) 77 i ((stA t 76 i (t.1 76 (10 + i))).1 77 (10 + i))) 78 (3 * i) 12) 78 (3 * i + 1) 0) 78 (3 * i + 2) 0) := by
    intro k i t hi
    have e1 : (10 : Int32) + nI i = nI (10 + i) := nI_add 10 i
    have e2 : 3 * nI i = nI (3 * i) := by rw [show (3 : Int32) = nI 3 from rfl, pk_mul]
    have e3 : nI (3 * i) + 1 = nI (3 * i + 1) := nI_1 _
    have e4 : nI (3 * i) + 2 = nI (3 * i + 2) := nI_add _ 2
    have b1 : ib (nI (10 + i)) 20 = true := ib_nI (by omega) (by decide)
    have b2 : ib (nI i) 20 = true := ib_nI (by omega) (by decide)
    have b3 : ib (nI (3 * i)) 30 = true := ib_nI (by omega) (by decide)
    have b4 : ib (nI (3 * i + 1)) 30 = true := ib_nI (by omega) (by decide)
    have b5 : ib (nI (3 * i + 2)) 30 = true := ib_nI (by omega) (by decide)
    unfold f_HM_game_b211
    unfold rI
    rw [if_neg (show ¬ (10 : Int32) ≤ nI i from nI_ge (b := 10) (by omega) (by decide)), e1, e2, e3, e4, nI_clamp (show 10 + i < 2 ^ 31 by omega), nI_clamp (show i < 2 ^ 31 by omega), nI_clamp (show 3 * i < 2 ^ 31 by omega), nI_clamp (show 3 * i + 1 < 2 ^ 31 by omega), nI_clamp (show 3 * i + 2 < 2 ^ 31 by omega), ck_p b1, ck_p b2, lE_d, ck_p b1, ck_p b2, lE_d, ck_p b3, lE_d, ck_p b4, lE_d, ck_p b5, lE_d, nI_1]
  obtain ⟨s, e, h1, h2, h3⟩ := lp_u0 (z := fun _ _ => none) (body := f_HM_game_b211) (fun k i (t : St) => k (nI i) t) (fun i t => fr [76, 77, 78] [] [] σ t ∧ (∀ m, (t.1 76 m = if m < i then σ.1 76 (10 + m) else σ.1 76 m) ∧ (t.1 77 m = if m < i then σ.1 77 (10 + m) else σ.1 77 m)) ∧ (∀ m a, m < i → a < 3 → t.1 78 (3 * m + a) = if a = 0 then 12 else 0)) 10 (fun t => some ((t.2.2.1 43).toInt64, stF t 44 0)) (fun k i t hi hI => by
    obtain ⟨f1, f2, f3⟩ := hI
    refine ⟨_, key k i t hi, ((((f1.A (by simp) _ _).A (by simp) _ _).A (by simp) _ _).A (by simp) _ _).A (by simp) _ _, fun m => ⟨?_, ?_⟩, fun m a hm ha => ?_⟩
    · rw [sA1, if_neg (by decide), sA1, if_neg (by decide), sA1, if_neg (by decide), sA1, if_neg (by decide), sA1, if_pos rfl, updD, (f2 m).1, (f2 (10 + i)).1, if_neg (show ¬ 10 + i < i by omega)]
      by_cases c : m = i
      · rw [if_pos c, if_pos (by omega), c]
      · rw [if_neg c]
        by_cases d : m < i
        · rw [if_pos d, if_pos (by omega)]
        · rw [if_neg d, if_neg (by omega)]
    · rw [sA1, if_neg (by decide), sA1, if_neg (by decide), sA1, if_neg (by decide), sA1, if_pos rfl, updD, sA1, if_neg (show ¬ 77 = 76 by decide), (f2 m).2, (f2 (10 + i)).2, if_neg (show ¬ 10 + i < i by omega)]
      by_cases c : m = i
      · rw [if_pos c, if_pos (by omega), c]
      · rw [if_neg c]
        by_cases d : m < i
        · rw [if_pos d, if_pos (by omega)]
        · rw [if_neg d, if_neg (by omega)]
    · rw [sA1, if_pos rfl, updD, sA1, if_pos rfl, updD, sA1, if_pos rfl, updD, sA1, if_neg (show ¬ 78 = 77 by decide), sA1, if_neg (show ¬ 78 = 76 by decide)]
      by_cases c : m = i
      · subst c
        by_cases a2 : a = 2
        · rw [if_pos (by omega), if_neg (by omega)]
        · rw [if_neg (by omega)]
          by_cases a1 : a = 1
          · rw [if_pos (by omega), if_neg (by omega)]
          · rw [if_neg (by omega), if_pos (by omega), if_pos (by omega)]
      · rw [if_neg (by omega), if_neg (by omega), if_neg (by omega)]
        exact f3 m a (by omega) ha) (fun k t hI => by
    show f_HM_game_b211 k (nI 10) t = _
    unfold f_HM_game_b211
    rw [if_pos (show (10 : Int32) ≤ nI 10 by decide), lE_d]
    rfl) (i := 0) (s := σ) (by omega) (by omega) ⟨fr.rf, fun m => by rw [if_neg (by omega), if_neg (by omega)]; exact ⟨rfl, rfl⟩, fun m a hm => by omega⟩
  refine ⟨stF s 44 0, ?_, (h1.mo (fun k h => h) (fun k h => h) (by simp)).F (by simp) _, by rw [sF3, if_pos rfl]; rfl, fun m hm => ?_, fun m a hm ha => h3 m a hm ha⟩
  · refine e.trans ?_
    rw [sF3, if_neg (by decide)]
  · have := h2 m
    rw [if_pos hm, if_pos hm] at this
    exact this
