theorem wb_tb (n : Nat) : (lN n).toBitVec = BitVec.ofNat 64 n := rfl
theorem wb_inj {a b : Int64} (h : a.toBitVec = b.toBitVec) : a = b := Int64.toBitVec_inj.mp h
theorem wb_tn {n : Nat} (h : n < 2 ^ 64) : (lN n).toBitVec.toNat = n := by rw [wb_tb, BitVec.toNat_ofNat, Nat.mod_eq_of_lt h]
theorem wb_of (x : Int64) : ∃ n, n < 2 ^ 64 ∧ x = lN n := ⟨x.toBitVec.toNat, x.toBitVec.isLt, wb_inj (by rw [wb_tb]; simp)⟩
theorem wb_c : ∀ k, k < 64 → ((nI k).toInt64 &&& 63) = lN k := by decide +kernel
theorem wb_cu : ∀ k, k < 64 → ((nI k).toInt64.toUInt64 &&& Int64.toUInt64 63) = UInt64.ofNat k := by decide +kernel
theorem wb_sm : ∀ k, k < 64 → (BitVec.ofNat 64 k).smod 64 = BitVec.ofNat 64 k := by decide +kernel
theorem wb_pw {a b : Nat} (h : a ≤ b) : 2 ^ b = 2 ^ a * 2 ^ (b - a) := by rw [← Nat.pow_add]; congr 1; omega
theorem wb_lt2 {a b : Nat} (h : a < b) : 2 ^ a < 2 ^ b := Nat.pow_lt_pow_right (by decide) h
theorem wb_mod (n : Nat) : lN n = lN (n % 2 ^ 64) := wb_inj (by rw [wb_tb, wb_tb]; apply BitVec.eq_of_toNat_eq; rw [BitVec.toNat_ofNat, BitVec.toNat_ofNat, Nat.mod_mod])
theorem wb_shr {n k : Nat} (hn : n < 2 ^ 64) (hk : k < 64) : ((lN n).toUInt64 >>> ((nI k).toInt64.toUInt64 &&& Int64.toUInt64 63)).toInt64 = lN (n / 2 ^ k) := by
  rw [wb_cu k hk]
  apply wb_inj
  apply BitVec.eq_of_toNat_eq
  show ((lN n).toUInt64 >>> UInt64.ofNat k).toNat = (BitVec.ofNat 64 _).toNat
  have h1 : (UInt64.ofNat k).toNat = k := by
    show (BitVec.ofNat 64 k).toNat = k
    rw [BitVec.toNat_ofNat, Nat.mod_eq_of_lt (by omega)]
  have h2 : (lN n).toUInt64.toNat = n := wb_tn hn
  rw [UInt64.toNat_shiftRight, h1, h2, Nat.mod_eq_of_lt hk, Nat.shiftRight_eq_div_pow, BitVec.toNat_ofNat, Nat.mod_eq_of_lt (Nat.lt_of_le_of_lt (Nat.div_le_self _ _) hn)]
/-- a byte of a long, by the signed shift and the mask -/
theorem by_sar {n k : Nat} (hn : n < 2 ^ 64) (hk : k < 8) : (lN n >>> ((nI (8 * k)).toInt64 &&& 63)) &&& 255 = lN (n / 2 ^ (8 * k) % 256) := by
  rw [wb_c (8 * k) (by omega)]
  apply wb_inj
  apply BitVec.eq_of_getLsbD_eq
  intro i hi
  have e1 : (lN n >>> lN (8 * k)).toBitVec = (lN n).toBitVec.sshiftRight (8 * k) := by
    show (lN n).toBitVec.sshiftRight' ((lN (8 * k)).toBitVec.smod 64) = _
    rw [wb_tb (8 * k), wb_sm _ (by omega)]
    show (lN n).toBitVec.sshiftRight (BitVec.ofNat 64 (8 * k)).toNat = _
    rw [BitVec.toNat_ofNat, Nat.mod_eq_of_lt (by omega)]
  have e2 : ((lN n >>> lN (8 * k)) &&& 255).toBitVec = (lN n >>> lN (8 * k)).toBitVec &&& (255#64) := rfl
  rw [e2, BitVec.getLsbD_and, e1, BitVec.getLsbD_sshiftRight]
  have e3 : (255#64).getLsbD i = decide (i < 8) := by
    have : ∀ i, i < 64 → (255#64).getLsbD i = decide (i < 8) := by decide +kernel
    exact this i hi
  rw [e3, wb_tb (n / 2 ^ (8 * k) % 256), BitVec.getLsbD_ofNat, wb_tb n, BitVec.getLsbD_ofNat]
  have e4 : (n / 2 ^ (8 * k) % 256).testBit i = (decide (i < 8) && (n / 2 ^ (8 * k)).testBit i) := Nat.testBit_mod_two_pow _ 8 i
  rw [e4, Nat.testBit_div_two_pow]
  by_cases h8 : i < 8
  · have h1 : 8 * k + i < 64 := by omega
    have h2 : ¬ 64 ≤ i := by omega
    simp [h8, h1, hi, h2]
    rw [Nat.add_comm]
  · simp [h8]
theorem to8 (q : Nat) : (nI q).toInt8.toInt32 = (nI (q % 256)).toInt8.toInt32 := by
  have : (nI q).toInt8 = (nI (q % 256)).toInt8 := by
    apply Int8.toBitVec_inj.mp
    show (BitVec.ofNat 32 q).signExtend 8 = (BitVec.ofNat 32 (q % 256)).signExtend 8
    apply BitVec.eq_of_getLsbD_eq
    intro i hi
    have e : (q % 256).testBit i = (decide (i < 8) && q.testBit i) := Nat.testBit_mod_two_pow q 8 i
    have h32 : i < 32 := by omega
    rw [BitVec.getLsbD_signExtend, BitVec.getLsbD_signExtend, BitVec.getLsbD_ofNat, BitVec.getLsbD_ofNat, e]
    simp [hi, h32]
  rw [this]
theorem m1sub (m : Nat) : nI m - 1 = nI m + (-1) := Int32.sub_eq_add_neg _ _
def iTap (σ : St) : Prop := ∃ T, T ≤ 600 ∧ σ.2.2.1 2 = nI T ∧ σ.2.2.1 41 = nI T ∧ ∀ i, i < T → ∃ b, b < 256 ∧ σ.1 66 i = nI b ∧ σ.1 50 i = (nI b).toInt8.toInt32
/-- what the tape gets of a long: k bytes from the place t on -/
theorem push_loop (n : Nat) (hn : n < 2 ^ 64) : ∀ (m f t : Nat) (σ : St), m ≤ 8 → m < f → σ.2.2.1 2 = nI t → t + m ≤ 600 → ∃ σ', lp (fun _ _ _ => none) f_Tape_push_b5 f (lN n) (nI m - 1) σ = some σ' ∧ fr [50] [] [2] σ σ' ∧ σ'.2.2.1 2 = nI (t + m) ∧ ∀ i, σ'.1 50 i = if t ≤ i ∧ i < t + m then (nI (n / 2 ^ (8 * (m - 1 - (i - t))) % 256)).toInt8.toInt32 else σ.1 50 i
  | 0, f + 1, t, σ, _, _, ht, _ => by
    refine ⟨σ, ?_, fr.rf, ht, fun i => by rw [if_neg (by omega)]⟩
    rw [lp_s]
    unfold f_Tape_push_b5
    rw [if_pos (by decide)]
  | m + 1, f + 1, t, σ, hm, hf, ht, h600 => by
    obtain ⟨σ', h1, h2, h3, h4⟩ := push_loop n hn m f (t + 1) (stF (stA σ 50 t (nI (n / 2 ^ (8 * m) % 256)).toInt8.toInt32) 2 (nI (t + 1))) (by omega) (by omega) (by rw [sF3, if_pos rfl]) (by omega)
    refine ⟨σ', ?_, ((fr.rf.A (by decide) _ _).F (by decide) _).tr h2, by rw [h3]; congr 1; omega, fun i => ?_⟩
    · rw [lp_s]
      unfold f_Tape_push_b5
      rw [nI_pred, if_neg (nI_pos (by omega))]
      unfold rF
      rw [ht, ck_p (ib_nI (by omega) (by decide)), lE_d, lE_d, nI_clamp (by omega), sA2, ht, show (8 : Int32) = nI 8 from rfl, pk_mul, wb_shr hn (by omega), lN_i, pk_vb, to8, nI_1, ← m1sub]
      exact h1
    · rw [h4 i, sF1, sA1, if_pos rfl, updD]
      by_cases e : i = t
      · subst e
        rw [if_neg (by omega), if_pos rfl, if_pos (by omega)]
        simp
      · rw [if_neg e]
        by_cases e2 : t + 1 ≤ i ∧ i < t + 1 + m
        · rw [if_pos e2, if_pos (by omega)]
          rw [show m + 1 - 1 - (i - t) = m - 1 - (i - (t + 1)) by omega]
        · rw [if_neg e2, if_neg (by omega)]
theorem mfeed_loop (n : Nat) (hn : n < 2 ^ 64) : ∀ (m f t : Nat) (σ : St), m ≤ 8 → m < f → σ.2.2.1 41 = nI t → t + m ≤ 600 → ∃ σ', lp (fun _ _ _ => none) f_HM_feed_b37 f (lN n) (nI m - 1) σ = some ((nI (t + m)).toInt64, σ') ∧ fr [66] [] [41] σ σ' ∧ σ'.2.2.1 41 = nI (t + m) ∧ ∀ i, σ'.1 66 i = if t ≤ i ∧ i < t + m then nI (n / 2 ^ (8 * (m - 1 - (i - t))) % 256) else σ.1 66 i
  | 0, f + 1, t, σ, _, _, ht, _ => by
    refine ⟨σ, ?_, fr.rf, ht, fun i => by rw [if_neg (by omega)]⟩
    rw [lp_s]
    unfold f_HM_feed_b37
    rw [if_pos (by decide)]
    unfold rF
    rw [ht]
    rfl
  | m + 1, f + 1, t, σ, hm, hf, ht, h600 => by
    obtain ⟨σ', h1, h2, h3, h4⟩ := mfeed_loop n hn m f (t + 1) (stF (stA σ 66 t (nI (n / 2 ^ (8 * m) % 256))) 41 (nI (t + 1))) (by omega) (by omega) (by rw [sF3, if_pos rfl]) (by omega)
    refine ⟨σ', ?_, ((fr.rf.A (by decide) _ _).F (by decide) _).tr h2, by rw [h3]; congr 1; omega, fun i => ?_⟩
    · rw [lp_s]
      unfold f_HM_feed_b37
      rw [nI_pred, if_neg (nI_pos (by omega))]
      unfold rF
      rw [ht, ck_p (ib_nI (by omega) (by decide)), lE_d, lE_d, nI_clamp (by omega), sA2, ht, show (8 : Int32) = nI 8 from rfl, pk_mul, by_sar hn (by omega), lN_i, nI_1, ← m1sub]
      rw [show t + (m + 1) = t + 1 + m by omega]
      exact h1
    · rw [h4 i, sF1, sA1, if_pos rfl, updD]
      by_cases e : i = t
      · subst e
        rw [if_neg (by omega), if_pos rfl, if_pos (by omega)]
        simp
      · rw [if_neg e]
        by_cases e2 : t + 1 ≤ i ∧ i < t + 1 + m
        · rw [if_pos e2, if_pos (by omega)]
          rw [show m + 1 - 1 - (i - t) = m - 1 - (i - (t + 1)) by omega]
        · rw [if_neg e2, if_neg (by omega)]
theorem st_feed (x1 : Int64) (x3 : Int32) {σ : St} (h : iTap σ) : stp (f_HG_feed x1 x3) (f_HM_feed x1 x3) iTap [50, 66] [] [2, 41] σ := by
  obtain ⟨T, h1, h2, h3, h4⟩ := h
  obtain ⟨w, hw, rfl⟩ := wb_of x1
  unfold stp f_HG_feed f_HM_feed
  have e0 : ∀ s : St, f_HM_in x3.toInt64 1 8 s = some (if x3 < 1 ∨ (9 : Int32) ≤ x3 then 0 else 1, s) := fun s => q_HM_inN x3 1 8 (by decide) (by decide) s
  simp only [e0, bd_s]
  have e9 : (9 : Int32) ≤ x3 ↔ ¬ x3 ≤ 8 := by
    rw [fa_le, fa_le]
    show (9 : Int) ≤ _ ↔ ¬ _ ≤ (8 : Int)
    omega
  by_cases c1 : x3 < 1
  · have c9 : x3 < 1 ∨ (9 : Int32) ≤ x3 := Or.inl c1
    simp only [if_pos c1, if_pos c9, if_true]
    exact ⟨_, _, _, rfl, rfl, ⟨T, h1, h2, h3, h4⟩, fr.rf⟩
  by_cases c2 : x3 ≤ 8
  · have c9 : ¬ (x3 < 1 ∨ (9 : Int32) ≤ x3) := by rw [e9]; rintro (q | q); exact c1 q; exact q c2
    simp only [if_neg c1, if_pos c2, if_neg c9, show ¬ ((1 : Int32) = 0) by decide, if_false]
    have hx0 : ¬ x3 < 0 := by
      rw [fa_lt] at c1 ⊢
      have : (1 : Int32).toInt = 1 := rfl
      have : (0 : Int32).toInt = 0 := rfl
      omega
    obtain ⟨m, hm, rfl⟩ := nI_of2 (M := 8) (n := 8) (by decide) hx0 c2
    have hm1 : 1 ≤ m := by
      rcases Nat.eq_zero_or_pos m with q | q
      · subst q; exact absurd (by decide) c1
      · exact q
    unfold rF
    rw [h2, nI_add]
    by_cases c3 : T + m ≤ 600
    · rw [if_pos (show nI (T + m) ≤ 600 from nI_le (b := 600) c3 (by decide))]
      obtain ⟨s1, p1, p2, p3, p4⟩ := push_loop w hw m FU T σ hm (by unfold FU; omega) h2 c3
      have ep : f_Tape_push (lN w) (nI m) σ = some s1 := by unfold f_Tape_push f_Tape_push_l5; exact p1
      rw [ep, bv_s]
      obtain ⟨s2, m1, m2, m3, m4⟩ := mfeed_loop w hw m FU T s1 hm (by unfold FU; omega) (by rw [p2.2.2.1 41 (by decide)]; exact h3) c3
      refine ⟨_, _, s2, rfl, ?_, ⟨T + m, c3, ?_, m3, fun i hi => ?_⟩, (p2.mo (by decide) (by decide) (by decide)).tr (m2.mo (by decide) (by decide) (by decide))⟩
      · rw [p2.2.2.1 41 (by decide), h3, nI_add, if_pos (show nI (T + m) ≤ 600 from nI_le (b := 600) c3 (by decide)), p3]
        unfold f_HM_feed_l37
        exact m1
      · rw [m2.2.2.1 2 (by decide)]; exact p3
      · rw [m2.1 50 (by decide), p4 i, m4 i]
        by_cases q : T ≤ i ∧ i < T + m
        · rw [if_pos q, if_pos q]
          exact ⟨_, Nat.mod_lt _ (by decide), rfl, rfl⟩
        · rw [if_neg q, if_neg q, p2.1 66 (by decide)]
          exact h4 i (by omega)
    · rw [if_neg (show ¬ nI (T + m) ≤ 600 from nI_ge (a := 600) (by omega) (by omega))]
      refine ⟨_, _, _, rfl, ?_, ⟨T, h1, h2, h3, h4⟩, fr.rf⟩
      rw [h3, nI_add, if_neg (show ¬ nI (T + m) ≤ 600 from nI_ge (a := 600) (by omega) (by omega))]
  · have c9 : x3 < 1 ∨ (9 : Int32) ≤ x3 := Or.inr (e9.mpr c2)
    simp only [if_neg c1, if_neg c2, if_pos c9, if_true]
    exact ⟨_, _, _, rfl, rfl, ⟨T, h1, h2, h3, h4⟩, fr.rf⟩
