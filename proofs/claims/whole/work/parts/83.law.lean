theorem law_ex {L i : Nat} (hL : L ≤ 3072) (hi : i ≤ 4000) : (Int32.ofNat L - 6 < nI i) ↔ L < i + 6 := by
  rw [show Int32.ofNat L = nI L from rfl, show (6 : Int32) = nI 6 from rfl, fa_lt, pk_sub_toInt (by omega) (by decide), nI_toInt (by omega)]
  omega
theorem law_step {L i : Nat} {xs : Nat → Int32} {σ : St} (k : Int32 → St → Option (Int32 × St)) (hL : L ≤ 3072) (hi : i + 6 ≤ L) (hI : Inv σ) : ∃ σ', f_law_b18 L xs k (nI i) σ = k (nI (i + 6)) σ' ∧ Inv σ' := by
  have e1 : nI i + 1 = nI (i + 1) := nI_1 i
  have e2 : nI i + 2 = nI (i + 2) := nI_add i 2
  have e3 : nI i + 3 = nI (i + 3) := nI_add i 3
  have e4 : nI i + 4 = nI (i + 4) := nI_add i 4
  have e5 : nI i + 5 = nI (i + 5) := nI_add i 5
  have e6 : nI i + 6 = nI (i + 6) := nI_add i 6
  have b0 : ib (nI i) L = true := ib_nI (by omega) (by omega)
  have b1 : ib (nI (i + 1)) L = true := ib_nI (by omega) (by omega)
  have b2 : ib (nI (i + 2)) L = true := ib_nI (by omega) (by omega)
  have b3 : ib (nI (i + 3)) L = true := ib_nI (by omega) (by omega)
  have b4 : ib (nI (i + 4)) L = true := ib_nI (by omega) (by omega)
  have b5 : ib (nI (i + 5)) L = true := ib_nI (by omega) (by omega)
  have ex : ¬ (Int32.ofNat L - 6 < nI i) := fun z => by have := (law_ex hL (by omega)).mp z; omega
  rw [f_law_b18, if_neg ex, ck_p b0, e1, e2, e3, e4, e5]
  generalize xs (nI i).toNatClampNeg &&& 31 = op
  by_cases c0 : op = 0
  · rw [if_pos c0]
    obtain ⟨r, σ1, σ2, q1, q2, q3⟩ := iv_row (xs (nI (i + 1)).toNatClampNeg) (xs (nI (i + 2)).toNatClampNeg) (xs (nI (i + 3)).toNatClampNeg) hI
    exact ⟨σ2, by rw [ck_p b1, ck_p b2, ck_p b3, q1, bd_s, ck_p b1, ck_p b2, ck_p b3, q2, bd_s, if_pos rfl, f_law_b1057, e6], q3⟩
  · rw [if_neg c0]
    by_cases c1 : op = 1
    · rw [if_pos c1]
      obtain ⟨r, σ1, σ2, q1, q2, q3⟩ := iv_set (xs (nI (i + 1)).toNatClampNeg) (xs (nI (i + 2)).toNatClampNeg) (xs (nI (i + 3)).toNatClampNeg) hI
      exact ⟨σ2, by rw [ck_p b1, ck_p b2, ck_p b3, q1, bd_s, ck_p b1, ck_p b2, ck_p b3, q2, bd_s, if_pos rfl, f_law_b1057, e6], q3⟩
    · rw [if_neg c1]
      by_cases c2 : op = 2
      · rw [if_pos c2]
        obtain ⟨r, σ1, σ2, q1, q2, q3⟩ := iv_copy (xs (nI (i + 1)).toNatClampNeg) (xs (nI (i + 2)).toNatClampNeg) (xs (nI (i + 3)).toNatClampNeg) (xs (nI (i + 4)).toNatClampNeg) (xs (nI (i + 5)).toNatClampNeg) hI
        exact ⟨σ2, by rw [ck_p b1, ck_p b2, ck_p b3, ck_p b4, ck_p b5, q1, bd_s, ck_p b1, ck_p b2, ck_p b3, ck_p b4, ck_p b5, q2, bd_s, if_pos rfl, f_law_b1057, e6], q3⟩
      · rw [if_neg c2]
        by_cases c3 : op = 3
        · rw [if_pos c3]
          obtain ⟨r, σ1, σ2, q1, q2, q3⟩ := iv_drop (xs (nI (i + 1)).toNatClampNeg) hI
          exact ⟨σ2, by rw [ck_p b1, q1, bd_s, ck_p b1, q2, bd_s, if_pos rfl, f_law_b1057, e6], q3⟩
        · rw [if_neg c3]
          by_cases c4 : op = 4
          · rw [if_pos c4]
            obtain ⟨r, σ1, σ2, q1, q2, q3⟩ := iv_feed (((xs (nI (i + 1)).toNatClampNeg).toInt64 <<< ((32 : Int32).toInt64 &&& 63)) ||| ((xs (nI (i + 2)).toNatClampNeg).toInt64 &&& 4294967295)) (xs (nI (i + 3)).toNatClampNeg) hI
            exact ⟨σ2, by rw [ck_p b1, ck_p b2, ck_p b3, q1, bd_s, ck_p b1, ck_p b2, ck_p b3, q2, bd_s, if_pos rfl, f_law_b1057, e6], q3⟩
          · rw [if_neg c4]
            by_cases c5 : op = 5
            · rw [if_pos c5]
              obtain ⟨r, σ1, σ2, q1, q2, q3⟩ := st_game  hI
              exact ⟨σ2, by rw [q1, bd_s, q2, bd_s, if_pos rfl, f_law_b1057, e6], q3⟩
            · rw [if_neg c5]
              by_cases c6 : op = 6
              · rw [if_pos c6]
                obtain ⟨r, σ1, σ2, q1, q2, q3⟩ := st_fault  hI
                exact ⟨σ2, by rw [q1, bd_s, q2, bd_s, if_pos rfl, f_law_b1057, e6], q3⟩
              · rw [if_neg c6]
                by_cases c7 : op = 7
                · rw [if_pos c7]
                  obtain ⟨r, σ1, σ2, q1, q2, q3⟩ := st_place (xs (nI (i + 1)).toNatClampNeg) (xs (nI (i + 2)).toNatClampNeg) hI
                  exact ⟨σ2, by rw [ck_p b1, ck_p b2, q1, bd_s, ck_p b1, ck_p b2, q2, bd_s, if_pos rfl, f_law_b1057, e6], q3⟩
                · rw [if_neg c7]
                  by_cases c8 : op = 8
                  · rw [if_pos c8]
                    obtain ⟨r, σ1, σ2, q1, q2, q3⟩ := st_seen (xs (nI (i + 1)).toNatClampNeg) (xs (nI (i + 2)).toNatClampNeg) hI
                    exact ⟨σ2, by rw [ck_p b1, ck_p b2, q1, bd_s, ck_p b1, ck_p b2, q2, bd_s, if_pos rfl, f_law_b1057, e6], q3⟩
                  · rw [if_neg c8]
                    by_cases c9 : op = 9
                    · rw [if_pos c9]
                      obtain ⟨r, σ1, σ2, q1, q2, q3⟩ := st_forgets (xs (nI (i + 1)).toNatClampNeg) hI
                      exact ⟨σ2, by rw [ck_p b1, q1, bd_s, ck_p b1, q2, bd_s, if_pos rfl, f_law_b1057, e6], q3⟩
                    · rw [if_neg c9]
                      by_cases c10 : op = 10
                      · rw [if_pos c10]
                        obtain ⟨r, σ1, σ2, q1, q2, q3⟩ := st_mix (xs (nI (i + 1)).toNatClampNeg) (xs (nI (i + 2)).toNatClampNeg) (xs (nI (i + 3)).toNatClampNeg) hI
                        exact ⟨σ2, by rw [ck_p b1, ck_p b2, ck_p b3, q1, bd_s, ck_p b1, ck_p b2, ck_p b3, q2, bd_s, if_pos rfl, f_law_b1057, e6], q3⟩
                      · rw [if_neg c10]
                        by_cases c11 : op = 11
                        · rw [if_pos c11]
                          obtain ⟨r, σ1, σ2, q1, q2, q3⟩ := st_share (xs (nI (i + 1)).toNatClampNeg) (xs (nI (i + 2)).toNatClampNeg) hI
                          exact ⟨σ2, by rw [ck_p b1, ck_p b2, q1, bd_s, ck_p b1, ck_p b2, q2, bd_s, if_pos rfl, f_law_b1057, e6], q3⟩
                        · rw [if_neg c11]
                          by_cases c12 : op = 12
                          · rw [if_pos c12]
                            obtain ⟨r, σ1, σ2, q1, q2, q3⟩ := st_value  hI
                            exact ⟨σ2, by rw [q1, bd_s, q2, bd_s, if_pos rfl, f_law_b1057, e6], q3⟩
                          · rw [if_neg c12]
                            by_cases c13 : op = 13
                            · rw [if_pos c13]
                              obtain ⟨r, σ1, σ2, q1, q2, q3⟩ := st_reach (xs (nI (i + 1)).toNatClampNeg) (xs (nI (i + 2)).toNatClampNeg) hI
                              exact ⟨σ2, by rw [ck_p b1, ck_p b2, q1, bd_s, ck_p b1, ck_p b2, q2, bd_s, if_pos rfl, f_law_b1057, e6], q3⟩
                            · rw [if_neg c13]
                              by_cases c14 : op = 14
                              · rw [if_pos c14]
                                obtain ⟨r, σ1, σ2, q1, q2, q3⟩ := st_best (xs (nI (i + 1)).toNatClampNeg) (xs (nI (i + 2)).toNatClampNeg) hI
                                exact ⟨σ2, by rw [ck_p b1, ck_p b2, q1, bd_s, ck_p b1, ck_p b2, q2, bd_s, if_pos rfl, f_law_b1057, e6], q3⟩
                              · rw [if_neg c14]
                                by_cases c15 : op = 15
                                · rw [if_pos c15]
                                  obtain ⟨r, σ1, σ2, q1, q2, q3⟩ := st_answer (xs (nI (i + 1)).toNatClampNeg) hI
                                  exact ⟨σ2, by rw [ck_p b1, q1, bd_s, ck_p b1, q2, bd_s, if_pos rfl, f_law_b1057, e6], q3⟩
                                · rw [if_neg c15]
                                  by_cases c16 : op = 16
                                  · rw [if_pos c16]
                                    obtain ⟨r, σ1, σ2, q1, q2, q3⟩ := st_belief (xs (nI (i + 1)).toNatClampNeg) (xs (nI (i + 2)).toNatClampNeg) hI
                                    exact ⟨σ2, by rw [ck_p b1, ck_p b2, q1, bd_s, ck_p b1, ck_p b2, q2, bd_s, if_pos rfl, f_law_b1057, e6], q3⟩
                                  · rw [if_neg c16]
                                    by_cases c17 : op = 17
                                    · rw [if_pos c17]
                                      obtain ⟨r, σ1, σ2, q1, q2, q3⟩ := st_seeing (xs (nI (i + 1)).toNatClampNeg) hI
                                      exact ⟨σ2, by rw [ck_p b1, q1, bd_s, ck_p b1, q2, bd_s, if_pos rfl, f_law_b1057, e6], q3⟩
                                    · rw [if_neg c17]
                                      by_cases c18 : op = 18
                                      · rw [if_pos c18]
                                        obtain ⟨r, σ1, σ2, q1, q2, q3⟩ := st_fewer (xs (nI (i + 1)).toNatClampNeg) (xs (nI (i + 2)).toNatClampNeg) hI
                                        exact ⟨σ2, by rw [ck_p b1, ck_p b2, q1, bd_s, ck_p b1, ck_p b2, q2, bd_s, if_pos rfl, f_law_b1057, e6], q3⟩
                                      · rw [if_neg c18]
                                        by_cases c19 : op = 19
                                        · rw [if_pos c19]
                                          obtain ⟨r, σ1, σ2, q1, q2, q3⟩ := st_rounds (xs (nI (i + 1)).toNatClampNeg) hI
                                          exact ⟨σ2, by rw [ck_p b1, q1, bd_s, ck_p b1, q2, bd_s, if_pos rfl, f_law_b1057, e6], q3⟩
                                        · rw [if_neg c19]
                                          by_cases c20 : op = 20
                                          · rw [if_pos c20]
                                            obtain ⟨r, σ1, σ2, q1, q2, q3⟩ := st_bound (xs (nI (i + 1)).toNatClampNeg) hI
                                            exact ⟨σ2, by rw [ck_p b1, q1, bd_s, ck_p b1, q2, bd_s, if_pos rfl, f_law_b1057, e6], q3⟩
                                          · rw [if_neg c20]
                                            by_cases c21 : op = 21
                                            · rw [if_pos c21]
                                              obtain ⟨r, σ1, σ2, q1, q2, q3⟩ := st_mean (xs (nI (i + 1)).toNatClampNeg) (xs (nI (i + 2)).toNatClampNeg) hI
                                              exact ⟨σ2, by rw [ck_p b1, ck_p b2, q1, bd_s, ck_p b1, ck_p b2, q2, bd_s, if_pos rfl, f_law_b1057, e6], q3⟩
                                            · rw [if_neg c21]
                                              by_cases c22 : op = 22
                                              · rw [if_pos c22]
                                                obtain ⟨r, σ1, σ2, q1, q2, q3⟩ := st_take (xs (nI (i + 1)).toNatClampNeg) hI
                                                exact ⟨σ2, by rw [ck_p b1, q1, bd_s, ck_p b1, q2, bd_s, if_pos rfl, f_law_b1057, e6], q3⟩
                                              · rw [if_neg c22]
                                                by_cases c23 : op = 23
                                                · rw [if_pos c23]
                                                  obtain ⟨r, σ1, σ2, q1, q2, q3⟩ := st_kind (xs (nI (i + 1)).toNatClampNeg) hI
                                                  exact ⟨σ2, by rw [ck_p b1, q1, bd_s, ck_p b1, q2, bd_s, if_pos rfl, f_law_b1057, e6], q3⟩
                                                · rw [if_neg c23]
                                                  by_cases c24 : op = 24
                                                  · rw [if_pos c24]
                                                    obtain ⟨r, σ1, σ2, q1, q2, q3⟩ := st_as (xs (nI (i + 1)).toNatClampNeg) (xs (nI (i + 2)).toNatClampNeg) hI
                                                    exact ⟨σ2, by rw [ck_p b1, ck_p b2, q1, bd_s, ck_p b1, ck_p b2, q2, bd_s, if_pos rfl, f_law_b1057, e6], q3⟩
                                                  · rw [if_neg c24]
                                                    by_cases c25 : op = 25
                                                    · rw [if_pos c25]
                                                      obtain ⟨r, σ1, σ2, q1, q2, q3⟩ := st_ask (xs (nI (i + 1)).toNatClampNeg) (xs (nI (i + 2)).toNatClampNeg) hI
                                                      exact ⟨σ2, by rw [ck_p b1, ck_p b2, q1, bd_s, ck_p b1, ck_p b2, q2, bd_s, if_pos rfl, f_law_b1057, e6], q3⟩
                                                    · rw [if_neg c25]
                                                      by_cases c26 : op = 26
                                                      · rw [if_pos c26]
                                                        obtain ⟨r, σ1, σ2, q1, q2, q3⟩ := st_trace (xs (nI (i + 1)).toNatClampNeg) hI
                                                        exact ⟨σ2, by rw [ck_p b1, q1, bd_s, ck_p b1, q2, bd_s, if_pos rfl, f_law_b1057, e6], q3⟩
                                                      · rw [if_neg c26]
                                                        by_cases c27 : op = 27
                                                        · rw [if_pos c27]
                                                          obtain ⟨r, σ1, σ2, q1, q2, q3⟩ := st_count (xs (nI (i + 1)).toNatClampNeg) hI
                                                          exact ⟨σ2, by rw [ck_p b1, q1, bd_s, ck_p b1, q2, bd_s, if_pos rfl, f_law_b1057, e6], q3⟩
                                                        · rw [if_neg c27]
                                                          by_cases c28 : op = 28
                                                          · rw [if_pos c28]
                                                            obtain ⟨r, σ1, σ2, q1, q2, q3⟩ := st_status  hI
                                                            exact ⟨σ2, by rw [q1, bd_s, q2, bd_s, if_pos rfl, f_law_b1057, e6], q3⟩
                                                          · rw [if_neg c28]
                                                            exact ⟨σ, by rw [f_law_b1057, e6], hI⟩
theorem law_loop {L : Nat} {xs : Nat → Int32} (hL : L ≤ 3072) : ∀ m i f (σ : St), L < i + 6 * m + 6 → i ≤ 4000 → m < f → Inv σ → ∃ σ', lp (fun _ _ => none) (f_law_b18 L xs) f (nI i) σ = some (1, σ')
  | 0, i, f + 1, σ, h1, h2, h3, hI => by
    refine ⟨σ, ?_⟩
    rw [lp_s, f_law_b18, if_pos ((law_ex hL h2).mpr (by omega))]
  | m + 1, i, f + 1, σ, h1, h2, h3, hI => by
    by_cases c : L < i + 6
    · refine ⟨σ, ?_⟩
      rw [lp_s, f_law_b18, if_pos ((law_ex hL h2).mpr c)]
    · obtain ⟨σ1, a1, a2⟩ := law_step (L := L) (i := i) (xs := xs) (lp (fun _ _ => none) (f_law_b18 L xs) f) hL (by omega) hI
      obtain ⟨σ2, b1⟩ := law_loop hL m (i + 6) f σ1 (by omega) (by omega) (by omega) a2
      exact ⟨σ2, by rw [lp_s, a1, b1]⟩
theorem law_true : ∀ (L : Nat) (xs : Nat → Int32), L ≤ 3072 → ∃ σ', f_law_l18 L xs 0 s0 = some (1, σ') := by
  intro L xs hL
  obtain ⟨σ', h⟩ := law_loop (L := L) (xs := xs) hL 512 0 FU s0 (by omega) (by omega) (by unfold FU; omega) Inv_0
  exact ⟨σ', h⟩
