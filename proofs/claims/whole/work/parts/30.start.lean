def s0A : Nat → Nat → Int32 := fun k => if k = 23 then (fil (fun _ => 0) 10 (-1000000)) else if k = 41 then (fil (fun _ => 0) 10 (-1000000)) else if k = 47 then (fil (fun _ => 0) 8 (-1000000)) else if k = 63 then (upd (upd (upd (upd (upd (upd (upd (upd (fun _ => 0) (Int32.toNatClampNeg 0) (-1)) (Int32.toNatClampNeg 1) (-1)) (Int32.toNatClampNeg 2) (-1)) (Int32.toNatClampNeg 3) (-1)) (Int32.toNatClampNeg 4) (-1)) (Int32.toNatClampNeg 5) (-1)) (Int32.toNatClampNeg 6) (-1)) (Int32.toNatClampNeg 7) (-1)) else if k = 76 then (upd (upd (upd (upd (upd (upd (upd (upd (upd (upd (upd (upd (upd (upd (upd (upd (upd (upd (upd (upd (fun _ => 0) (Int32.toNatClampNeg 0) (-1)) (Int32.toNatClampNeg 1) (-1)) (Int32.toNatClampNeg 2) (-1)) (Int32.toNatClampNeg 3) (-1)) (Int32.toNatClampNeg 4) (-1)) (Int32.toNatClampNeg 5) (-1)) (Int32.toNatClampNeg 6) (-1)) (Int32.toNatClampNeg 7) (-1)) (Int32.toNatClampNeg 8) (-1)) (Int32.toNatClampNeg 9) (-1)) (Int32.toNatClampNeg 10) (-1)) (Int32.toNatClampNeg 11) (-1)) (Int32.toNatClampNeg 12) (-1)) (Int32.toNatClampNeg 13) (-1)) (Int32.toNatClampNeg 14) (-1)) (Int32.toNatClampNeg 15) (-1)) (Int32.toNatClampNeg 16) (-1)) (Int32.toNatClampNeg 17) (-1)) (Int32.toNatClampNeg 18) (-1)) (Int32.toNatClampNeg 19) (-1)) else fun _ => 0
def s0F : Nat → Int32 := fun k => if k = 3 then 6 else if k = 9 then (-1000000) else if k = 10 then (-1000000) else 0
def s0R : Nat → Nat := fun k => if k = 0 then 10 else 28
/-- the world as the two constructors leave it -/
def s0 : St := (s0A, fun _ _ => 0, s0F, s0R)
def adrs (qh : Nat) (uh : Nat → Nat) (qm : Nat) (um : Nat → Nat) : List Nat := [qh, uh 0, uh 4, uh 6, uh 7, uh 19, uh 9, uh 15, uh 22, qm, uh 25, uh 26, uh 27, uh 28, uh 29, uh 30, uh 31, uh 32, uh 33, uh 34, uh 35, uh 36, uh 37, uh 38, uh 39, uh 40, uh 41, uh 42, uh 43, uh 44, uh 45, uh 46, uh 47, uh 48, uh 49, uh 50, uh 51, uh 52, uh 53, uh 54, uh 55, uh 56, uh 57, uh 58, uh 59, uh 60, uh 24, uh 1, uh 2, uh 3, uh 5, uh 8, uh 20, uh 10, uh 11, uh 12, uh 13, uh 14, uh 16, uh 17, uh 18, uh 21, uh 23, um 0, um 1, um 2, um 3, um 4, um 5, um 6, um 7, um 8, um 9, um 10, um 11, um 12, um 13, um 14, um 15, um 16, um 17, um 18, um 19, um 20, um 21, um 22, um 23, um 24, um 25]
def w0 (D : va_G) (cA : Nat → ClassId) (aK aV : Nat → Nat) (qh : Nat) (uh : Nat → Nat) (qm : Nat) (um : Nat → Nat) : wT := (fun k => (adrs qh uh qm um).getD k 0, D, cA, aK, aV)
def prm : List Nat := [0, 1, 5, 7, 8, 20, 10, 16, 23, 62, 26, 27, 28, 29, 30, 31, 32, 33, 34, 35, 36, 37, 38, 39, 40, 41, 42, 43, 44, 45, 46, 47, 48, 49, 50, 51, 52, 53, 54, 55, 56, 57, 58, 59, 60, 61, 25, 2, 3, 4, 6, 9, 21, 11, 12, 13, 14, 15, 17, 18, 19, 22, 24, 63, 64, 65, 66, 67, 68, 69, 70, 71, 72, 73, 74, 75, 76, 77, 78, 79, 80, 81, 82, 83, 84, 85, 86, 87, 88]
theorem prm_lt : ∀ k, k < NC → prm.getD k 0 < 89 := by decide
theorem prm_inj : ∀ i, i < NC → ∀ j, j < NC → prm.getD i 0 = prm.getD j 0 → i = j := by decide +kernel
section ST
variable {D : va_G} {cA : Nat → ClassId} {aK aV : Nat → Nat} {qh : Nat} {uh : Nat → Nat} {qm : Nat} {um : Nat → Nat}
theorem cell_0 : ∀ k, k < NC → (ws_HG cA qh uh ++ ws_HM cA qm um)[prm.getD k 0]? = some ((w0 D cA aK aV qh uh qm um).1 k, cellOf (w0 D cA aK aV qh uh qm um) s0 k) := by
  intro k hk
  match k, hk with
  | 0, _ => rfl
  | 1, _ => rfl
  | 2, _ => rfl
  | 3, _ => rfl
  | 4, _ => rfl
  | 5, _ => rfl
  | 6, _ => rfl
  | 7, _ => rfl
  | 8, _ => rfl
  | 9, _ => rfl
  | 10, _ => rfl
  | 11, _ => rfl
  | 12, _ => rfl
  | 13, _ => rfl
  | 14, _ => rfl
  | 15, _ => rfl
  | 16, _ => rfl
  | 17, _ => rfl
  | 18, _ => rfl
  | 19, _ => rfl
  | 20, _ => rfl
  | 21, _ => rfl
  | 22, _ => rfl
  | 23, _ => rfl
  | 24, _ => rfl
  | 25, _ => rfl
  | 26, _ => rfl
  | 27, _ => rfl
  | 28, _ => rfl
  | 29, _ => rfl
  | 30, _ => rfl
  | 31, _ => rfl
  | 32, _ => rfl
  | 33, _ => rfl
  | 34, _ => rfl
  | 35, _ => rfl
  | 36, _ => rfl
  | 37, _ => rfl
  | 38, _ => rfl
  | 39, _ => rfl
  | 40, _ => rfl
  | 41, _ => rfl
  | 42, _ => rfl
  | 43, _ => rfl
  | 44, _ => rfl
  | 45, _ => rfl
  | 46, _ => rfl
  | 47, _ => rfl
  | 48, _ => rfl
  | 49, _ => rfl
  | 50, _ => rfl
  | 51, _ => rfl
  | 52, _ => rfl
  | 53, _ => rfl
  | 54, _ => rfl
  | 55, _ => rfl
  | 56, _ => rfl
  | 57, _ => rfl
  | 58, _ => rfl
  | 59, _ => rfl
  | 60, _ => rfl
  | 61, _ => rfl
  | 62, _ => rfl
  | 63, _ => rfl
  | 64, _ => rfl
  | 65, _ => rfl
  | 66, _ => rfl
  | 67, _ => rfl
  | 68, _ => rfl
  | 69, _ => rfl
  | 70, _ => rfl
  | 71, _ => rfl
  | 72, _ => rfl
  | 73, _ => rfl
  | 74, _ => rfl
  | 75, _ => rfl
  | 76, _ => rfl
  | 77, _ => rfl
  | 78, _ => rfl
  | 79, _ => rfl
  | 80, _ => rfl
  | 81, _ => rfl
  | 82, _ => rfl
  | 83, _ => rfl
  | 84, _ => rfl
  | 85, _ => rfl
  | 86, _ => rfl
  | 87, _ => rfl
  | 88, _ => rfl
  | k + 89, h => exact absurd h (by simp [NC])
theorem P_0 {H : Heap} (hP : va_P D gcl (ws_HG cA qh uh ++ ws_HM cA qm um) H) : va_P D gcl (cw (w0 D cA aK aV qh uh qm um) s0) H := by
  intro k q hq
  by_cases hk : k < NC
  · rw [cw_at hk] at hq
    cases hq
    exact hP _ _ (cell_0 k hk)
  · rw [List.getElem?_eq_none (by rw [cw_len]; omega)] at hq
    cases hq
theorem inj_0 {A : Nat → Prop} (hD : va_D A (ws_HG cA qh uh ++ ws_HM cA qm um)) : wInj (w0 D cA aK aV qh uh qm um) := fun i j hi hj e => prm_inj i hi j hj (hD.1 _ _ _ _ (cell_0 (D := D) (aK := aK) (aV := aV) i hi) (cell_0 (D := D) (aK := aK) (aV := aV) j hj) e)
theorem in_0 {A : Nat → Prop} (hD : va_D A (ws_HG cA qh uh ++ ws_HM cA qm um)) : ∀ k, k < NC → A ((w0 D cA aK aV qh uh qm um).1 k) := fun k hk => hD.2 _ _ (cell_0 (D := D) (aK := aK) (aV := aV) k hk)
end ST
def tmS : Nat → Term := fun i => Term.string RX7 ([47, 53, 55, 57].getD i 0)
theorem str_0 {args : Array Value} {s : State} {A : Nat → Prop} (hgv : (Jvm.Cond.and given_1 narrow_1).before args s = true) (hA : ∀ a : Nat, a < s.heap.size → ¬ A a) : ∃ adK adV : Nat → Nat, vk_S 4 lenS bytS adK adV A s s.heap ∧ ∀ i : Nat, i < 4 → (tmS i).eval args s none [] s = some (.ref (adK i)) := by
  have hf := flat_of_before _ hgv
  have hex : ∀ i : Nat, i < 4 → (Cond.exactly (tmS i) "java/lang/String").before args s = true := by
    intro i hi
    match i, hi with
    | 0, _ => exact (hf _ (List.mem_of_getElem? (i := 9) rfl))
    | 1, _ => exact (hf _ (List.mem_of_getElem? (i := 16) rfl))
    | 2, _ => exact (hf _ (List.mem_of_getElem? (i := 25) rfl))
    | 3, _ => exact (hf _ (List.mem_of_getElem? (i := 34) rfl))
    | i + 4, h => exact absurd h (by omega)
  have hco : ∀ i : Nat, i < 4 → (Cond.eq (.field (tmS i) "java/lang/String" "coder" "B") (.int 0)).before args s = true := by
    intro i hi
    match i, hi with
    | 0, _ => exact (hf _ (List.mem_of_getElem? (i := 10) rfl))
    | 1, _ => exact (hf _ (List.mem_of_getElem? (i := 17) rfl))
    | 2, _ => exact (hf _ (List.mem_of_getElem? (i := 26) rfl))
    | 3, _ => exact (hf _ (List.mem_of_getElem? (i := 35) rfl))
    | i + 4, h => exact absurd h (by omega)
  have har : ∀ i : Nat, i < 4 → (Cond.arrayOf (.field (tmS i) "java/lang/String" "value" "[B") .byte).before args s = true := by
    intro i hi
    match i, hi with
    | 0, _ => exact (hf _ (List.mem_of_getElem? (i := 11) rfl))
    | 1, _ => exact (hf _ (List.mem_of_getElem? (i := 18) rfl))
    | 2, _ => exact (hf _ (List.mem_of_getElem? (i := 27) rfl))
    | 3, _ => exact (hf _ (List.mem_of_getElem? (i := 36) rfl))
    | i + 4, h => exact absurd h (by omega)
  have hle : ∀ i : Nat, i < 4 → (Cond.eq (.length (.field (tmS i) "java/lang/String" "value" "[B")) (.int (Int32.ofNat (lenS.getD i 0)))).before args s = true := by
    intro i hi
    match i, hi with
    | 0, _ => exact (hf _ (List.mem_of_getElem? (i := 12) rfl))
    | 1, _ => exact (hf _ (List.mem_of_getElem? (i := 19) rfl))
    | 2, _ => exact (hf _ (List.mem_of_getElem? (i := 28) rfl))
    | 3, _ => exact (hf _ (List.mem_of_getElem? (i := 37) rfl))
    | i + 4, h => exact absurd h (by omega)
  have hel : ∀ i : Nat, i < 4 → ∀ j : Nat, j < lenS.getD i 0 → (Cond.eq (.elem (.field (tmS i) "java/lang/String" "value" "[B") (.int (Int32.ofNat j))) (.int ((bytS.getD i []).getD j 0))).before args s = true := by
    intro i hi
    match i, hi with
    | 0, _ =>
      intro j hj
      match j, hj with
      | 0, _ => exact (hf _ (List.mem_of_getElem? (i := 13) rfl))
      | 1, _ => exact (hf _ (List.mem_of_getElem? (i := 14) rfl))
      | 2, _ => exact (hf _ (List.mem_of_getElem? (i := 15) rfl))
      | j + 3, h => exact absurd h (by simp [lenS])
    | 1, _ =>
      intro j hj
      match j, hj with
      | 0, _ => exact (hf _ (List.mem_of_getElem? (i := 20) rfl))
      | 1, _ => exact (hf _ (List.mem_of_getElem? (i := 21) rfl))
      | 2, _ => exact (hf _ (List.mem_of_getElem? (i := 22) rfl))
      | 3, _ => exact (hf _ (List.mem_of_getElem? (i := 23) rfl))
      | j + 4, h => exact absurd h (by simp [lenS])
    | 2, _ =>
      intro j hj
      match j, hj with
      | 0, _ => exact (hf _ (List.mem_of_getElem? (i := 29) rfl))
      | 1, _ => exact (hf _ (List.mem_of_getElem? (i := 30) rfl))
      | 2, _ => exact (hf _ (List.mem_of_getElem? (i := 31) rfl))
      | j + 3, h => exact absurd h (by simp [lenS])
    | 3, _ =>
      intro j hj
      match j, hj with
      | 0, _ => exact (hf _ (List.mem_of_getElem? (i := 38) rfl))
      | 1, _ => exact (hf _ (List.mem_of_getElem? (i := 39) rfl))
      | 2, _ => exact (hf _ (List.mem_of_getElem? (i := 40) rfl))
      | j + 3, h => exact absurd h (by simp [lenS])
    | i + 4, h => exact absurd h (by omega)
  have hne : ∀ i j : Nat, i < 4 → j < 4 → i ≠ j → (Cond.not (Cond.eq (tmS i) (tmS j))).before args s = true ∨ (Cond.not (Cond.eq (tmS j) (tmS i))).before args s = true := by
    intro i j hi hj hij
    match i, hi, j, hj with
    | 0, _, 0, _ => exact absurd rfl hij
    | 0, _, 1, _ => exact Or.inl (hf _ (List.mem_of_getElem? (i := 24) rfl))
    | 0, _, 2, _ => exact Or.inl (hf _ (List.mem_of_getElem? (i := 32) rfl))
    | 0, _, 3, _ => exact Or.inl (hf _ (List.mem_of_getElem? (i := 41) rfl))
    | 1, _, 0, _ => exact Or.inr (hf _ (List.mem_of_getElem? (i := 24) rfl))
    | 1, _, 1, _ => exact absurd rfl hij
    | 1, _, 2, _ => exact Or.inl (hf _ (List.mem_of_getElem? (i := 33) rfl))
    | 1, _, 3, _ => exact Or.inl (hf _ (List.mem_of_getElem? (i := 42) rfl))
    | 2, _, 0, _ => exact Or.inr (hf _ (List.mem_of_getElem? (i := 32) rfl))
    | 2, _, 1, _ => exact Or.inr (hf _ (List.mem_of_getElem? (i := 33) rfl))
    | 2, _, 2, _ => exact absurd rfl hij
    | 2, _, 3, _ => exact Or.inl (hf _ (List.mem_of_getElem? (i := 43) rfl))
    | 3, _, 0, _ => exact Or.inr (hf _ (List.mem_of_getElem? (i := 41) rfl))
    | 3, _, 1, _ => exact Or.inr (hf _ (List.mem_of_getElem? (i := 42) rfl))
    | 3, _, 2, _ => exact Or.inr (hf _ (List.mem_of_getElem? (i := 43) rfl))
    | 3, _, 3, _ => exact absurd rfl hij
    | i + 4, h, _, _ => exact absurd h (by omega)
    | _, _, j + 4, h => exact absurd h (by omega)
  exact vk_Sof (by decide) hex hco har hle hel hne hA
set_option maxRecDepth 20000 in
set_option maxHeartbeats 4000000 in
/-- from the law's entry, if its loop answers 1 -/
theorem whole_open (hlaw : ∀ (L : Nat) (xs : Nat → Int32), L ≤ 3072 → ∃ σ', f_law_l18 L xs 0 s0 = some (1, σ')) {p : Program} {e : Env} {s : State} {m : MethodId} {below : List Frame} {meth : Method} {c : Code} (l : Launch) {b L : Nat} {xs : Nat → Int32} (hL : L ≤ 3072) (C0 : lw_At p s m meth c b L xs) : W p l e room_1 s m #[Value.ref b] below meth c s.heap [] 0 0 (lw_Z below #[Value.ref b] s) (entryFrame m ([Value.ref b] : List Value).toArray 4) := by
  obtain ⟨hx, hb, hr, hml, hown, hts, hX, hbl, hlocks, hgv⟩ := C0
  have htg : ∀ t ∈ gT, t.before #[Value.ref b] s = true := fun t ht => hts t (gT_sub t ht)
  obtain ⟨c0, i0, k0⟩ := u_known (C := RX0) (T := TX0) (N := 2) (n := 2) hts (fun t ht => gT_sub t (uw_0 t ht)) (hts (.instantiable RX0 2) (tq1 162 rfl))
  obtain ⟨c1, i1, k1⟩ := u_known (C := RX1) (T := TX1) (N := 18) (n := 18) hts (fun t ht => gT_sub t (uw_1 t ht)) (hts (.instantiable RX1 18) (tq1 177 rfl))
  obtain ⟨c2, i2, k2⟩ := u_known (C := RX2) (T := TX2) (N := 6) (n := 6) hts (fun t ht => gT_sub t (uw_2 t ht)) (hts (.instantiable RX2 6) (tq1 134 rfl))
  obtain ⟨c3, i3, k3⟩ := u_known (C := RX3) (T := TX3) (N := 1) (n := 1) hts (fun t ht => gT_sub t (uw_3 t ht)) (hts (.instantiable RX3 1) (tq1 94 rfl))
  obtain ⟨c4, i4, k4⟩ := u_known (C := RX4) (T := TX4) (N := 2) (n := 2) hts (fun t ht => gT_sub t (uw_4 t ht)) (hts (.instantiable RX4 2) (tq1 79 rfl))
  obtain ⟨c5, i5, k5⟩ := u_known (C := RX5) (T := TX5) (N := 3) (n := 3) hts (fun t ht => gT_sub t (uw_5 t ht)) (hts (.instantiable RX5 3) (tq1 27 rfl))
  obtain ⟨c6, i6, k6⟩ := u_known (C := RX6) (T := TX6) (N := 7) (n := 7) hts (fun t ht => gT_sub t (uw_6 t ht)) (hts (.instantiable RX6 7) (tq1 104 rfl))
  obtain ⟨c7, i7, k7⟩ := u_known (C := RX7) (T := TX7) (N := 6) (n := 6) hts (fun t ht => gT_sub t (uw_7 t ht)) (hts (.instantiable RX7 6) (tq1 49 rfl))
  obtain ⟨c8, i8, k8⟩ := u_known (C := RX8) (T := TX8) (N := 12) (n := 12) hts (fun t ht => gT_sub t (uw_8 t ht)) (hts (.instantiable RX8 12) (tq1 19 rfl))
  obtain ⟨c9, i9, k9⟩ := u_known (C := RX9) (T := TX9) (N := 40) (n := 40) hts (fun t ht => gT_sub t (uw_9 t ht)) (hts (.instantiable RX9 40) (tq4 113 rfl))
  obtain ⟨D, hKc⟩ : ∃ D : va_G, ∀ (k : Nat) (q : vw_C), gcl[k]? = some q → u_Kn s q.1 q.2.1 q.2.2 (D.1 k) (D.2 k) := by
    refine ⟨(fun k => [c0, c1, c2, c3, c4, c5, c6, c7, c8, c9].getD k c0, fun k => [i0, i1, i2, i3, i4, i5, i6, i7, i8, i9].getD k i0), ?_⟩
    intro k q hq
    match k, hq with
    | 0, hq => cases hq; exact k0
    | 1, hq => cases hq; exact k1
    | 2, hq => cases hq; exact k2
    | 3, hq => cases hq; exact k3
    | 4, hq => cases hq; exact k4
    | 5, hq => cases hq; exact k5
    | 6, hq => cases hq; exact k6
    | 7, hq => cases hq; exact k7
    | 8, hq => cases hq; exact k8
    | 9, hq => cases hq; exact k9
    | k + 10, hq => simp [gcl] at hq
  obtain ⟨a1, ka1, cm1, f1, g1, j1⟩ := Cond.arrayClass_spec (hts (.arrayClass .int) (tq1 47 rfl))
  obtain ⟨a2, ka2, cm2, f2, g2, j2⟩ := Cond.arrayClass_spec (hts (.arrayClass .byte) (tq1 77 rfl))
  obtain ⟨a3, ka3, cm3, f3, g3, j3⟩ := Cond.arrayClass_spec (hts (.arrayClass .boolean) (tq2 35 rfl))
  obtain ⟨a4, ka4, cm4, f4, g4, j4⟩ := Cond.arrayClass_spec (hts (.arrayClass .long) (tq1 132 rfl))
  obtain ⟨cA, e1, e2, e3, e4⟩ : ∃ cA : Nat → ClassId, cA 1 = a1 ∧ cA 2 = a2 ∧ cA 3 = a3 ∧ cA 4 = a4 := ⟨fun k => [a1, a1, a2, a3, a4].getD k a1, rfl, rfl, rfl, rfl⟩
  subst e1 e2 e3 e4
  have hK : va_K D gcl (itys cA) s := by
    refine ⟨hKc, fun k q hq => ?_⟩
    match k, hq with
    | 0, hq => cases hq; exact ⟨fun n z => ⟨fun k h => (by cases h), ka1, g1, cm1, j1⟩, f1⟩
    | 1, hq => cases hq; exact ⟨fun n z => ⟨fun k h => (by cases h), ka2, g2, cm2, j2⟩, f2⟩
    | 2, hq => cases hq; exact ⟨fun n z => ⟨fun k h => (by cases h), ka3, g3, cm3, j3⟩, f3⟩
    | 3, hq => cases hq; exact ⟨fun n z => ⟨fun k h => (by cases h), ka4, g4, cm4, j4⟩, f4⟩
    | k + 4, hq => simp [itys] at hq
  obtain ⟨A, hAe⟩ : ∃ A : Nat → Prop, A = fun q : Nat => s.heap.size ≤ q := ⟨_, rfl⟩
  have hnA : ∀ a : Nat, a < s.heap.size → ¬ A a := fun a ha h => by rw [hAe] at h; exact absurd ha (Nat.not_lt.mpr h)
  obtain ⟨aK, aV, hvS, hev⟩ := str_0 hgv hnA
  have hflat := flat_of_before _ hgv
  have hz1 : va_Z "java/lang/String" "COMPACT_STRINGS" "Z" (.int 1) A s s.heap := va_Zof (hts _ (tq2 179 rfl)) (hts _ (tq1 13 rfl)) (va_eqi (hflat _ (List.mem_of_getElem? (i := 4) rfl))) hnA
  have hz2 : va_Zq "jdk/internal/util/Preconditions" "SIOOBE_FORMATTER" "Ljava/util/function/BiFunction;" A s s.heap := va_Zqof (hts _ (tq2 195 rfl)) (hts _ (tq1 15 rfl)) (hflat _ (List.mem_of_getElem? (i := 5) rfl)) hnA
  have hN : iN s := ⟨va_Nw.of rfl (hts _ (tq1 50 rfl)), va_Nw.of rfl (hts _ (tq1 80 rfl)), va_Nw.of rfl (hts _ (tq1 95 rfl)), va_Nw.of rfl (hts _ (tq1 105 rfl)), va_Nw.of rfl (hts _ (tq1 135 rfl)), va_Nw.of rfl (hts _ (tq1 140 rfl)), va_Nw.of rfl (hts _ (tq1 163 rfl))⟩
  let E0 : gE := (p, l, e, room_1, s, m, #[Value.ref b], below, meth, c, 89, 7901, lw_Z below #[Value.ref b] s)
  have X : iC E0 D cA A code 4 RL := ⟨hx, hb, hml, hown, htg, hK, fun q hq => by rw [hAe]; exact hq, hN⟩
  have hP0 : va_P D gcl [] s.heap := fun k q h => by simp at h
  have hD0 : va_D A [] := ⟨fun i j x y h => by simp at h, fun k q h => by simp at h⟩
  have go : iW E0 D A 4 [] 0 0 0 [some (.ref b)] [] := ?_
  · rw [lg_entry_eq]
    exact go s.heap [] _ (lv_entry [.ref b] (n := 4) (Nat.le_of_ble_eq_true rfl)) hP0 hD0 va_S.rf
  refine i_new X (ci := 8) (N := 12) (U := TX8) (fs0 := fs0_HG) (wsC := ws_HG cA) (y := yX8_init) tyX8 tyX8_ok uw_8 rfl fs0_HG_ok (fun h0 sz => c_HG_init l D cA h0 sz) (tq1 18 rfl) (tq1 19 rfl) (tq1 1 rfl) (tq1 22 rfl) (tq1 21 rfl) rfl ⟨by decide, by decide, by decide +kernel⟩ (Or.inl (tq1 20 rfl)) rfl rfl ⟨Nat.le_of_ble_eq_true rfl, Nat.le_of_ble_eq_true rfl, Nat.le_of_ble_eq_true rfl, Nat.le_of_ble_eq_true rfl⟩ dL_law_0 rfl dL_law_3 rfl dL_law_4 rfl (fun _ => Nat.le_of_ble_eq_true rfl) (fun qh uh => ?_)
  refine i_eq (V' := ws_HG cA qh uh) (List.nil_append _) ?_
  refine i_astore_n X [some (.ref b), some (.ref qh)] dL_law_7 (Nat.le_of_ble_eq_true rfl) rfl rfl rfl ?_
  refine i_new X (ci := 9) (N := 40) (U := TX9) (fs0 := fs0_HM) (wsC := ws_HM cA) (y := yX9_init) tyX9 tyX9_ok uw_9 rfl fs0_HM_ok (fun h0 sz => c_HM_init l D cA h0 sz) (tq4 112 rfl) (tq4 113 rfl) (tq1 11 rfl) (tq4 116 rfl) (tq4 115 rfl) rfl ⟨by decide, by decide, by decide +kernel⟩ (Or.inl (tq4 114 rfl)) rfl rfl ⟨Nat.le_of_ble_eq_true rfl, Nat.le_of_ble_eq_true rfl, Nat.le_of_ble_eq_true rfl, Nat.le_of_ble_eq_true rfl⟩ dL_law_8 rfl dL_law_11 rfl dL_law_12 rfl (fun _ => Nat.le_of_ble_eq_true rfl) (fun qm um => ?_)
  refine i_astore_n X [some (.ref b), some (.ref qh), some (.ref qm)] dL_law_15 (Nat.le_of_ble_eq_true rfl) rfl rfl rfl ?_
  refine i_iconst X kI_0 dL_law_16 rfl ?_
  refine i_istore_n X [some (.ref b), some (.ref qh), some (.ref qm), some (.int 0)] dL_law_17 (Nat.le_of_ble_eq_true rfl) rfl rfl rfl ?_
  intro H locs ls a hP hD hS
  have hwA : ∀ k, k < NC → s.heap.size ≤ (w0 D cA aK aV qh uh qm um).1 k := fun k hk => by
    have := in_0 (D := D) (aK := aK) (aV := aV) hD k hk
    rw [hAe] at this
    exact this
  have hsub : ∀ q, inA (w0 D cA aK aV qh uh qm um) q → A q := fun q hq => by
    obtain ⟨k, hk, e9⟩ := hq
    rw [hAe, e9]
    exact hwA k hk
  have hstr : ∀ i, i < 4 → (tmS i).eval #[] s none [] s = some (.ref (aK i)) := fun i hi => hev i hi
  refine va_forget (fun q hq => by have h9 := hS.2.2 q hq; rw [hAe] at h9; exact h9) ?_
  obtain ⟨σ', hl1⟩ := hlaw L xs hL
  have Z : gZ E0 (w0 D cA aK aV qh uh qm um) b L xs := ⟨hX, hbl, fun h => hnA b hbl (hsub b h), ⟨rfl, rfl, rfl⟩, hr, hlocks, hwA, Nat.le_of_ble_eq_true rfl, Nat.le_of_ble_eq_true rfl⟩
  have X2 : gC E0 (w0 D cA aK aV qh uh qm um) code 4 RL 100 := ⟨hx, hb, hml, hown, htg, hK, inj_0 hD, ⟨va_Nw.of rfl (hts _ (tq3 193 rfl)), hvS.narrow hsub, ⟨vk_R.of (hts _ (tq2 165 rfl)) (hstr 0 (by decide)), vk_R.of (hts _ (tq2 218 rfl)) (hstr 1 (by decide)), vk_R.of (hts _ (tq2 219 rfl)) (hstr 2 (by decide)), vk_R.of (hts _ (tq2 220 rfl)) (hstr 3 (by decide))⟩, hz1.narrow hsub, hz2.narrow hsub⟩, ⟨Nat.le_of_ble_eq_true rfl, Nat.le_of_ble_eq_true rfl⟩, Nat.le_of_ble_eq_true rfl, Nat.le_of_ble_eq_true rfl⟩
  exact ok_law_l18 X2 trivial Z s0 hl1 H [] ls a (P_0 hP) ⟨hS.1, fun q h1 h2 => hS.2.1 q h1 (hnA q h1), fun q hq => by cases hq⟩
