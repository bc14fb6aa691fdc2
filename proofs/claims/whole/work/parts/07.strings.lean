theorem nn {R : Type} {v : R} {P : Prop} (h : none = some v) : P := by cases h
theorem go_ {g : Nat} (hg : isG g = true) : g < NC ∧ kd g = 0 ∧ gcl[oc g]? = some (RX1, TX1, 18) := by rcases isG_e hg with rfl | rfl <;> exact ⟨by decide, rfl, rfl⟩
theorem po_ {q : Nat} (hq : isP q = true) : q < NC ∧ kd q = 0 ∧ gcl[oc q]? = some (RX3, TX3, 1) := by rcases isP_e hq with rfl | rfl <;> exact ⟨by decide, rfl, rfl⟩
def isS (i : Nat) : Bool := decide (i < 4)
theorem isS_e {i : Nat} (h : isS i = true) : i < 4 := of_decide_eq_true h
def cpO (sp dp n : Int32) (N : Nat) : Bool := decide (¬ sp < 0 ∧ ¬ dp < 0 ∧ ¬ n < 0 ∧ sp.toNatClampNeg + n.toNatClampNeg ≤ N ∧ dp.toNatClampNeg + n.toNatClampNeg ≤ N)
theorem cpO_e {sp dp n : Int32} {N : Nat} (h : cpO sp dp n N = true) : ¬ sp < 0 ∧ ¬ dp < 0 ∧ ¬ n < 0 ∧ sp.toNatClampNeg + n.toNatClampNeg ≤ N ∧ dp.toNatClampNeg + n.toNatClampNeg ≤ N := of_decide_eq_true h
theorem ml_RX5_28 : Cond.methodLink RX5 28 arraycopyName ∈ lw_tbl := tq2 118 rfl
theorem nfw : nativeFrameWords "java/lang/System" "arraycopy" 5 = 7 := by decide
section X7
variable {E : gE} {w : wT} {cc : ByteArray} {nL : Nat} {own : String} {h : Nat} {σ : St} {pc n : Nat} {L L' : List (Option Value)} {st : List Value}
theorem gC.inj (X : gC E w cc nL own h) : wInj w := X.2.2.2.2.2.2.1
theorem gC.xx (X : gC E w cc nL own h) : gX w (eS E) (eS E).heap := X.2.2.2.2.2.2.2.1
theorem gC.nest (X : gC E w cc nL own h) : va_Nw (.methodLinkNest RX6 100 yX8_gainOf RX8) (eS E) := X.xx.1
theorem gC.str0 (X : gC E w cc nL own h) : vk_R RX7 47 "end" (w.2.2.2.1 0) (eS E) := X.xx.2.2.1.1
theorem gC.str1 (X : gC E w cc nL own h) : vk_R RX7 53 "deal" (w.2.2.2.1 1) (eS E) := X.xx.2.2.1.2.1
theorem gC.str2 (X : gC E w cc nL own h) : vk_R RX7 55 "one" (w.2.2.2.1 2) (eS E) := X.xx.2.2.1.2.2.1
theorem gC.str3 (X : gC E w cc nL own h) : vk_R RX7 57 "two" (w.2.2.2.1 3) (eS E) := X.xx.2.2.1.2.2.2
theorem cw_C {k : Nat} {f : Nat → Int32} (hk : k < NC) (h0 : kd k = 1) : (cw w σ).set k (w.1 k, .inl (w.2.2.1 1, ln k, .inl f)) = cw w (stC σ k f) := cw_set hk (by rw [ce_1 h0]; simp [stC]) (fun j _ hj => ce_C hj)
theorem g_copy (X : gC E w cc nL own h) {k N idx : Nat} {sp dp m : Int32} (hk : k < NC) (h0 : kd k = 1) (hN : ln k = N) (ho : ¬ sp < 0 ∧ ¬ dp < 0 ∧ ¬ m < 0 ∧ sp.toNatClampNeg + m.toNatClampNeg ≤ N ∧ dp.toNatClampNeg + m.toNatClampNeg ≤ N) (hl : Cond.methodLink own idx arraycopyName ∈ lw_tbl) (hh : 0 < h) (hd : decode cc pc = .ok (.invokestatic idx, 3)) (hw : (st.map fun v => v.category).sum ≤ 8) (hp : pc + 3 = n)
    (kk : ∀ σ1 : St, σ1 = stC σ k (va_cpy (σ.1 k) (σ.1 k) sp.toNatClampNeg dp.toNatClampNeg m.toNatClampNeg) → gW E w nL σ1 n L st) : gW E w nL σ pc L (.int m :: .int dp :: .ref (w.1 k) :: .int sp :: .ref (w.1 k) :: st) := fun H locs ls a b c =>
  va_copyi (ws := cw w σ) (A := inA w) (H0 := (eS E).heap) (f := σ.1 k) (g := σ.1 k) (ty := .int) (n0 := ln k) (n1 := ln k) X.1 X.2.1 (X.2.2.1.trans a.1.symm) X.2.2.2.1 (X.word hl rfl) (X.word (t := .native arraycopyName) (tq2 120 rfl) rfl) (X.word (t := .static arraycopyName) (tq2 119 rfl) rfl) (X.word (t := .initialized "java/lang/System") (tq1 12 rfl) rfl) X.2.2.2.2.2.1 b (cw_D X.inj) c k k 0 0 (by rw [cw_at hk, ce_1 h0]) (by rw [cw_at hk, ce_1 h0]) rfl rfl rfl ho.1 ho.2.1 ho.2.2.1 (by rw [hN]; exact ho.2.2.2.1) (by rw [hN]; exact ho.2.2.2.2) (fun _ _ => rfl) (by have h1 := X.2.2.2.2.2.2.2.2.1; omega) (by have h1 := X.2.2.2.2.2.2.2.2.1; rw [nfw]; omega) hd (fun H1 l1 hP _ hS => by rw [cw_C hk h0] at hP; rw [hp]; exact kk _ rfl H1 l1 ls a hP hS)
theorem g_mmax (X : gC E w cc nL own h) {x y : Int32} {idx : Nat} (hl : Cond.methodLink own idx Lib.Math.max.name ∈ lw_tbl) (hh : 0 < h) (hd : decode cc pc = .ok (.invokestatic idx, 3)) (hw : (st.map fun v => v.category).sum ≤ 8) (hp : pc + 3 = n) (k : gW E w nL σ n L (.int (if x < y then y else x) :: st)) : gW E w nL σ pc L (.int y :: .int x :: st) := fun H locs ls a b c =>
  va_mmax X.1 X.2.1 (X.2.2.1.trans a.1.symm) X.2.2.2.1 (X.word hl rfl) (X.word (t := .static Lib.Math.max.name) (tq3 167 rfl) rfl) (X.word (t := .initialized "java/lang/Math") (tq1 17 rfl) rfl) (X.word (t := .code Lib.Math.max.name Lib.Math.max.code 2 (some .int)) (tq3 168 rfl) rfl) (by have h1 := X.2.2.2.2.2.2.2.2.1; omega) (by have h1 := X.2.2.2.2.2.2.2.2.1; omega) X.2.2.2.2.2.2.2.2.2.1 X.2.2.2.2.2.2.2.2.2.2 hd (by rw [hp]; exact k H locs ls a b c)
theorem g_mmin (X : gC E w cc nL own h) {x y : Int32} {idx : Nat} (hl : Cond.methodLink own idx Lib.Math.min.name ∈ lw_tbl) (hh : 0 < h) (hd : decode cc pc = .ok (.invokestatic idx, 3)) (hw : (st.map fun v => v.category).sum ≤ 8) (hp : pc + 3 = n) (k : gW E w nL σ n L (.int (if y < x then y else x) :: st)) : gW E w nL σ pc L (.int y :: .int x :: st) := fun H locs ls a b c =>
  va_mmin X.1 X.2.1 (X.2.2.1.trans a.1.symm) X.2.2.2.1 (X.word hl rfl) (X.word (t := .static Lib.Math.min.name) (tq3 236 rfl) rfl) (X.word (t := .initialized "java/lang/Math") (tq1 17 rfl) rfl) (X.word (t := .code Lib.Math.min.name Lib.Math.min.code 2 (some .int)) (tq3 237 rfl) rfl) (by have h1 := X.2.2.2.2.2.2.2.2.1; omega) (by have h1 := X.2.2.2.2.2.2.2.2.1; omega) X.2.2.2.2.2.2.2.2.2.1 X.2.2.2.2.2.2.2.2.2.2 hd (by rw [hp]; exact k H locs ls a b c)
theorem g_ldcS (X : gC E w cc nL own h) {z i : Nat} {tx : String} (hd : decode cc pc = .ok (.ldc z, 2)) (hz : vk_R own z tx (w.2.2.2.1 i) (eS E)) (hp : pc + 2 = n) (k : gW E w nL σ n L (.ref (w.2.2.2.1 i) :: st)) : gW E w nL σ pc L st := fun H locs ls a b c => va_ldcS X.1 X.2.1 X.2.2.2.1 hz hd (by rw [hp]; exact k H locs ls a b c)
theorem g_ishr (X : gC E w cc nL own h) {x y : Int32} (hd : decode cc pc = .ok (.ishr, 1)) (hp : pc + 1 = n) (k : gW E w nL σ n L (.int (x >>> (y &&& 31)) :: st)) : gW E w nL σ pc L (.int y :: .int x :: st) := fun H locs ls a b c => lv_ishr X.1 X.2.1 hd (by rw [hp]; exact k H locs ls a b c)
theorem g_i2c (X : gC E w cc nL own h) {x v : Int32} (hv : (x.toUInt32 % 65536).toInt32 = v) (hd : decode cc pc = .ok (.i2c, 1)) (hp : pc + 1 = n) (k : gW E w nL σ n L (.int v :: st)) : gW E w nL σ pc L (.int x :: st) := fun H locs ls a b c => lv_i2c X.1 X.2.1 hd hv (by rw [hp]; exact k H locs ls a b c)
theorem g_gets (X : gC E w cc nL own h) {idx : Nat} (hl : Cond.fieldLink own idx "java/lang/String" "COMPACT_STRINGS" "Z" ∈ lw_tbl) (hd : decode cc pc = .ok (.getstatic idx, 3)) (hp : pc + 3 = n) (k : gW E w nL σ n L (.int 1 :: st)) : gW E w nL σ pc L st := fun H locs ls a b c => va_gets X.1 X.2.1 X.xx.2.2.2.1 c X.2.2.2.1 (X.word hl rfl) (fun _ z => z) hd (by rw [hp]; exact k H locs ls a b c)
theorem g_getq (X : gC E w cc nL own h) {idx : Nat} (hl : Cond.fieldLink own idx "jdk/internal/util/Preconditions" "SIOOBE_FORMATTER" "Ljava/util/function/BiFunction;" ∈ lw_tbl) (hd : decode cc pc = .ok (.getstatic idx, 3)) (hp : pc + 3 = n) (k : ∀ v : Value, (v = .null ∨ ∃ t : Nat, v = .ref t) → gW E w nL σ n L (v :: st)) : gW E w nL σ pc L st := fun H locs ls a b c => by
  rcases X.xx.2.2.2.2 with h1 | ⟨t, h1⟩
  · exact va_gets X.1 X.2.1 h1 c X.2.2.2.1 (X.word hl rfl) (fun _ z => z) hd (by rw [hp]; exact k _ (Or.inl rfl) H locs ls a b c)
  · exact va_gets X.1 X.2.1 h1 c X.2.2.2.1 (X.word hl rfl) (fun _ z => z) hd (by rw [hp]; exact k _ (Or.inr ⟨t, rfl⟩) H locs ls a b c)
theorem g_sval (X : gC E w cc nL own h) {idx i : Nat} (hi : i < 4) (hl : Cond.fieldLink own idx "java/lang/String" "value" "[B" ∈ lw_tbl) (hd : decode cc pc = .ok (.getfield idx, 3)) (hp : pc + 3 = n) (k : gW E w nL σ n L (.ref (w.2.2.2.2 i) :: st)) : gW E w nL σ pc L (.ref (w.2.2.2.1 i) :: st) := fun H locs ls a b c => vk_getf X.1 X.2.1 (X.xx.2.1.1 i hi).2.2.1 c X.2.2.2.1 (X.word hl rfl) (fun _ z => z) hd (by rw [hp]; exact k H locs ls a b c)
theorem g_scod (X : gC E w cc nL own h) {idx i : Nat} (hi : i < 4) (hl : Cond.fieldLink own idx "java/lang/String" "coder" "B" ∈ lw_tbl) (hd : decode cc pc = .ok (.getfield idx, 3)) (hp : pc + 3 = n) (k : gW E w nL σ n L (.int 0 :: st)) : gW E w nL σ pc L (.ref (w.2.2.2.1 i) :: st) := fun H locs ls a b c => vk_getf X.1 X.2.1 (X.xx.2.1.1 i hi).2.1 c X.2.2.2.1 (X.word hl rfl) (fun _ z => z) hd (by rw [hp]; exact k H locs ls a b c)
theorem g_salen (X : gC E w cc nL own h) {i : Nat} (hi : i < 4) (hd : decode cc pc = .ok (.arraylength, 1)) (hp : pc + 1 = n) (k : gW E w nL σ n L (.int (nI (lenS.getD i 0)) :: st)) : gW E w nL σ pc L (.ref (w.2.2.2.2 i) :: st) := fun H locs ls a b c => va_tlen X.1 X.2.1 (X.xx.2.1.1 i hi).2.2.2 c rfl hd (by rw [hp]; exact k H locs ls a b c)
theorem g_sbald (X : gC E w cc nL own h) {i : Nat} {x : Int32} (hi : i < 4) (hin : vp_in x (lenS.getD i 0)) (hd : decode cc pc = .ok (.baload, 1)) (hp : pc + 1 = n) (k : gW E w nL σ n L (.int ((bytS.getD i []).getD x.toNatClampNeg 0) :: st)) : gW E w nL σ pc L (.int x :: .ref (w.2.2.2.2 i) :: st) := fun H locs ls a b c => va_tb X.1 X.2.1 (X.xx.2.1.1 i hi).2.2.2 c hin rfl hd (by rw [hp]; exact k H locs ls a b c)
theorem g_callT (X : gC E w cc nL own h) {y : MethodName} {bytes : ByteArray} {maxL na : Nat} {ret : Option FieldType} {h' : Nat} {i idx : Nat} (As : List Value) {rest : List Value} {σ' : St} {r : Option Value} (hM : gM w (eL E) y bytes maxL ret h' (.ref (w.2.2.2.1 i) :: As) σ r σ') (hY : gY y bytes maxL ret na) (hi : Cond.instanceMethod y ∈ lw_tbl) (hs : Cond.selects y.cls y y ∈ lw_tbl) (hl : Cond.methodLink own idx y ∈ lw_tbl) (hk : i < 4) (hc : y.cls = "java/lang/String") (hh : h' < h) (hna : As.length = na) (hd : decode cc pc = .ok (.invokevirtual idx, 3)) (hw : (rest.map fun v => v.category).sum ≤ 8) (hst : As.reverse ++ .ref (w.2.2.2.1 i) :: rest = st) (hp : pc + 3 = n)
    (kk : gW E w nL σ' n L (r.toList ++ rest)) : gW E w nL σ pc L st := by
  intro H locs ls a b c
  subst hst
  exact g_back (va_runV (As := As) (rest := rest) (C := y.cls) (Ts := gT) ⟨X.1, X.2.1, X.2.2.1, X.2.2.2.1, X.2.2.2.2.1⟩ hM ⟨callB_of na X.2.2.2.2.1 (gGood _ _ _ _ hY.1) rfl rfl rfl (X.word hY.2.1 rfl) (X.word hl rfl) hY.2.2.1 (g_rm X hh hY.2.2.2), X.word hi rfl, X.word hs rfl⟩ ⟨gM_blind, by rw [hc]; exact vk_recv X.xx.2.1 hk c, g_pre X b c⟩ rfl hna a.1 rfl (lv_room hw) hd ⟨by simpa using X.2.2.2.2.2.2.2.2.2.1, by simpa using X.2.2.2.2.2.2.2.2.2.2⟩) a c hp kk
theorem g_callVI (X : gC E w cc nL own h) {y : MethodName} {bytes : ByteArray} {maxL na : Nat} {ret : Option FieldType} {h' : Nat} {k idx N : Nat} {U : u_T} (As : List Value) {rest : List Value} {σ' : St} {r : Int32} (hM : gM w (eL E) y bytes maxL ret h' (.ref (w.1 k) :: As) σ (some (.int r)) σ') (hY : gY y bytes maxL ret na) (hi : Cond.instanceMethod y ∈ lw_tbl) (hs : Cond.selects y.cls y y ∈ lw_tbl) (hl : Cond.methodLink own idx y ∈ lw_tbl) (hk : k < NC) (h0 : kd k = 0) (hc : gcl[oc k]? = some (y.cls, U, N)) (hh : h' < h) (hna : As.length = na) (hd : decode cc pc = .ok (.invokevirtual idx, 3)) (hw : (rest.map fun v => v.category).sum ≤ 8) (hst : As.reverse ++ .ref (w.1 k) :: rest = st) (hp : pc + 3 = n) (kk : gW E w nL σ' n L (.int r :: rest)) : gW E w nL σ pc L st := g_callV X As hM hY hi hs hl hk h0 hc hh hna hd hw hst hp kk
theorem g_callSI (X : gC E w cc nL own h) {y : MethodName} {bytes : ByteArray} {maxL na : Nat} {ret : Option FieldType} {h' : Nat} {idx : Nat} (As : List Value) {rest : List Value} {σ' : St} {r : Int32} (hM : gM w (eL E) y bytes maxL ret h' As σ (some (.int r)) σ') (hY : gY y bytes maxL ret na) (hs : Cond.static y ∈ lw_tbl) (hl : Cond.methodLink own idx y ∈ lw_tbl) (hh : h' < h) (hna : As.length = na) (hd : decode cc pc = .ok (.invokestatic idx, 3)) (hw : (rest.map fun v => v.category).sum ≤ 8) (hst : As.reverse ++ rest = st) (hp : pc + 3 = n) (kk : gW E w nL σ' n L (.int r :: rest)) : gW E w nL σ pc L st := g_callS X As hM hY hs hl hh hna hd hw hst hp kk
theorem g_callSNI (X : gC E w cc nL own h) {y : MethodName} {bytes : ByteArray} {maxL na : Nat} {ret : Option FieldType} {h' : Nat} {idx : Nat} {host : String} (As : List Value) {rest : List Value} {σ' : St} {r : Int32} (hM : gM w (eL E) y bytes maxL ret h' As σ (some (.int r)) σ') (hY : gY y bytes maxL ret na) (hs : Cond.static y ∈ lw_tbl) (hl : va_Nw (.methodLinkNest own idx y host) (eS E)) (hh : h' < h) (hna : As.length = na) (hd : decode cc pc = .ok (.invokestatic idx, 3)) (hw : (rest.map fun v => v.category).sum ≤ 8) (hst : As.reverse ++ rest = st) (hp : pc + 3 = n) (kk : gW E w nL σ' n L (.int r :: rest)) : gW E w nL σ pc L st := g_callSN X As hM hY hs hl hh hna hd hw hst hp kk
theorem g_callTI (X : gC E w cc nL own h) {y : MethodName} {bytes : ByteArray} {maxL na : Nat} {ret : Option FieldType} {h' : Nat} {i idx : Nat} (As : List Value) {rest : List Value} {σ' : St} {r : Int32} (hM : gM w (eL E) y bytes maxL ret h' (.ref (w.2.2.2.1 i) :: As) σ (some (.int r)) σ') (hY : gY y bytes maxL ret na) (hi : Cond.instanceMethod y ∈ lw_tbl) (hs : Cond.selects y.cls y y ∈ lw_tbl) (hl : Cond.methodLink own idx y ∈ lw_tbl) (hk : i < 4) (hh : h' < h) (hna : As.length = na) (hd : decode cc pc = .ok (.invokevirtual idx, 3)) (hw : (rest.map fun v => v.category).sum ≤ 8) (hst : As.reverse ++ .ref (w.2.2.2.1 i) :: rest = st) (hp : pc + 3 = n) (kk : gW E w nL σ' n L (.int r :: rest)) (hc : y.cls = "java/lang/String" := by rfl) : gW E w nL σ pc L st := g_callT X As hM hY hi hs hl hk hc hh hna hd hw hst hp kk
theorem g_callVJ (X : gC E w cc nL own h) {y : MethodName} {bytes : ByteArray} {maxL na : Nat} {ret : Option FieldType} {h' : Nat} {k idx N : Nat} {U : u_T} (As : List Value) {rest : List Value} {σ' : St} {r : Int64} (hM : gM w (eL E) y bytes maxL ret h' (.ref (w.1 k) :: As) σ (some (.long r)) σ') (hY : gY y bytes maxL ret na) (hi : Cond.instanceMethod y ∈ lw_tbl) (hs : Cond.selects y.cls y y ∈ lw_tbl) (hl : Cond.methodLink own idx y ∈ lw_tbl) (hk : k < NC) (h0 : kd k = 0) (hc : gcl[oc k]? = some (y.cls, U, N)) (hh : h' < h) (hna : As.length = na) (hd : decode cc pc = .ok (.invokevirtual idx, 3)) (hw : (rest.map fun v => v.category).sum ≤ 8) (hst : As.reverse ++ .ref (w.1 k) :: rest = st) (hp : pc + 3 = n) (kk : gW E w nL σ' n L (.long r :: rest)) : gW E w nL σ pc L st := g_callV X As hM hY hi hs hl hk h0 hc hh hna hd hw hst hp kk
theorem g_callSJ (X : gC E w cc nL own h) {y : MethodName} {bytes : ByteArray} {maxL na : Nat} {ret : Option FieldType} {h' : Nat} {idx : Nat} (As : List Value) {rest : List Value} {σ' : St} {r : Int64} (hM : gM w (eL E) y bytes maxL ret h' As σ (some (.long r)) σ') (hY : gY y bytes maxL ret na) (hs : Cond.static y ∈ lw_tbl) (hl : Cond.methodLink own idx y ∈ lw_tbl) (hh : h' < h) (hna : As.length = na) (hd : decode cc pc = .ok (.invokestatic idx, 3)) (hw : (rest.map fun v => v.category).sum ≤ 8) (hst : As.reverse ++ rest = st) (hp : pc + 3 = n) (kk : gW E w nL σ' n L (.long r :: rest)) : gW E w nL σ pc L st := g_callS X As hM hY hs hl hh hna hd hw hst hp kk
theorem g_callSNJ (X : gC E w cc nL own h) {y : MethodName} {bytes : ByteArray} {maxL na : Nat} {ret : Option FieldType} {h' : Nat} {idx : Nat} {host : String} (As : List Value) {rest : List Value} {σ' : St} {r : Int64} (hM : gM w (eL E) y bytes maxL ret h' As σ (some (.long r)) σ') (hY : gY y bytes maxL ret na) (hs : Cond.static y ∈ lw_tbl) (hl : va_Nw (.methodLinkNest own idx y host) (eS E)) (hh : h' < h) (hna : As.length = na) (hd : decode cc pc = .ok (.invokestatic idx, 3)) (hw : (rest.map fun v => v.category).sum ≤ 8) (hst : As.reverse ++ rest = st) (hp : pc + 3 = n) (kk : gW E w nL σ' n L (.long r :: rest)) : gW E w nL σ pc L st := g_callSN X As hM hY hs hl hh hna hd hw hst hp kk
theorem g_callVV (X : gC E w cc nL own h) {y : MethodName} {bytes : ByteArray} {maxL na : Nat} {ret : Option FieldType} {h' : Nat} {k idx N : Nat} {U : u_T} (As : List Value) {rest : List Value} {σ' : St} (hM : gM w (eL E) y bytes maxL ret h' (.ref (w.1 k) :: As) σ none σ') (hY : gY y bytes maxL ret na) (hi : Cond.instanceMethod y ∈ lw_tbl) (hs : Cond.selects y.cls y y ∈ lw_tbl) (hl : Cond.methodLink own idx y ∈ lw_tbl) (hk : k < NC) (h0 : kd k = 0) (hc : gcl[oc k]? = some (y.cls, U, N)) (hh : h' < h) (hna : As.length = na) (hd : decode cc pc = .ok (.invokevirtual idx, 3)) (hw : (rest.map fun v => v.category).sum ≤ 8) (hst : As.reverse ++ .ref (w.1 k) :: rest = st) (hp : pc + 3 = n) (kk : gW E w nL σ' n L rest) : gW E w nL σ pc L st := g_callV X As hM hY hi hs hl hk h0 hc hh hna hd hw hst hp kk
theorem g_callSV (X : gC E w cc nL own h) {y : MethodName} {bytes : ByteArray} {maxL na : Nat} {ret : Option FieldType} {h' : Nat} {idx : Nat} (As : List Value) {rest : List Value} {σ' : St} (hM : gM w (eL E) y bytes maxL ret h' As σ none σ') (hY : gY y bytes maxL ret na) (hs : Cond.static y ∈ lw_tbl) (hl : Cond.methodLink own idx y ∈ lw_tbl) (hh : h' < h) (hna : As.length = na) (hd : decode cc pc = .ok (.invokestatic idx, 3)) (hw : (rest.map fun v => v.category).sum ≤ 8) (hst : As.reverse ++ rest = st) (hp : pc + 3 = n) (kk : gW E w nL σ' n L rest) : gW E w nL σ pc L st := g_callS X As hM hY hs hl hh hna hd hw hst hp kk
theorem g_callSNV (X : gC E w cc nL own h) {y : MethodName} {bytes : ByteArray} {maxL na : Nat} {ret : Option FieldType} {h' : Nat} {idx : Nat} {host : String} (As : List Value) {rest : List Value} {σ' : St} (hM : gM w (eL E) y bytes maxL ret h' As σ none σ') (hY : gY y bytes maxL ret na) (hs : Cond.static y ∈ lw_tbl) (hl : va_Nw (.methodLinkNest own idx y host) (eS E)) (hh : h' < h) (hna : As.length = na) (hd : decode cc pc = .ok (.invokestatic idx, 3)) (hw : (rest.map fun v => v.category).sum ≤ 8) (hst : As.reverse ++ rest = st) (hp : pc + 3 = n) (kk : gW E w nL σ' n L rest) : gW E w nL σ pc L st := g_callSN X As hM hY hs hl hh hna hd hw hst hp kk
theorem g_callVR (X : gC E w cc nL own h) {y : MethodName} {bytes : ByteArray} {maxL na : Nat} {ret : Option FieldType} {h' : Nat} {k idx N : Nat} {U : u_T} (As : List Value) {rest : List Value} {σ' : St} {r : Nat} (hM : gM w (eL E) y bytes maxL ret h' (.ref (w.1 k) :: As) σ (some (.ref (w.1 r))) σ') (hY : gY y bytes maxL ret na) (hi : Cond.instanceMethod y ∈ lw_tbl) (hs : Cond.selects y.cls y y ∈ lw_tbl) (hl : Cond.methodLink own idx y ∈ lw_tbl) (hk : k < NC) (h0 : kd k = 0) (hc : gcl[oc k]? = some (y.cls, U, N)) (hh : h' < h) (hna : As.length = na) (hd : decode cc pc = .ok (.invokevirtual idx, 3)) (hw : (rest.map fun v => v.category).sum ≤ 8) (hst : As.reverse ++ .ref (w.1 k) :: rest = st) (hp : pc + 3 = n) (kk : gW E w nL σ' n L (.ref (w.1 r) :: rest)) : gW E w nL σ pc L st := g_callV X As hM hY hi hs hl hk h0 hc hh hna hd hw hst hp kk
theorem g_callSR (X : gC E w cc nL own h) {y : MethodName} {bytes : ByteArray} {maxL na : Nat} {ret : Option FieldType} {h' : Nat} {idx : Nat} (As : List Value) {rest : List Value} {σ' : St} {r : Nat} (hM : gM w (eL E) y bytes maxL ret h' As σ (some (.ref (w.1 r))) σ') (hY : gY y bytes maxL ret na) (hs : Cond.static y ∈ lw_tbl) (hl : Cond.methodLink own idx y ∈ lw_tbl) (hh : h' < h) (hna : As.length = na) (hd : decode cc pc = .ok (.invokestatic idx, 3)) (hw : (rest.map fun v => v.category).sum ≤ 8) (hst : As.reverse ++ rest = st) (hp : pc + 3 = n) (kk : gW E w nL σ' n L (.ref (w.1 r) :: rest)) : gW E w nL σ pc L st := g_callS X As hM hY hs hl hh hna hd hw hst hp kk
theorem g_callSNR (X : gC E w cc nL own h) {y : MethodName} {bytes : ByteArray} {maxL na : Nat} {ret : Option FieldType} {h' : Nat} {idx : Nat} {host : String} (As : List Value) {rest : List Value} {σ' : St} {r : Nat} (hM : gM w (eL E) y bytes maxL ret h' As σ (some (.ref (w.1 r))) σ') (hY : gY y bytes maxL ret na) (hs : Cond.static y ∈ lw_tbl) (hl : va_Nw (.methodLinkNest own idx y host) (eS E)) (hh : h' < h) (hna : As.length = na) (hd : decode cc pc = .ok (.invokestatic idx, 3)) (hw : (rest.map fun v => v.category).sum ≤ 8) (hst : As.reverse ++ rest = st) (hp : pc + 3 = n) (kk : gW E w nL σ' n L (.ref (w.1 r) :: rest)) : gW E w nL σ pc L st := g_callSN X As hM hY hs hl hh hna hd hw hst hp kk
end X7
theorem dJ0_length_8abf5_0 : decode cJ0_length_8abf5 0 = .ok (.aload_n 0, 1) := by decide +kernel
theorem dJ0_length_8abf5_1 : decode cJ0_length_8abf5 1 = .ok (.getfield 9, 3) := by decide +kernel
theorem dJ0_length_8abf5_4 : decode cJ0_length_8abf5 4 = .ok (.arraylength, 1) := by decide +kernel
theorem dJ0_length_8abf5_5 : decode cJ0_length_8abf5 5 = .ok (.aload_n 0, 1) := by decide +kernel
theorem dJ0_length_8abf5_6 : decode cJ0_length_8abf5 6 = .ok (.invokevirtual 335, 3) := by decide +kernel
theorem dJ0_length_8abf5_9 : decode cJ0_length_8abf5 9 = .ok (.ishr, 1) := by decide +kernel
theorem dJ0_length_8abf5_10 : decode cJ0_length_8abf5 10 = .ok (.ireturn, 1) := by decide +kernel
theorem dJ0_charAt_5068e_0 : decode cJ0_charAt_5068e 0 = .ok (.aload_n 0, 1) := by decide +kernel
theorem dJ0_charAt_5068e_1 : decode cJ0_charAt_5068e 1 = .ok (.invokevirtual 492, 3) := by decide +kernel
theorem dJ0_charAt_5068e_4 : decode cJ0_charAt_5068e 4 = .ok (.ifCond .eq 12, 3) := by decide +kernel
theorem dJ0_charAt_5068e_7 : decode cJ0_charAt_5068e 7 = .ok (.aload_n 0, 1) := by decide +kernel
theorem dJ0_charAt_5068e_8 : decode cJ0_charAt_5068e 8 = .ok (.getfield 9, 3) := by decide +kernel
theorem dJ0_charAt_5068e_11 : decode cJ0_charAt_5068e 11 = .ok (.iload_n 1, 1) := by decide +kernel
theorem dJ0_charAt_5068e_12 : decode cJ0_charAt_5068e 12 = .ok (.invokestatic 495, 3) := by decide +kernel
theorem dJ0_charAt_5068e_15 : decode cJ0_charAt_5068e 15 = .ok (.ireturn, 1) := by decide +kernel
theorem dJ0_charAt_5068e_16 : decode cJ0_charAt_5068e 16 = .ok (.aload_n 0, 1) := by decide +kernel
theorem dJ0_charAt_5068e_17 : decode cJ0_charAt_5068e 17 = .ok (.getfield 9, 3) := by decide +kernel
theorem dJ0_charAt_5068e_20 : decode cJ0_charAt_5068e 20 = .ok (.iload_n 1, 1) := by decide +kernel
theorem dJ0_charAt_5068e_21 : decode cJ0_charAt_5068e 21 = .ok (.invokestatic 498, 3) := by decide +kernel
theorem dJ0_charAt_5068e_24 : decode cJ0_charAt_5068e 24 = .ok (.ireturn, 1) := by decide +kernel
theorem dJ0_coder_7d493_0 : decode cJ0_coder_7d493 0 = .ok (.getstatic 38, 3) := by decide +kernel
theorem dJ0_coder_7d493_3 : decode cJ0_coder_7d493 3 = .ok (.ifCond .eq 10, 3) := by decide +kernel
theorem dJ0_coder_7d493_6 : decode cJ0_coder_7d493 6 = .ok (.aload_n 0, 1) := by decide +kernel
theorem dJ0_coder_7d493_7 : decode cJ0_coder_7d493 7 = .ok (.getfield 15, 3) := by decide +kernel
theorem dJ0_coder_7d493_10 : decode cJ0_coder_7d493 10 = .ok (.goto 4, 3) := by decide +kernel
theorem dJ0_coder_7d493_13 : decode cJ0_coder_7d493 13 = .ok (.iconst 1, 1) := by decide +kernel
theorem dJ0_coder_7d493_14 : decode cJ0_coder_7d493 14 = .ok (.ireturn, 1) := by decide +kernel
theorem dJ0_isLatin1_aae02_0 : decode cJ0_isLatin1_aae02 0 = .ok (.getstatic 38, 3) := by decide +kernel
theorem dJ0_isLatin1_aae02_3 : decode cJ0_isLatin1_aae02 3 = .ok (.ifCond .eq 14, 3) := by decide +kernel
theorem dJ0_isLatin1_aae02_6 : decode cJ0_isLatin1_aae02 6 = .ok (.aload_n 0, 1) := by decide +kernel
theorem dJ0_isLatin1_aae02_7 : decode cJ0_isLatin1_aae02 7 = .ok (.getfield 15, 3) := by decide +kernel
theorem dJ0_isLatin1_aae02_10 : decode cJ0_isLatin1_aae02 10 = .ok (.ifCond .ne 7, 3) := by decide +kernel
theorem dJ0_isLatin1_aae02_13 : decode cJ0_isLatin1_aae02 13 = .ok (.iconst 1, 1) := by decide +kernel
theorem dJ0_isLatin1_aae02_14 : decode cJ0_isLatin1_aae02 14 = .ok (.goto 4, 3) := by decide +kernel
theorem dJ0_isLatin1_aae02_17 : decode cJ0_isLatin1_aae02 17 = .ok (.iconst 0, 1) := by decide +kernel
theorem dJ0_isLatin1_aae02_18 : decode cJ0_isLatin1_aae02 18 = .ok (.ireturn, 1) := by decide +kernel
theorem dJ1_charAt_3b067_0 : decode cJ1_charAt_3b067 0 = .ok (.iload_n 1, 1) := by decide +kernel
theorem dJ1_charAt_3b067_1 : decode cJ1_charAt_3b067 1 = .ok (.aload_n 0, 1) := by decide +kernel
theorem dJ1_charAt_3b067_2 : decode cJ1_charAt_3b067 2 = .ok (.arraylength, 1) := by decide +kernel
theorem dJ1_charAt_3b067_3 : decode cJ1_charAt_3b067 3 = .ok (.invokestatic 9, 3) := by decide +kernel
theorem dJ1_charAt_3b067_6 : decode cJ1_charAt_3b067 6 = .ok (.aload_n 0, 1) := by decide +kernel
theorem dJ1_charAt_3b067_7 : decode cJ1_charAt_3b067 7 = .ok (.iload_n 1, 1) := by decide +kernel
theorem dJ1_charAt_3b067_8 : decode cJ1_charAt_3b067 8 = .ok (.baload, 1) := by decide +kernel
theorem dJ1_charAt_3b067_9 : decode cJ1_charAt_3b067 9 = .ok (.sipush 255, 3) := by decide +kernel
theorem dJ1_charAt_3b067_12 : decode cJ1_charAt_3b067 12 = .ok (.iand, 1) := by decide +kernel
theorem dJ1_charAt_3b067_13 : decode cJ1_charAt_3b067 13 = .ok (.i2c, 1) := by decide +kernel
theorem dJ1_charAt_3b067_14 : decode cJ1_charAt_3b067 14 = .ok (.ireturn, 1) := by decide +kernel
theorem dJ0_checkIndex_df160_0 : decode cJ0_checkIndex_df160 0 = .ok (.iload_n 0, 1) := by decide +kernel
theorem dJ0_checkIndex_df160_1 : decode cJ0_checkIndex_df160 1 = .ok (.iload_n 1, 1) := by decide +kernel
theorem dJ0_checkIndex_df160_2 : decode cJ0_checkIndex_df160 2 = .ok (.getstatic 1053, 3) := by decide +kernel
theorem dJ0_checkIndex_df160_5 : decode cJ0_checkIndex_df160 5 = .ok (.invokestatic 1059, 3) := by decide +kernel
theorem dJ0_checkIndex_df160_8 : decode cJ0_checkIndex_df160 8 = .ok (.pop, 1) := by decide +kernel
theorem dJ0_checkIndex_df160_9 : decode cJ0_checkIndex_df160 9 = .ok (.return_, 1) := by decide +kernel
theorem dJ3_checkIndex_8e157_0 : decode cJ3_checkIndex_8e157 0 = .ok (.iload_n 0, 1) := by decide +kernel
theorem dJ3_checkIndex_8e157_1 : decode cJ3_checkIndex_8e157 1 = .ok (.ifCond .lt 8, 3) := by decide +kernel
theorem dJ3_checkIndex_8e157_4 : decode cJ3_checkIndex_8e157 4 = .ok (.iload_n 0, 1) := by decide +kernel
theorem dJ3_checkIndex_8e157_5 : decode cJ3_checkIndex_8e157 5 = .ok (.iload_n 1, 1) := by decide +kernel
theorem dJ3_checkIndex_8e157_6 : decode cJ3_checkIndex_8e157 6 = .ok (.if_icmp .lt 10, 3) := by decide +kernel
theorem dJ3_checkIndex_8e157_9 : decode cJ3_checkIndex_8e157 9 = .ok (.aload_n 2, 1) := by decide +kernel
theorem dJ3_checkIndex_8e157_10 : decode cJ3_checkIndex_8e157 10 = .ok (.iload_n 0, 1) := by decide +kernel
theorem dJ3_checkIndex_8e157_11 : decode cJ3_checkIndex_8e157 11 = .ok (.iload_n 1, 1) := by decide +kernel
theorem dJ3_checkIndex_8e157_12 : decode cJ3_checkIndex_8e157 12 = .ok (.invokestatic 95, 3) := by decide +kernel
theorem dJ3_checkIndex_8e157_15 : decode cJ3_checkIndex_8e157 15 = .ok (.athrow, 1) := by decide +kernel
theorem dJ3_checkIndex_8e157_16 : decode cJ3_checkIndex_8e157 16 = .ok (.iload_n 0, 1) := by decide +kernel
theorem dJ3_checkIndex_8e157_17 : decode cJ3_checkIndex_8e157 17 = .ok (.ireturn, 1) := by decide +kernel
theorem yJ3_ok : gY yJ3_checkIndex_8e157 cJ3_checkIndex_8e157 3 (some .int) 3 := ⟨tq2 198 rfl, tq1 15 rfl, ⟨by decide +kernel, by decide +kernel, by decide +kernel⟩, by decide⟩
theorem mt_yJ3 : Cond.static yJ3_checkIndex_8e157 ∈ lw_tbl := tq2 197 rfl
theorem ml_RJ0_1059 : Cond.methodLink RJ0 1059 yJ3_checkIndex_8e157 ∈ lw_tbl := tq2 196 rfl
theorem fl_38 : Cond.fieldLink RJ0 38 "java/lang/String" "COMPACT_STRINGS" "Z" ∈ lw_tbl := tq2 178 rfl
theorem fl_1053 : Cond.fieldLink RJ0 1053 "jdk/internal/util/Preconditions" "SIOOBE_FORMATTER" "Ljava/util/function/BiFunction;" ∈ lw_tbl := tq2 194 rfl
theorem fl_9 : Cond.fieldLink RJ0 9 "java/lang/String" "value" "[B" ∈ lw_tbl := tq6 78 rfl
theorem fl_15 : Cond.fieldLink RJ0 15 "java/lang/String" "coder" "B" ∈ lw_tbl := tq6 79 rfl
theorem ok_coder {w : wT} (hi : wInj w) {l : Launch} {i : Nat} (hs : i < 4) {σ : St} : gM w l yJ0_coder_7d493 cJ0_coder_7d493 1 (some .byte) 1 [.ref (w.2.2.2.1 i)] σ (some (.int 0)) σ := by
  refine gM_of hi (by decide) [some (.ref (w.2.2.2.1 i))] rfl (Nat.le_of_ble_eq_true rfl) (fun E hl X Y => ?_)
  refine g_gets X fl_38 dJ0_coder_7d493_0 rfl ?_
  refine g_if_eq X dJ0_coder_7d493_3 (tgt := 13) rfl rfl (fun c => absurd c (by decide)) (fun _ => ?_)
  refine g_aload_n X dJ0_coder_7d493_6 rfl rfl ?_
  refine g_scod X hs fl_15 dJ0_coder_7d493_7 rfl ?_
  refine g_goto X dJ0_coder_7d493_10 (tgt := 14) rfl ?_
  exact g_zret X Y rfl dJ0_coder_7d493_14
theorem ok_isLatin1 {w : wT} (hi : wInj w) {l : Launch} {i : Nat} (hs : i < 4) {σ : St} : gM w l yJ0_isLatin1_aae02 cJ0_isLatin1_aae02 1 (some .boolean) 1 [.ref (w.2.2.2.1 i)] σ (some (.int 1)) σ := by
  refine gM_of hi (by decide) [some (.ref (w.2.2.2.1 i))] rfl (Nat.le_of_ble_eq_true rfl) (fun E hl X Y => ?_)
  refine g_gets X fl_38 dJ0_isLatin1_aae02_0 rfl ?_
  refine g_if_eq X dJ0_isLatin1_aae02_3 (tgt := 17) rfl rfl (fun c => absurd c (by decide)) (fun _ => ?_)
  refine g_aload_n X dJ0_isLatin1_aae02_6 rfl rfl ?_
  refine g_scod X hs fl_15 dJ0_isLatin1_aae02_7 rfl ?_
  refine g_if_ne X dJ0_isLatin1_aae02_10 (tgt := 17) rfl rfl (fun c => absurd rfl c) (fun _ => ?_)
  refine g_iconst X kI_1 dJ0_isLatin1_aae02_13 rfl ?_
  refine g_goto X dJ0_isLatin1_aae02_14 (tgt := 18) rfl ?_
  exact g_zret X Y rfl dJ0_isLatin1_aae02_18
def f_Str_length (i : Nat) (σ : St) : Option (Int32 × St) := ck (isS i) <| some (nI (lenS.getD i 0), σ)
theorem ok_Str_length {w : wT} (hi : wInj w) {l : Launch} {i : Nat} {σ σ' : St} {r : Int32} (h : f_Str_length i σ = some (r, σ')) : gM w l yJ0_length_8abf5 cJ0_length_8abf5 1 (some .int) 2 [.ref (w.2.2.2.1 i)] σ (some (.int r)) σ' := by
  unfold f_Str_length at h
  obtain ⟨hs, h⟩ := ck_e h
  have hs := isS_e hs
  refine gM_of hi (by decide) [some (.ref (w.2.2.2.1 i))] rfl (Nat.le_of_ble_eq_true rfl) (fun E hl X Y => ?_)
  refine g_aload_n X dJ0_length_8abf5_0 rfl rfl ?_
  refine g_sval X hs fl_9 dJ0_length_8abf5_1 rfl ?_
  refine g_salen X hs dJ0_length_8abf5_4 rfl ?_
  refine g_aload_n X dJ0_length_8abf5_5 rfl rfl ?_
  refine g_callTI X [] (ok_coder X.inj hs) my_yJ0_coder_7d493 mi_yJ0_coder_7d493 ms_yJ0_coder_7d493 ml_RJ0_335 hs (by decide) rfl dJ0_length_8abf5_6 (Nat.le_of_ble_eq_true rfl) rfl rfl ?_
  refine g_ishr X dJ0_length_8abf5_9 rfl ?_
  rw [sb_shr0]
  obtain ⟨rfl, rfl⟩ := rt_e h
  exact g_iret X Y dJ0_length_8abf5_10
theorem ok_preCheck {w : wT} (hi : wInj w) {l : Launch} {x m : Int32} {v : Value} (hv : v = .null ∨ ∃ t : Nat, v = .ref t) (h0 : ¬ x < 0) (h1 : x < m) {σ : St} : gM w l yJ3_checkIndex_8e157 cJ3_checkIndex_8e157 3 (some .int) 1 [.int x, .int m, v] σ (some (.int x)) σ := by
  have key : ∀ E : gE, gC E w cJ3_checkIndex_8e157 3 RJ3 1 → gQ E w (some .int) (some (.int x)) σ → gW E w 3 σ 0 [some (.int x), some (.int m)] [] := by
    intro E X Y
    refine g_iload_n X dJ3_checkIndex_8e157_0 rfl rfl ?_
    refine g_if_lt X dJ3_checkIndex_8e157_1 (tgt := 9) rfl rfl (fun c => absurd c h0) (fun _ => ?_)
    refine g_iload_n X dJ3_checkIndex_8e157_4 rfl rfl ?_
    refine g_iload_n X dJ3_checkIndex_8e157_5 rfl rfl ?_
    refine g_icmp_lt X dJ3_checkIndex_8e157_6 (tgt := 16) rfl rfl (fun _ => ?_) (fun c => absurd h1 c)
    refine g_iload_n X dJ3_checkIndex_8e157_16 rfl rfl ?_
    exact g_iret X Y dJ3_checkIndex_8e157_17
  rcases hv with rfl | ⟨t, rfl⟩
  · exact gM_of hi (by decide) [some (.int x), some (.int m), some .null] rfl (Nat.le_of_ble_eq_true rfl) (fun E hl X Y => g_le (lle_s (lle_s lle_0)) (key E X Y))
  · exact gM_of hi (by decide) [some (.int x), some (.int m), some (.ref t)] rfl (Nat.le_of_ble_eq_true rfl) (fun E hl X Y => g_le (lle_s (lle_s lle_0)) (key E X Y))
theorem ok_checkIndex {w : wT} (hi : wInj w) {l : Launch} {x m : Int32} (h0 : ¬ x < 0) (h1 : x < m) {σ : St} : gM w l yJ0_checkIndex_df160 cJ0_checkIndex_df160 2 none 2 [.int x, .int m] σ none σ := by
  refine gM_of hi (by decide) [some (.int x), some (.int m)] rfl (Nat.le_of_ble_eq_true rfl) (fun E hl X Y => ?_)
  refine g_iload_n X dJ0_checkIndex_df160_0 rfl rfl ?_
  refine g_iload_n X dJ0_checkIndex_df160_1 rfl rfl ?_
  refine g_getq X fl_1053 dJ0_checkIndex_df160_2 rfl (fun v hv => ?_)
  have hcat : v.category = 1 := by rcases hv with rfl | ⟨t, rfl⟩ <;> rfl
  refine g_callSI X [.int x, .int m, v] (ok_preCheck X.inj hv h0 h1) yJ3_ok mt_yJ3 ml_RJ0_1059 (by decide) rfl dJ0_checkIndex_df160_5 (Nat.le_of_ble_eq_true rfl) rfl rfl ?_
  refine g_pop X dJ0_checkIndex_df160_8 rfl rfl ?_
  exact g_vret X Y dJ0_checkIndex_df160_9
theorem sc_ok : ∀ i, i < 4 → ∀ k, k < lenS.getD i 0 → ((((bytS.getD i []).getD k 0) &&& 255).toUInt32 % 65536).toInt32 = (bytS.getD i []).getD k 0 ∧ narrow .char (.int ((bytS.getD i []).getD k 0)) = .int ((bytS.getD i []).getD k 0) := by decide +kernel
theorem ok_latinCharAt {w : wT} (hi : wInj w) {l : Launch} {i : Nat} (hs : i < 4) {x : Int32} (hx : vp_in x (lenS.getD i 0)) {σ : St} : gM w l yJ1_charAt_3b067 cJ1_charAt_3b067 2 (some .char) 3 [.ref (w.2.2.2.2 i), .int x] σ (some (.int ((bytS.getD i []).getD x.toNatClampNeg 0))) σ := by
  have hlen : lenS.getD i 0 < 2 ^ 31 := by
    have : ∀ i, i < 4 → lenS.getD i 0 < 2 ^ 31 := by decide
    exact this i hs
  obtain ⟨j, hj, rfl⟩ := vp_in_of hx hlen
  have hcl : (nI j).toNatClampNeg = j := nI_clamp (by omega)
  have hq := sc_ok i hs j hj
  refine gM_of hi (by decide) [some (.ref (w.2.2.2.2 i)), some (.int (nI j))] rfl (Nat.le_of_ble_eq_true rfl) (fun E hl X Y => ?_)
  rw [hcl] at Y
  refine g_iload_n X dJ1_charAt_3b067_0 rfl rfl ?_
  refine g_aload_n X dJ1_charAt_3b067_1 rfl rfl ?_
  refine g_salen X hs dJ1_charAt_3b067_2 rfl ?_
  refine g_callSV X [.int (nI j), .int (nI (lenS.getD i 0))] (ok_checkIndex X.inj (nI_pos (by omega)) (nI_lt hj hlen)) my_yJ0_checkIndex_df160 mt_yJ0_checkIndex_df160 ml_RJ1_9 (by decide) rfl dJ1_charAt_3b067_3 (Nat.le_of_ble_eq_true rfl) rfl rfl ?_
  refine g_aload_n X dJ1_charAt_3b067_6 rfl rfl ?_
  refine g_iload_n X dJ1_charAt_3b067_7 rfl rfl ?_
  refine g_sbald X hs hx dJ1_charAt_3b067_8 rfl ?_
  rw [hcl]
  refine g_sipush X kS_255 dJ1_charAt_3b067_9 rfl ?_
  refine g_iand X dJ1_charAt_3b067_12 rfl ?_
  refine g_i2c X hq.1 dJ1_charAt_3b067_13 rfl ?_
  exact g_zret X Y hq.2 dJ1_charAt_3b067_14
def f_Str_charAt (i : Nat) (x : Int32) (σ : St) : Option (Int32 × St) := ck (isS i) <| ck (ib x (lenS.getD i 0)) <| some ((bytS.getD i []).getD x.toNatClampNeg 0, σ)
theorem ok_Str_charAt {w : wT} (hi : wInj w) {l : Launch} {i : Nat} {x : Int32} {σ σ' : St} {r : Int32} (h : f_Str_charAt i x σ = some (r, σ')) : gM w l yJ0_charAt_5068e cJ0_charAt_5068e 2 (some .char) 4 [.ref (w.2.2.2.1 i), .int x] σ (some (.int r)) σ' := by
  unfold f_Str_charAt at h
  obtain ⟨hs, h⟩ := ck_e h
  obtain ⟨hx, h⟩ := ck_e h
  have hs := isS_e hs
  have hx := ib_e hx
  have hlen : lenS.getD i 0 < 2 ^ 31 := by
    have : ∀ i, i < 4 → lenS.getD i 0 < 2 ^ 31 := by decide
    exact this i hs
  have hj : x.toNatClampNeg < lenS.getD i 0 := Nat.not_le.mp fun q => hx (Or.inr q)
  refine gM_of hi (by decide) [some (.ref (w.2.2.2.1 i)), some (.int x)] rfl (Nat.le_of_ble_eq_true rfl) (fun E hl X Y => ?_)
  refine g_aload_n X dJ0_charAt_5068e_0 rfl rfl ?_
  refine g_callTI X [] (ok_isLatin1 X.inj hs) my_yJ0_isLatin1_aae02 mi_yJ0_isLatin1_aae02 ms_yJ0_isLatin1_aae02 ml_RJ0_492 hs (by decide) rfl dJ0_charAt_5068e_1 (Nat.le_of_ble_eq_true rfl) rfl rfl ?_
  refine g_if_eq X dJ0_charAt_5068e_4 (tgt := 16) rfl rfl (fun c => absurd c (by decide)) (fun _ => ?_)
  refine g_aload_n X dJ0_charAt_5068e_7 rfl rfl ?_
  refine g_sval X hs fl_9 dJ0_charAt_5068e_8 rfl ?_
  refine g_iload_n X dJ0_charAt_5068e_11 rfl rfl ?_
  refine g_callSI X [.ref (w.2.2.2.2 i), .int x] (ok_latinCharAt X.inj hs hx) my_yJ1_charAt_3b067 mt_yJ1_charAt_3b067 ml_RJ0_495 (by decide) rfl dJ0_charAt_5068e_12 (Nat.le_of_ble_eq_true rfl) rfl rfl ?_
  obtain ⟨rfl, rfl⟩ := rt_e h
  exact g_zret X Y (sc_ok i hs _ hj).2 dJ0_charAt_5068e_15
