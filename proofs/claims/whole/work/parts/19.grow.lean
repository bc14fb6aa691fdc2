/-! constructors: the world grows -/
def itys (cA : Nat → ClassId) : List (ClassId × FieldType) := [(cA 1, .int), (cA 2, .byte), (cA 3, .boolean), (cA 4, .long)]
def iN (U : State) : Prop := va_Nw (.methodLinkNest RX8 18 yX7_init RX8) U ∧ va_Nw (.methodLinkNest RX8 25 yX4_init RX8) U ∧ va_Nw (.methodLinkNest RX8 32 yX3_init RX8) U ∧ va_Nw (.methodLinkNest RX8 39 yX6_init RX8) U ∧ va_Nw (.methodLinkNest RX8 46 yX2_init RX8) U ∧ va_Nw (.methodLinkNest RX2 28 yX3_init RX8) U ∧ va_Nw (.methodLinkNest RX8 53 yX0_init RX8) U
theorem iN.same {u U : State} (hv : u.vm = U.vm) (h : iN u) : iN U := ⟨h.1.same rfl hv, h.2.1.same rfl hv, h.2.2.1.same rfl hv, h.2.2.2.1.same rfl hv, h.2.2.2.2.1.same rfl hv, h.2.2.2.2.2.1.same rfl hv, h.2.2.2.2.2.2.same rfl hv⟩
theorem iN.warm {s U : State} (hW : s.WarmedH U.vm) (h : iN s) : iN U := ⟨h.1.warmM hW, h.2.1.warmM hW, h.2.2.1.warmM hW, h.2.2.2.1.warmM hW, h.2.2.2.2.1.warmM hW, h.2.2.2.2.2.1.warmM hW, h.2.2.2.2.2.2.warmM hW⟩
def iW (E : gE) (D : va_G) (A : Nat → Prop) (nL : Nat) (V : va_W) (nc ns pc : Nat) (L : List (Option Value)) (st : List Value) : Prop :=
  ∀ (H : Heap) (locs : List Loc) (ls : Array Slot), lvh ls nL L → va_P D gcl V H → va_D A V → va_S A (eS E).heap H locs → W (eP E) (eL E) (eE E) (eR E) (eS E) (eM E) (eA E) (eB E) (eMe E) (eC E) H locs nc ns (eQ E) (F0 (eM E) pc ls st)
def iC (E : gE) (D : va_G) (cA : Nat → ClassId) (A : Nat → Prop) (cc : ByteArray) (nL : Nat) (own : String) : Prop :=
  (eP E).tables.exec = Jvm.exec ∧ (eC E).code = cc ∧ (eC E).maxLocals = nL ∧ (eS E).vm.findClass own = some (eM E).cls ∧ (∀ t ∈ gT, t.before (eA E) (eS E) = true) ∧ va_K D gcl (itys cA) (eS E) ∧ (∀ q, (eS E).heap.size ≤ q → A q) ∧ iN (eS E)
def iPre (D : va_G) (cA : Nat → ClassId) (h0 ci : Nat) (fs0 : List Value) (sz : Nat) (U : State) : Prop := U.heap.size = sz ∧ va_P D gcl [(h0, .inr (ci, fs0))] U.heap ∧ va_K D gcl (itys cA) U ∧ va_D (fun _ => True) [(h0, .inr (ci, fs0))] ∧ iN U
def iM (l : Launch) (D : va_G) (cA : Nat → ClassId) (y : MethodName) (bytes : ByteArray) (R1 : Room) (ci : Nat) (fs0 : List Value) (wsC : Nat → (Nat → Nat) → va_W) (h0 sz : Nat) : Prop :=
  Met l y (gWs y bytes 1 none) R1 (va_Pc [.ref h0] (iPre D cA h0 ci fs0 sz)) (va_Qv (fun _ : Nat → Nat => True) (fun u t => va_P D gcl (wsC h0 u) t.heap ∧ va_D (va_A [(h0, .inr (ci, fs0))] sz) (wsC h0 u)) (va_A [(h0, .inr (ci, fs0))] sz)) R1.cells R1.slots (va_A [(h0, .inr (ci, fs0))] sz)
theorem iM_blind {D : va_G} {cA : Nat → ClassId} {h0 ci sz : Nat} {fs0 : List Value} : FrameBlind (va_Pc [.ref h0] (iPre D cA h0 ci fs0 sz)) := by
  intro a U g mk q
  obtain ⟨q0, q1, qP, qK, qD, qN⟩ := q
  exact ⟨q0, q1, qP, va_K.moved (u := U) (U := U.calling g mk a) (Vm.Alike.refl U.vm) qK, qD, iN.same (u := U) (U := U.calling g mk a) rfl qN⟩
theorem iM_of {l : Launch} {D : va_G} {cA : Nat → ClassId} {y : MethodName} {bytes : ByteArray} {R1 : Room} {ci : Nat} {fs0 : List Value} {wsC : Nat → (Nat → Nat) → va_W} {h0 sz : Nat} (hy : plainName y.cls = true) (hyn : y.name = "<init>")
    (body : ∀ (E : gE) (A : Nat → Prop), eL E = l → iC E D cA A bytes 1 y.cls → eR E = R1 → (eMe E).name = "<init>" → (∀ (u : Nat → Nat) (pc : Nat) (L : List (Option Value)), decode bytes pc = .ok (.return_, 1) → iW E D A 1 (wsC h0 u) R1.cells R1.slots pc L []) → iW E D A 1 [(h0, .inr (ci, fs0))] 0 0 0 [some (.ref h0)] []) : iM l D cA y bytes R1 ci fs0 wsC h0 sz := by
  refine Met.ofW (cc := bytes) (maxL := 1) (ret := none) hy rfl ?_
  intro p e s m args below meth c s₁ B hml hv
  obtain ⟨rfl, hsz, hP, hK, hD0, hN⟩ := hv
  have hts := atoms_spec (ws := gWs y bytes 1 none) B.pre
  subst hsz
  have hD := hD0.self (sz := s.heap.size)
  rw [lg_entry_eq]
  refine body (p, l, e, R1, s, m, [Value.ref h0].toArray, below, meth, c, 0, 0, MQ below (va_Qv (fun _ : Nat → Nat => True) (fun u t => va_P D gcl (wsC h0 u) t.heap ∧ va_D (va_A [(h0, .inr (ci, fs0))] s.heap.size) (wsC h0 u)) (va_A [(h0, .inr (ci, fs0))] s.heap.size)) [Value.ref h0].toArray s R1.cells R1.slots (va_A [(h0, .inr (ci, fs0))] s.heap.size)) (va_A [(h0, .inr (ci, fs0))] s.heap.size) rfl ⟨B.exec, B.bytes, hml, findClass_of_methodNamed B.named, fun t ht => hts t (List.mem_cons_of_mem _ ht), hK, fun q hq => Or.inr hq, hN⟩ rfl ((name_of_methodNamed B.named B.method).1.trans hyn) ?_ s.heap [] _ (lv_entry [.ref h0] (n := 1) (Nat.le_refl _)) hP hD va_S.rf
  intro u pc L hd H locs ls a b d c1
  exact W.vret B.exec B.bytes B.returns (fun t ht hW => ⟨⟨u, rfl, trivial, by rw [ht]; exact b, d⟩, c1.F ht⟩) c1.2.2 hd B.notSynchronized
section I
variable {E : gE} {D : va_G} {cA : Nat → ClassId} {A : Nat → Prop} {cc : ByteArray} {nL : Nat} {own : String} {V : va_W} {nc ns pc n : Nat} {L L' : List (Option Value)} {st : List Value}
theorem iC.word (X : iC E D cA A cc nL own) {t : Cond} (ht : t ∈ lw_tbl) (hg : goodWord t = true) : t.before (eA E) (eS E) = true := X.2.2.2.2.1 t (gT_mem ht hg)
theorem i_eq {V' : va_W} (e : V = V') (k : iW E D A nL V' nc ns pc L st) : iW E D A nL V nc ns pc L st := e ▸ k
theorem i_aload_n (X : iC E D cA A cc nL own) {z : Fin 4} {x : Nat} (hd : decode cc pc = .ok (.aload_n z, 1)) (hi : la L (z : Nat) = some (.ref x)) (hp : pc + 1 = n) (k : iW E D A nL V nc ns n L (.ref x :: st)) : iW E D A nL V nc ns pc L st := fun H locs ls a b d c => lv_aload_n X.1 X.2.1 hd rfl (lvh_at a hi) (by rw [hp]; exact k H locs ls a b d c)
theorem i_iload_n (X : iC E D cA A cc nL own) {z : Fin 4} {x : Int32} (hd : decode cc pc = .ok (.iload_n z, 1)) (hi : la L (z : Nat) = some (.int x)) (hp : pc + 1 = n) (k : iW E D A nL V nc ns n L (.int x :: st)) : iW E D A nL V nc ns pc L st := fun H locs ls a b d c => lv_iload_n X.1 X.2.1 hd rfl (lvh_at a hi) (by rw [hp]; exact k H locs ls a b d c)
theorem i_astore_n (X : iC E D cA A cc nL own) {z : Fin 4} {x : Nat} (L' : List (Option Value)) (hd : decode cc pc = .ok (.astore_n z, 1)) (hn : (z : Nat) < nL) (ho : lo L (z : Nat) = true) (hL : lset L (z : Nat) (some (.ref x)) = L') (hp : pc + 1 = n) (k : iW E D A nL V nc ns n L' st) : iW E D A nL V nc ns pc L (.ref x :: st) := fun H locs ls a b d c => lv_astore_n X.1 X.2.1 hd rfl a hn rfl (fun ls1 a1 => by rw [hp]; exact k H locs ls1 (hL ▸ lvh_set1 ho a1) b d c)
theorem i_istore_n (X : iC E D cA A cc nL own) {z : Fin 4} {x : Int32} (L' : List (Option Value)) (hd : decode cc pc = .ok (.istore_n z, 1)) (hn : (z : Nat) < nL) (ho : lo L (z : Nat) = true) (hL : lset L (z : Nat) (some (.int x)) = L') (hp : pc + 1 = n) (k : iW E D A nL V nc ns n L' st) : iW E D A nL V nc ns pc L (.int x :: st) := fun H locs ls a b d c => lv_istore_n X.1 X.2.1 hd rfl a hn rfl (fun ls1 a1 => by rw [hp]; exact k H locs ls1 (hL ▸ lvh_set1 ho a1) b d c)
theorem i_iinc (X : iC E D cA A cc nL own) {z : Nat} {dz : Int} {x v : Int32} (L' : List (Option Value)) (hd : decode cc pc = .ok (.iinc z dz, 3)) (hi : la L z = some (.int x)) (hv : x + Int32.ofInt dz = v) (hn : z < nL) (ho : lo L z = true) (hL : lset L z (some (.int v)) = L') (hp : pc + 3 = n) (k : iW E D A nL V nc ns n L' st) : iW E D A nL V nc ns pc L st := by
  intro H locs ls a b d c
  obtain ⟨j, hj⟩ := List.getElem?_of_mem (lz_mem (q := (z, .int x)).mpr hi)
  exact lv_iinc X.1 X.2.1 hd a hj hv hn rfl (fun ls1 a1 => by rw [hp]; exact k H locs ls1 (hL ▸ lvh_set1 ho a1) b d c)
theorem i_icmp_ge (X : iC E D cA A cc nL own) {x y : Int32} {off : Int} {tgt : Nat} (hd : decode cc pc = .ok (.if_icmp .ge off, 3)) (ht : (pc : Int) + off = (tgt : Int)) (hp : pc + 3 = n) (kt : y ≤ x → iW E D A nL V nc ns tgt L st) (kf : ¬ y ≤ x → iW E D A nL V nc ns n L st) : iW E D A nL V nc ns pc L (.int y :: .int x :: st) := fun H locs ls a b d c => lv_icmp_ge X.1 X.2.1 hd ht (fun q => kt q H locs ls a b d c) (fun q => by rw [hp]; exact kf q H locs ls a b d c)
theorem i_goto (X : iC E D cA A cc nL own) {off : Int} {tgt : Nat} (hd : decode cc pc = .ok (.goto off, 3)) (ht : (pc : Int) + off = (tgt : Int)) (k : iW E D A nL V nc ns tgt L st) : iW E D A nL V nc ns pc L st := fun H locs ls a b d c => lv_goto X.1 X.2.1 hd ht (k H locs ls a b d c)
theorem i_iconst (X : iC E D cA A cc nL own) {z : Int} {v : Int32} (hv : Int32.ofInt z = v) (hd : decode cc pc = .ok (.iconst z, 1)) (hp : pc + 1 = n) (k : iW E D A nL V nc ns n L (.int v :: st)) : iW E D A nL V nc ns pc L st := fun H locs ls a b d c => lv_iconst X.1 X.2.1 hd hv (by rw [hp]; exact k H locs ls a b d c)
theorem i_bipush (X : iC E D cA A cc nL own) {z : Int} {v : Int32} (hv : (Int8.ofInt z).toInt32 = v) (hd : decode cc pc = .ok (.bipush z, 2)) (hp : pc + 2 = n) (k : iW E D A nL V nc ns n L (.int v :: st)) : iW E D A nL V nc ns pc L st := fun H locs ls a b d c => lv_bipush X.1 X.2.1 hd hv (by rw [hp]; exact k H locs ls a b d c)
theorem i_sipush (X : iC E D cA A cc nL own) {z : Int} {v : Int32} (hv : (Int16.ofInt z).toInt32 = v) (hd : decode cc pc = .ok (.sipush z, 3)) (hp : pc + 3 = n) (k : iW E D A nL V nc ns n L (.int v :: st)) : iW E D A nL V nc ns pc L st := fun H locs ls a b d c => lv_sipush X.1 X.2.1 hd hv (by rw [hp]; exact k H locs ls a b d c)
theorem i_ldc (X : iC E D cA A cc nL own) {z : Nat} {v : Int32} (hd : decode cc pc = .ok (.ldc z, 2)) (hw : Cond.constant own z v ∈ lw_tbl) (hp : pc + 2 = n) (k : iW E D A nL V nc ns n L (.int v :: st)) : iW E D A nL V nc ns pc L st := fun H locs ls a b d c => lv_ldc X.1 X.2.1 X.2.2.2.1 (X.word hw rfl) hd (by rw [hp]; exact k H locs ls a b d c)
theorem i_dup (X : iC E D cA A cc nL own) {v : Value} (hd : decode cc pc = .ok (.dup, 1)) (hc : v.category = 1) (hp : pc + 1 = n) (k : iW E D A nL V nc ns n L (v :: v :: st)) : iW E D A nL V nc ns pc L (v :: st) := fun H locs ls a b d c => lv_dup X.1 X.2.1 hd hc (by rw [hp]; exact k H locs ls a b d c)
theorem i_obj (X : iC E D cA A cc nL own) {idx x : Nat} (hl : Cond.methodLink own idx objectInit ∈ lw_tbl) (hR : 1 ≤ (eR E).frames ∧ (st.map fun v => v.category).sum + 12 ≤ (eR E).locals) (hd : decode cc pc = .ok (.invokespecial idx, 3)) (hp : pc + 3 = n) (k : iW E D A nL V nc ns n L st) : iW E D A nL V nc ns pc L (.ref x :: st) := fun H locs ls a b d c =>
  W.objInit X.1 X.2.1 X.2.2.2.1 (X.word hl rfl) (X.word (t := .instanceMethod objectInit) (tq1 24 rfl) rfl) (X.word (t := .code objectInit ⟨#[0xb1]⟩ 1 none) (tq1 25 rfl) rfl) rfl (by rw [X.2.2.1]; exact a.1) rfl hd hR.1 (by show 2 * 0 + _ + 12 ≤ _; omega) (by show W _ _ _ _ _ _ _ _ _ _ _ _ _ _ _ (F0 _ (pc + 3) ls st); rw [hp]; exact k H locs ls a b d c)
theorem va_K.arr {tys : List (ClassId × FieldType)} {U : State} {c c' : ClassId} {ty : FieldType} (h : va_K D gcl tys U) {i j : Nat} (hi : tys[i]? = some (c, ty)) (hj : tys[j]? = some (c', ty)) (hp : ∀ C, ty ≠ .object C) : c = c' := by
  have h1 := (h.2 i _ hi).2
  have h2 := (h.2 j _ hj).2
  cases ty <;> first | exact absurd rfl (hp _) | exact Option.some.inj (h1.symm.trans h2)
theorem i_new_int (X : iC E D cA A cc nL own) {z : Int32} {N : Nat} (hz : ¬ z < 0 ∧ z.toNatClampNeg = N ∧ N ≤ 60000) (hR : nc + 1 ≤ (eR E).cells ∧ ns + N ≤ (eR E).slots) (hd : decode cc pc = .ok (.newarray .int, 2)) (hp : pc + 2 = n) (k : ∀ q : Nat, iW E D A nL (V ++ [(q, .inl (cA 1, N, .inl (fun _ => 0)))]) (nc + 1) (ns + N) n L (.ref q :: st)) : iW E D A nL V nc ns pc L (.int z :: st) := fun H locs ls a b d c =>
  va_newa (atype := .int) (ty := .int) (a0 := (N, .inl (fun _ => 0))) X.1 X.2.1 (X.word (t := .arrayClass .int) (tq1 47 rfl) rfl) rfl X.2.2.2.2.2.1 b d c X.2.2.2.2.2.2.1 (fun _ => rfl) hz.1 hz.2.1 (Nat.le_trans (Nat.mul_le_mul hz.2.2 (show componentBytes .int ≤ 8 by decide)) (by decide)) hR.1 hR.2 hd (fun q c1 H1 hK hP hD hS => by
    have e : c1 = cA 1 := va_K.arr hK (i := 4) (j := 0) rfl rfl (fun C h => by cases h)
    subst e
    rw [hp]
    exact k q H1 locs ls a hP hD hS)
theorem i_new_byte (X : iC E D cA A cc nL own) {z : Int32} {N : Nat} (hz : ¬ z < 0 ∧ z.toNatClampNeg = N ∧ N ≤ 60000) (hR : nc + 1 ≤ (eR E).cells ∧ ns + N ≤ (eR E).slots) (hd : decode cc pc = .ok (.newarray .byte, 2)) (hp : pc + 2 = n) (k : ∀ q : Nat, iW E D A nL (V ++ [(q, .inl (cA 2, N, .inl (fun _ => 0)))]) (nc + 1) (ns + N) n L (.ref q :: st)) : iW E D A nL V nc ns pc L (.int z :: st) := fun H locs ls a b d c =>
  va_newa (atype := .byte) (ty := .byte) (a0 := (N, .inl (fun _ => 0))) X.1 X.2.1 (X.word (t := .arrayClass .byte) (tq1 77 rfl) rfl) rfl X.2.2.2.2.2.1 b d c X.2.2.2.2.2.2.1 (fun _ => rfl) hz.1 hz.2.1 (Nat.le_trans (Nat.mul_le_mul hz.2.2 (show componentBytes .byte ≤ 8 by decide)) (by decide)) hR.1 hR.2 hd (fun q c1 H1 hK hP hD hS => by
    have e : c1 = cA 2 := va_K.arr hK (i := 4) (j := 1) rfl rfl (fun C h => by cases h)
    subst e
    rw [hp]
    exact k q H1 locs ls a hP hD hS)
theorem i_new_boolean (X : iC E D cA A cc nL own) {z : Int32} {N : Nat} (hz : ¬ z < 0 ∧ z.toNatClampNeg = N ∧ N ≤ 60000) (hR : nc + 1 ≤ (eR E).cells ∧ ns + N ≤ (eR E).slots) (hd : decode cc pc = .ok (.newarray .boolean, 2)) (hp : pc + 2 = n) (k : ∀ q : Nat, iW E D A nL (V ++ [(q, .inl (cA 3, N, .inl (fun _ => 0)))]) (nc + 1) (ns + N) n L (.ref q :: st)) : iW E D A nL V nc ns pc L (.int z :: st) := fun H locs ls a b d c =>
  va_newa (atype := .boolean) (ty := .boolean) (a0 := (N, .inl (fun _ => 0))) X.1 X.2.1 (X.word (t := .arrayClass .boolean) (tq2 35 rfl) rfl) rfl X.2.2.2.2.2.1 b d c X.2.2.2.2.2.2.1 (fun _ => rfl) hz.1 hz.2.1 (Nat.le_trans (Nat.mul_le_mul hz.2.2 (show componentBytes .boolean ≤ 8 by decide)) (by decide)) hR.1 hR.2 hd (fun q c1 H1 hK hP hD hS => by
    have e : c1 = cA 3 := va_K.arr hK (i := 4) (j := 2) rfl rfl (fun C h => by cases h)
    subst e
    rw [hp]
    exact k q H1 locs ls a hP hD hS)
theorem i_new_long (X : iC E D cA A cc nL own) {z : Int32} {N : Nat} (hz : ¬ z < 0 ∧ z.toNatClampNeg = N ∧ N ≤ 60000) (hR : nc + 1 ≤ (eR E).cells ∧ ns + N ≤ (eR E).slots) (hd : decode cc pc = .ok (.newarray .long, 2)) (hp : pc + 2 = n) (k : ∀ q : Nat, iW E D A nL (V ++ [(q, .inl (cA 4, N, .inr (.inl (fun _ => 0))))]) (nc + 1) (ns + N) n L (.ref q :: st)) : iW E D A nL V nc ns pc L (.int z :: st) := fun H locs ls a b d c =>
  va_newa (atype := .long) (ty := .long) (a0 := (N, .inr (.inl (fun _ => 0)))) X.1 X.2.1 (X.word (t := .arrayClass .long) (tq1 132 rfl) rfl) rfl X.2.2.2.2.2.1 b d c X.2.2.2.2.2.2.1 (fun _ => rfl) hz.1 hz.2.1 (Nat.le_trans (Nat.mul_le_mul hz.2.2 (show componentBytes .long ≤ 8 by decide)) (by decide)) hR.1 hR.2 hd (fun q c1 H1 hK hP hD hS => by
    have e : c1 = cA 4 := va_K.arr hK (i := 4) (j := 3) rfl rfl (fun C h => by cases h)
    subst e
    rw [hp]
    exact k q H1 locs ls a hP hD hS)
/-- a field of the first cell -/
theorem i_put (X : iC E D cA A cc nL own) {h0 ci j idx N : Nat} {C ref : String} {U : u_T} {fs : List Value} {v : Value} {ty : FieldType} (ty0 : Nat → FieldType) (hty : ∀ k, k < N → parseFieldDescriptor (U k).2.2.1 = some (ty0 k)) (hnm : ∀ a, a < N → ∀ b, b < N → a ≠ b → (U a).2.1 ≠ (U b).2.1) (hc : gcl[ci]? = some (C, U, N)) (hj : j < N) (hin : ∀ t ∈ u_ws C U N, t ∈ gT) (hl : Cond.fieldLink own idx ref (U j).2.1 (U j).2.2.1 ∈ lw_tbl) (hr : (U j).1 = ref) (hfin : (U j).2.2.2 = false) (hI : parseFieldDescriptor (U j).2.2.1 = some ty) (hna : narrow ty v = v) (hfit : fits ty v = true) (hlen : j < fs.length) (fs' : List Value) (hfs : fs.set j v = fs') (hd : decode cc pc = .ok (.putfield idx, 3)) (hp : pc + 3 = n) (k : iW E D A nL ((h0, .inr (ci, fs')) :: V) nc ns n L st) : iW E D A nL ((h0, .inr (ci, fs)) :: V) nc ns pc L (v :: .ref h0 :: st) := fun H locs ls a b d c =>
  va_put (ty := ty) X.1 X.2.1 X.2.2.2.2.1 hin ty0 hty hnm X.2.2.2.1 X.2.2.2.2.2.1 b d c 0 rfl hc j hj (X.word hl rfl) (by rw [hr]; exact fun _ z => z) hfin hI hna hfit hlen hd (fun H1 l1 hP hD hS => by subst hfs; rw [hp]; exact k H1 l1 ls a hP hD hS)
theorem i_putF (X : iC E D cA A cc nL own) (hme : (eMe E).name = "<init>") {h0 ci j idx N : Nat} {C ref : String} {U : u_T} {fs : List Value} {v : Value} {ty : FieldType} (ty0 : Nat → FieldType) (hty : ∀ k, k < N → parseFieldDescriptor (U k).2.2.1 = some (ty0 k)) (hnm : ∀ a, a < N → ∀ b, b < N → a ≠ b → (U a).2.1 ≠ (U b).2.1) (hc : gcl[ci]? = some (C, U, N)) (hj : j < N) (hin : ∀ t ∈ u_ws C U N, t ∈ gT) (hl : Cond.fieldLink own idx ref (U j).2.1 (U j).2.2.1 ∈ lw_tbl) (hr : (U j).1 = ref) (hfin : (U j).2.2.2 = true) (hdecl : (U j).1 = own) (hI : parseFieldDescriptor (U j).2.2.1 = some ty) (hna : narrow ty v = v) (hfit : fits ty v = true) (hlen : j < fs.length) (fs' : List Value) (hfs : fs.set j v = fs') (hd : decode cc pc = .ok (.putfield idx, 3)) (hp : pc + 3 = n) (k : iW E D A nL ((h0, .inr (ci, fs')) :: V) nc ns n L st) : iW E D A nL ((h0, .inr (ci, fs)) :: V) nc ns pc L (v :: .ref h0 :: st) := fun H locs ls a b d c =>
  va_putF (ty := ty) X.1 X.2.1 X.2.2.2.2.1 hin ty0 hty hnm X.2.2.2.1 X.2.2.2.2.2.1 b d c 0 rfl hc j hj (X.word hl rfl) (by rw [hr]; exact fun _ z => z) hfin hme hdecl hI hna hfit hlen hd (fun H1 l1 hP hD hS => by subst hfs; rw [hp]; exact k H1 l1 ls a hP hD hS)
theorem i_get (X : iC E D cA A cc nL own) {h0 ci j idx N : Nat} {C ref : String} {U : u_T} {fs : List Value} {v : Value} (hc : gcl[ci]? = some (C, U, N)) (hj : j < N) (hv : fs[j]? = some v) (hin : ∀ t ∈ u_ws C U N, t ∈ gT) (hl : Cond.fieldLink own idx ref (U j).2.1 (U j).2.2.1 ∈ lw_tbl) (hr : (U j).1 = ref) (hd : decode cc pc = .ok (.getfield idx, 3)) (hp : pc + 3 = n) (k : iW E D A nL ((h0, .inr (ci, fs)) :: V) nc ns n L (v :: st)) : iW E D A nL ((h0, .inr (ci, fs)) :: V) nc ns pc L (.ref h0 :: st) := fun H locs ls a b d c =>
  va_get X.1 X.2.1 X.2.2.2.2.1 hin X.2.2.2.1 X.2.2.2.2.2.1 b 0 rfl hc j hj (X.word hl rfl) (by rw [hr]; exact fun _ z => z) hv hd (by rw [hp]; exact k H locs ls a b d c)
/-- a store into the row made last -/
theorem i_iastL (X : iC E D cA A cc nL own) {q N : Nat} {f : Nat → Int32} {i x : Int32} (hi : vp_in i N) (hd : decode cc pc = .ok (.iastore, 1)) (hp : pc + 1 = n) (k : iW E D A nL (V ++ [(q, .inl (cA 1, N, .inl (upd f i.toNatClampNeg x)))]) nc ns n L st) : iW E D A nL (V ++ [(q, .inl (cA 1, N, .inl f))]) nc ns pc L (.int x :: .int i :: .ref q :: st) := fun H locs ls a b d c =>
  va_iast (a := q) (cA := cA 1) (n := N) (f := f) X.1 X.2.1 X.2.2.2.2.2.1 b d c V.length 0 (by simp) rfl hi hd (fun H1 l1 hP hD hS => by
    rw [List.set_append_right _ _ (Nat.le_refl _), Nat.sub_self] at hP hD
    rw [hp]
    exact k H1 l1 ls a hP hD hS)
theorem i_alen1 (X : iC E D cA A cc nL own) {q N : Nat} {f : Nat → Int32} (hd : decode cc pc = .ok (.arraylength, 1)) (hp : pc + 1 = n) (k : iW E D A nL [(q, .inl (cA 1, N, .inl f))] nc ns n L (.int (nI N) :: st)) : iW E D A nL [(q, .inl (cA 1, N, .inl f))] nc ns pc L (.ref q :: st) := fun H locs ls a b d c =>
  va_alen X.1 X.2.1 X.2.2.2.2.2.1 b 0 0 rfl rfl rfl hd (by rw [hp]; exact k H locs ls a b d c)
theorem i_join {c0 : Nat × va_E} {w1 : va_W} {H H1 : Heap} (hP : va_P D gcl (V ++ [c0]) H) (hD : va_D A (V ++ [c0])) (hk : ∀ q : Nat, q < H.size → ¬ va_A [c0] H.size q → H1[q]? = H[q]?) (hF : ∀ q, va_A [c0] H.size q → A q) (hP1 : va_P D gcl w1 H1) (hD1 : va_D (va_A [c0] H.size) w1) : va_P D gcl (V ++ w1) H1 ∧ va_D A (V ++ w1) := by
  have hin : ∀ (k : Nat) (q : Nat × va_E), V[k]? = some q → (V ++ [c0])[k]? = some q ∧ k < V.length := by
    intro k q hq
    have hl := (List.getElem?_eq_some_iff.mp hq).1
    exact ⟨by rw [List.getElem?_append_left hl]; exact hq, hl⟩
  have apart : ∀ (k : Nat) (q : Nat × va_E), V[k]? = some q → q.1 < H.size ∧ ¬ va_A [c0] H.size q.1 := by
    intro k q hq
    obtain ⟨h1, h2⟩ := hin k q hq
    have hl := (hP k q h1).lt
    refine ⟨hl, fun h => ?_⟩
    rcases h with ⟨j, e, h⟩ | h
    · have hj : j = 0 := by have := (List.getElem?_eq_some_iff.mp h).1; simp at this; exact this
      subst hj
      have h3 : c0 = (q.1, e) := by simpa using h
      have h4 : (V ++ [c0])[V.length]? = some c0 := by simp
      have := hD.1 k V.length q c0 h1 h4 (by rw [h3])
      omega
    · omega
  refine ⟨va_P.app (fun k q hq => (hP k q (hin k q hq).1).kept (hk q.1 (apart k q hq).1 (apart k q hq).2)) hP1, va_D.app ⟨fun i j x y hx hy e => hD.1 i j x y (hin i x hx).1 (hin j y hy).1 e, fun k q hq => hD.2 k q (hin k q hq).1⟩ (hD1.weaken (fun _ q _ h => hF q.1 h)) (fun i j x y hx hy e => (apart i x hx).2 (by rw [e]; exact hD1.2 j y hy))⟩
theorem i_free {c0 : Nat × va_E} {H : Heap} {locs : List Loc} (X : iC E D cA A cc nL own) (hD : va_D A (V ++ [c0])) (hS : va_S A (eS E).heap H locs) : ∀ q, va_A [c0] H.size q → A q := by
  intro q h
  rcases h with ⟨j, e, h⟩ | h
  · have hj : j = 0 := by have := (List.getElem?_eq_some_iff.mp h).1; simp at this; exact this
    subst hj
    have h3 : c0 = (q, e) := by simpa using h
    have h4 : (V ++ [c0])[V.length]? = some c0 := by simp
    have := hD.2 V.length c0 h4
    rw [h3] at this
    exact this
  · exact X.2.2.2.2.2.2.1 q (Nat.le_trans hS.1 h)
/-- new C(): a cell, then its constructor -/
theorem i_new (X : iC E D cA A cc nL own) {ci idx idx2 N : Nat} {y : MethodName} {U : u_T} {bytes : ByteArray} {R1 : Room} {fs0 : List Value} {wsC : Nat → (Nat → Nat) → va_W} {n2 n3 mc ms : Nat} (ty0 : Nat → FieldType) (hty : ∀ k, k < N → parseFieldDescriptor (U k).2.2.1 = some (ty0 k)) (hin : ∀ t ∈ u_ws y.cls U N, t ∈ gT) (hc : gcl[ci]? = some (y.cls, U, N)) (hfs : ∀ j, j < N → defaultValue (ty0 j) = vp_V fs0 j) (hM : ∀ h0 sz, iM (eL E) D cA y bytes R1 ci fs0 wsC h0 sz) (hcl : Cond.classLink own idx y.cls ∈ lw_tbl) (hins : Cond.instantiable y.cls N ∈ lw_tbl) (hini : Cond.initialized y.cls ∈ lw_tbl) (hcode : Cond.code y bytes 1 none ∈ lw_tbl) (him : Cond.instanceMethod y ∈ lw_tbl) (hyn : y.name = "<init>") (hyd : y.cls ≠ "java/lang/invoke/MethodHandle" ∧ y.cls ≠ "java/lang/invoke/VarHandle" ∧ (parseMethodDescriptor y.desc).map (fun d => d.parameters.length) = some 0)
    (hl : Cond.methodLink own idx2 y ∈ lw_tbl ∨ ∃ host, va_Nw (.methodLinkNest own idx2 y host) (eS E)) (hmc : R1.cells = mc) (hms : R1.slots = ms) (hR : nc + 1 + mc ≤ (eR E).cells ∧ ns + N + ms ≤ (eR E).slots ∧ R1.frames + 1 ≤ (eR E).frames ∧ 20 + R1.locals ≤ (eR E).locals) (hd : decode cc pc = .ok (.new idx, 3)) (h1 : pc + 3 = n2) (hd2 : decode cc n2 = .ok (.dup, 1)) (h2 : n2 + 1 = n3) (hd3 : decode cc n3 = .ok (.invokespecial idx2, 3)) (h3 : n3 + 3 = n) (hw : ∀ q : Nat, ((Value.ref q :: st).map fun v => v.category).sum ≤ 8)
    (k : ∀ (q : Nat) (u : Nat → Nat), iW E D A nL (V ++ wsC q u) (nc + 1 + mc) (ns + N + ms) n L (.ref q :: st)) : iW E D A nL V nc ns pc L st := by
  intro H locs ls a b d c
  subst hmc
  subst hms
  refine va_new (fs := fs0) X.1 X.2.1 X.2.2.2.2.1 hin ty0 hty X.2.2.2.1 (X.word hcl rfl) (X.word hins rfl) (X.word hini rfl) X.2.2.2.2.2.1 b d c X.2.2.2.2.2.2.1 hc hfs (by omega) (by omega) hd (fun q H1 hP hD hS => ?_)
  rw [h1]
  refine lv_dup X.1 X.2.1 hd2 rfl ?_
  rw [h2]
  have hF := i_free X hD hS
  have hpre : PreS (eS E) H1 (va_Pc [.ref q] (iPre D cA q ci fs0 H1.size)) [.ref q] := ⟨iM_blind, fun W1 hU hW => ⟨rfl, by rw [hU], by rw [hU]; intro j z hz; exact hP (V.length + j) z (by rw [List.getElem?_append_right (by omega)]; simpa using hz), va_K.moved hW.alike X.2.2.2.2.2.1, ⟨fun i j x y1 hi hj e => (by have h5 := (List.getElem?_eq_some_iff.mp hi).1; have h6 := (List.getElem?_eq_some_iff.mp hj).1; simp at h5 h6; omega), fun _ _ _ => trivial⟩, iN.warm hW X.2.2.2.2.2.2.2⟩⟩
  have hrun : va_Run (eP E) (eL E) (eE E) (eR E) (eS E) (eM E) (eA E) (eB E) (eMe E) (eC E) H1 locs (nc + 1) (ns + N) R1.cells R1.slots (F0 (eM E) n3 ls (.ref q :: .ref q :: st)) (.ref q :: st) (va_Qv (fun _ : Nat → Nat => True) (fun u t => va_P D gcl (wsC q u) t.heap ∧ va_D (va_A [(q, .inr (ci, fs0))] H1.size) (wsC q u)) (va_A [(q, .inr (ci, fs0))] H1.size) [Value.ref q].toArray) (va_A [(q, .inr (ci, fs0))] H1.size) := by
    rcases hl with hl | ⟨host, hl⟩
    · exact va_runI (As := []) (rest := .ref q :: st) (Ts := gT) ⟨X.1, X.2.1, X.2.2.1, X.2.2.2.1, X.2.2.2.2.1⟩ (hM q H1.size) ⟨callB_of 0 X.2.2.2.2.1 (gGood _ _ _ _ hcode) rfl rfl rfl (X.word hini rfl) (X.word hl rfl) hyd ⟨by omega, by omega⟩, hyn, X.word him rfl⟩ hpre rfl rfl a.1 rfl (lv_room (hw q)) hd3 ⟨by omega, by omega⟩
    · exact va_runIN (As := []) (rest := .ref q :: st) (Ts := gT) ⟨X.1, X.2.1, X.2.2.1, X.2.2.2.1, X.2.2.2.2.1⟩ (hM q H1.size) ⟨va_cnB 0 X.2.2.2.2.1 (gGood _ _ _ _ hcode) rfl rfl rfl hl (X.word hini rfl) hyd ⟨by omega, by omega⟩, hyn, X.word him rfl⟩ hpre rfl rfl a.1 rfl (lv_room (hw q)) hd3 ⟨by omega, by omega⟩
  refine va_callv hrun hS (fun x _ h => hF x h) hF (fun u t H2 l2 ht hvm _ hB hz1 hk1 hS2 => ?_)
  obtain ⟨hP1, hD1⟩ := hB
  rw [ht] at hP1
  obtain ⟨hP2, hD2⟩ := i_join hP hD hk1 hF hP1 hD1
  rw [h3]
  exact k q u H2 l2 ls a hP2 hD2 hS2
end I
section J
variable {E : gE} {D : va_G} {cA : Nat → ClassId} {A : Nat → Prop} {cc : ByteArray} {nL : Nat} {own : String} {V : va_W} {c0 : Nat × va_E} {nc ns pc n : Nat} {L L' : List (Option Value)} {st : List Value}
theorem j_new_int (X : iC E D cA A cc nL own) {z : Int32} {N : Nat} (hz : ¬ z < 0 ∧ z.toNatClampNeg = N ∧ N ≤ 60000) (hR : nc + 1 ≤ (eR E).cells ∧ ns + N ≤ (eR E).slots) (hd : decode cc pc = .ok (.newarray .int, 2)) (hp : pc + 2 = n) (k : ∀ q : Nat, iW E D A nL (c0 :: (V ++ [(q, .inl (cA 1, N, .inl (fun _ => 0)))])) (nc + 1) (ns + N) n L (.ref q :: st)) : iW E D A nL (c0 :: V) nc ns pc L (.int z :: st) := i_new_int X hz hR hd hp (fun q => k q)
theorem j_new_byte (X : iC E D cA A cc nL own) {z : Int32} {N : Nat} (hz : ¬ z < 0 ∧ z.toNatClampNeg = N ∧ N ≤ 60000) (hR : nc + 1 ≤ (eR E).cells ∧ ns + N ≤ (eR E).slots) (hd : decode cc pc = .ok (.newarray .byte, 2)) (hp : pc + 2 = n) (k : ∀ q : Nat, iW E D A nL (c0 :: (V ++ [(q, .inl (cA 2, N, .inl (fun _ => 0)))])) (nc + 1) (ns + N) n L (.ref q :: st)) : iW E D A nL (c0 :: V) nc ns pc L (.int z :: st) := i_new_byte X hz hR hd hp (fun q => k q)
theorem j_new_boolean (X : iC E D cA A cc nL own) {z : Int32} {N : Nat} (hz : ¬ z < 0 ∧ z.toNatClampNeg = N ∧ N ≤ 60000) (hR : nc + 1 ≤ (eR E).cells ∧ ns + N ≤ (eR E).slots) (hd : decode cc pc = .ok (.newarray .boolean, 2)) (hp : pc + 2 = n) (k : ∀ q : Nat, iW E D A nL (c0 :: (V ++ [(q, .inl (cA 3, N, .inl (fun _ => 0)))])) (nc + 1) (ns + N) n L (.ref q :: st)) : iW E D A nL (c0 :: V) nc ns pc L (.int z :: st) := i_new_boolean X hz hR hd hp (fun q => k q)
theorem j_new_long (X : iC E D cA A cc nL own) {z : Int32} {N : Nat} (hz : ¬ z < 0 ∧ z.toNatClampNeg = N ∧ N ≤ 60000) (hR : nc + 1 ≤ (eR E).cells ∧ ns + N ≤ (eR E).slots) (hd : decode cc pc = .ok (.newarray .long, 2)) (hp : pc + 2 = n) (k : ∀ q : Nat, iW E D A nL (c0 :: (V ++ [(q, .inl (cA 4, N, .inr (.inl (fun _ => 0))))])) (nc + 1) (ns + N) n L (.ref q :: st)) : iW E D A nL (c0 :: V) nc ns pc L (.int z :: st) := i_new_long X hz hR hd hp (fun q => k q)
theorem j_iastL (X : iC E D cA A cc nL own) {q N : Nat} {f : Nat → Int32} {i x : Int32} (hi : vp_in i N) (hd : decode cc pc = .ok (.iastore, 1)) (hp : pc + 1 = n) (k : iW E D A nL (c0 :: (V ++ [(q, .inl (cA 1, N, .inl (upd f i.toNatClampNeg x)))])) nc ns n L st) : iW E D A nL (c0 :: (V ++ [(q, .inl (cA 1, N, .inl f))])) nc ns pc L (.int x :: .int i :: .ref q :: st) := i_iastL (V := c0 :: V) X hi hd hp k
theorem j_new (X : iC E D cA A cc nL own) {ci idx idx2 N : Nat} {y : MethodName} {U : u_T} {bytes : ByteArray} {R1 : Room} {fs0 : List Value} {wsC : Nat → (Nat → Nat) → va_W} {n2 n3 mc ms : Nat} (ty0 : Nat → FieldType) (hty : ∀ k, k < N → parseFieldDescriptor (U k).2.2.1 = some (ty0 k)) (hin : ∀ t ∈ u_ws y.cls U N, t ∈ gT) (hc : gcl[ci]? = some (y.cls, U, N)) (hfs : ∀ j, j < N → defaultValue (ty0 j) = vp_V fs0 j) (hM : ∀ h0 sz, iM (eL E) D cA y bytes R1 ci fs0 wsC h0 sz) (hcl : Cond.classLink own idx y.cls ∈ lw_tbl) (hins : Cond.instantiable y.cls N ∈ lw_tbl) (hini : Cond.initialized y.cls ∈ lw_tbl) (hcode : Cond.code y bytes 1 none ∈ lw_tbl) (him : Cond.instanceMethod y ∈ lw_tbl) (hyn : y.name = "<init>") (hyd : y.cls ≠ "java/lang/invoke/MethodHandle" ∧ y.cls ≠ "java/lang/invoke/VarHandle" ∧ (parseMethodDescriptor y.desc).map (fun d => d.parameters.length) = some 0)
    (hl : Cond.methodLink own idx2 y ∈ lw_tbl ∨ ∃ host, va_Nw (.methodLinkNest own idx2 y host) (eS E)) (hmc : R1.cells = mc) (hms : R1.slots = ms) (hR : nc + 1 + mc ≤ (eR E).cells ∧ ns + N + ms ≤ (eR E).slots ∧ R1.frames + 1 ≤ (eR E).frames ∧ 20 + R1.locals ≤ (eR E).locals) (hd : decode cc pc = .ok (.new idx, 3)) (h1 : pc + 3 = n2) (hd2 : decode cc n2 = .ok (.dup, 1)) (h2 : n2 + 1 = n3) (hd3 : decode cc n3 = .ok (.invokespecial idx2, 3)) (h3 : n3 + 3 = n) (hw : ∀ q : Nat, ((Value.ref q :: st).map fun v => v.category).sum ≤ 8)
    (k : ∀ (q : Nat) (u : Nat → Nat), iW E D A nL (c0 :: (V ++ wsC q u)) (nc + 1 + mc) (ns + N + ms) n L (.ref q :: st)) : iW E D A nL (c0 :: V) nc ns pc L st := i_new X ty0 hty hin hc hfs hM hcl hins hini hcode him hyn hyd hl hmc hms hR hd h1 hd2 h2 hd3 h3 hw (fun q u => k q u)
end J
def fil (f : Nat → Int32) (m : Nat) (v : Int32) : Nat → Int32 := fun j => if j < m then v else f j
def fPre (D : va_G) (cA : Nat → ClassId) (q N : Nat) (f : Nat → Int32) (sz : Nat) (U : State) : Prop := U.heap.size = sz ∧ va_P D gcl [(q, .inl (cA 1, N, .inl f))] U.heap ∧ va_K D gcl (itys cA) U ∧ iN U
theorem fil_upd {f : Nat → Int32} {j : Nat} {v : Int32} : upd (fil f j v) j v = fil f (j + 1) v := by
  funext i
  simp only [upd, fil]
  by_cases h1 : i = j
  · subst h1; simp
  · by_cases h2 : i < j
    · simp [h1, h2, Nat.lt_succ_of_lt h2]
    · have : ¬ i < j + 1 := by omega
      simp [h1, h2, this]
theorem c_fill {l : Launch} {D : va_G} {cA : Nat → ClassId} {q N : Nat} (hN : N < 1000) {f : Nat → Int32} {v : Int32} {sz : Nat} : Met l yJ7_fill_53178 (gWs yJ7_fill_53178 cJ7_fill_53178 4 none) (rmh 1) (va_Pc [.ref q, .int v] (fPre D cA q N f sz)) (va_Qv (fun _ : Unit => True) (fun _ t => va_P D gcl [(q, .inl (cA 1, N, .inl (fil f N v)))] t.heap) (va_A [(q, .inl (cA 1, N, .inl f))] sz)) 0 0 (va_A [(q, .inl (cA 1, N, .inl f))] sz) := by
  refine Met.ofW (cc := cJ7_fill_53178) (maxL := 4) (ret := none) (by decide) rfl ?_
  intro p e s m args below meth c s₁ B hml hv
  obtain ⟨rfl, hsz, hP, hK, hNs⟩ := hv
  have hts := atoms_spec (ws := gWs yJ7_fill_53178 cJ7_fill_53178 4 none) B.pre
  subst hsz
  rw [lg_entry_eq]
  obtain ⟨A, hAe⟩ : ∃ A, A = va_A [(q, .inl (cA 1, N, .inl f))] s.heap.size := ⟨_, rfl⟩
  rw [← hAe]
  let E : gE := (p, l, e, rmh 1, s, m, [Value.ref q, .int v].toArray, below, meth, c, 0, 0, MQ below (va_Qv (fun _ : Unit => True) (fun _ t => va_P D gcl [(q, .inl (cA 1, N, .inl (fil f N v)))] t.heap) A) [Value.ref q, .int v].toArray s 0 0 A)
  have X : iC E D cA A cJ7_fill_53178 4 RJ7 := ⟨B.exec, B.bytes, hml, findClass_of_methodNamed B.named, fun t ht => hts t (List.mem_cons_of_mem _ ht), hK, fun q hq => by rw [hAe]; exact Or.inr hq, hNs⟩
  have hAq : A q := by rw [hAe]; exact Or.inl ⟨0, _, rfl⟩
  have loop : ∀ (k j : Nat), j + k = N → iW E D A 4 [(q, .inl (cA 1, N, .inl (fil f j v)))] 0 0 5 [some (.ref q), some (.int v), some (.int (nI j)), some (.int (nI N))] [] := by
    intro k
    induction k with
    | zero =>
      intro j hj
      refine i_iload_n X dJ7_fill_53178_5 rfl rfl ?_
      refine i_iload_n X dJ7_fill_53178_6 rfl rfl ?_
      refine i_icmp_ge X dJ7_fill_53178_7 (tgt := 20) rfl rfl (fun _ => ?_) (fun c => absurd (nI_le (by omega) (by omega)) c)
      intro H locs ls a b d c1
      have : j = N := by omega
      subst this
      exact W.vret B.exec B.bytes B.returns (fun t ht hW => ⟨⟨(), rfl, trivial, by have h9 := b; rw [← ht] at h9; exact h9⟩, c1.F ht⟩) c1.2.2 dJ7_fill_53178_20 B.notSynchronized
    | succ k ih =>
      intro j hj
      refine i_iload_n X dJ7_fill_53178_5 rfl rfl ?_
      refine i_iload_n X dJ7_fill_53178_6 rfl rfl ?_
      refine i_icmp_ge X dJ7_fill_53178_7 (tgt := 20) rfl rfl (fun c => absurd c (nI_ge (by omega) (by omega))) (fun _ => ?_)
      refine i_aload_n X dJ7_fill_53178_10 rfl rfl ?_
      refine i_iload_n X dJ7_fill_53178_11 rfl rfl ?_
      refine i_iload_n X dJ7_fill_53178_12 rfl rfl ?_
      refine i_iastL (V := []) X (vp_in_nI (by omega) (by omega)) dJ7_fill_53178_13 rfl ?_
      rw [nI_clamp (by omega), fil_upd]
      refine i_iinc X [some (.ref q), some (.int v), some (.int (nI (j + 1))), some (.int (nI N))] dJ7_fill_53178_14 rfl (by rw [nI_succ]; exact ii_1 _) (Nat.le_of_ble_eq_true rfl) rfl rfl rfl ?_
      refine i_goto X dJ7_fill_53178_17 (tgt := 5) rfl ?_
      exact ih (j + 1) (by omega)
  have start : iW E D A 4 [(q, .inl (cA 1, N, .inl f))] 0 0 0 [some (.ref q), some (.int v)] [] := by
    refine i_iconst X kI_0 dJ7_fill_53178_0 rfl ?_
    refine i_istore_n X [some (.ref q), some (.int v), some (.int 0)] dJ7_fill_53178_1 (Nat.le_of_ble_eq_true rfl) rfl rfl rfl ?_
    refine i_aload_n X dJ7_fill_53178_2 rfl rfl ?_
    refine i_alen1 X dJ7_fill_53178_3 rfl ?_
    refine i_istore_n X [some (.ref q), some (.int v), some (.int 0), some (.int (nI N))] dJ7_fill_53178_4 (Nat.le_of_ble_eq_true rfl) rfl rfl rfl ?_
    have h0 := loop N 0 (by omega)
    have e0 : fil f 0 v = f := by funext i; simp [fil]
    rw [e0] at h0
    exact h0
  exact start s.heap [] _ (lv_entry [.ref q, .int v] (n := 4) (Nat.le_of_ble_eq_true rfl)) hP (by
    refine ⟨fun i j x y1 hi hj e => ?_, fun k z hz => ?_⟩
    · have h5 := (List.getElem?_eq_some_iff.mp hi).1
      have h6 := (List.getElem?_eq_some_iff.mp hj).1
      simp at h5 h6
      omega
    · have h5 := (List.getElem?_eq_some_iff.mp hz).1
      simp at h5
      subst h5
      cases hz
      exact hAq) va_S.rf
/-- Arrays.fill on a row of the world -/
theorem i_fill {E : gE} {D : va_G} {cA : Nat → ClassId} {A : Nat → Prop} {cc : ByteArray} {nL : Nat} {own : String} {V V' : va_W} {nc ns pc n : Nat} {L : List (Option Value)} {st : List Value} (X : iC E D cA A cc nL own) {i q N idx : Nat} {f : Nat → Int32} {v : Int32} (hN : N < 1000) (hi : V[i]? = some (q, .inl (cA 1, N, .inl f))) (hV : V.set i (q, .inl (cA 1, N, .inl (fil f N v))) = V') (hl : Cond.methodLink own idx yJ7_fill_53178 ∈ lw_tbl) (hR : 2 ≤ (eR E).frames ∧ 100 ≤ (eR E).locals ∧ nc ≤ (eR E).cells ∧ ns ≤ (eR E).slots) (hd : decode cc pc = .ok (.invokestatic idx, 3)) (hp : pc + 3 = n) (hw : (st.map fun v => v.category).sum ≤ 8) (k : iW E D A nL V' nc ns n L st) : iW E D A nL V nc ns pc L (.int v :: .ref q :: st) := by
  intro H locs ls a b d c
  have hcell : va_P D gcl [(q, .inl (cA 1, N, .inl f))] H := by
    intro j z hz
    have h5 := (List.getElem?_eq_some_iff.mp hz).1
    simp at h5
    subst h5
    cases hz
    exact b i _ hi
  have hF : ∀ x, va_A [(q, .inl (cA 1, N, .inl f))] H.size x → A x := by
    intro x h
    rcases h with ⟨j, e, h⟩ | h
    · have h5 := (List.getElem?_eq_some_iff.mp h).1
      simp at h5
      subst h5
      cases h
      exact d.2 i _ hi
    · exact X.2.2.2.2.2.2.1 x (Nat.le_trans c.1 h)
  refine va_callv (va_runS (As := [.ref q, .int v]) (rest := st) (Ts := gT) ⟨X.1, X.2.1, X.2.2.1, X.2.2.2.1, X.2.2.2.2.1⟩ (c_fill (D := D) (cA := cA) (q := q) (f := f) (v := v) (sz := H.size) hN) ⟨callB_of 2 X.2.2.2.2.1 (gGood _ _ _ _ my_yJ7_fill_53178.1) rfl rfl rfl (X.word my_yJ7_fill_53178.2.1 rfl) (X.word hl rfl) my_yJ7_fill_53178.2.2.1 (by show 1 + 1 ≤ _ ∧ 8 + (4 + 11) + 64 * 1 ≤ _; omega), X.word mt_yJ7_fill_53178 rfl⟩ ⟨fun a U g mk z => by obtain ⟨q0, q1, qP, qK, qN⟩ := z; exact ⟨q0, q1, qP, va_K.moved (u := U) (U := U.calling g mk a) (Vm.Alike.refl U.vm) qK, iN.same (u := U) (U := U.calling g mk a) rfl qN⟩, fun U hU hW => ⟨rfl, by rw [hU], by rw [hU]; exact hcell, va_K.moved hW.alike X.2.2.2.2.2.1, iN.warm hW X.2.2.2.2.2.2.2⟩⟩ rfl rfl a.1 rfl (lv_room hw) hd ⟨by omega, by omega⟩) c (fun x _ h => hF x h) hF (fun u t H1 l1 ht hvm _ hB hz1 hk1 hS => ?_)
  rw [ht] at hB
  have hlV := (List.getElem?_eq_some_iff.mp hi).1
  have hP1 : va_P D gcl (V.set i (q, .inl (cA 1, N, .inl (fil f N v)))) H1 := by
    intro j z hz
    by_cases hj : j = i
    · subst hj
      rw [List.getElem?_set_self hlV] at hz
      cases hz
      exact hB 0 _ rfl
    · rw [List.getElem?_set_ne (Ne.symm hj)] at hz
      have hlt := (b j z hz).lt
      refine (b j z hz).kept (hk1 z.1 hlt (fun h => ?_))
      rcases h with ⟨j2, e, h⟩ | h
      · have h5 := (List.getElem?_eq_some_iff.mp h).1
        simp at h5
        subst h5
        have h6 : z.1 = q := by simpa using (congrArg Prod.fst (Option.some.inj h)).symm
        exact hj (d.1 j i z _ hz hi h6)
      · omega
  have hD1 := d.set (e := .inl (cA 1, N, .inl (fil f N v))) hi
  rw [hV] at hP1 hD1
  rw [hp]
  exact k H1 l1 ls a hP1 hD1 hS
