/-! the locals by their places -/
def la : List (Option Value) → Nat → Option Value
  | [], _ => none
  | x :: _, 0 => x
  | _ :: t, n + 1 => la t n
def lset : List (Option Value) → Nat → Option Value → List (Option Value)
  | [], 0, v => [v]
  | [], n + 1, v => none :: lset [] n v
  | _ :: t, 0, v => v :: t
  | x :: t, n + 1, v => x :: lset t n v
def lzi : Nat → List (Option Value) → List (Nat × Value)
  | _, [] => []
  | i, none :: t => lzi (i + 1) t
  | i, some v :: t => (i, v) :: lzi (i + 1) t
theorem lzi_mem {q : Nat × Value} : ∀ {L : List (Option Value)} {i : Nat}, q ∈ lzi i L ↔ ∃ j, q.1 = i + j ∧ la L j = some q.2
  | [], i => by simp [lzi, la]
  | none :: t, i => by
    rw [lzi, lzi_mem (L := t)]
    constructor
    · rintro ⟨j, h1, h2⟩
      exact ⟨j + 1, by omega, h2⟩
    · rintro ⟨j, h1, h2⟩
      cases j with
      | zero => simp [la] at h2
      | succ j => exact ⟨j, by omega, h2⟩
  | some v :: t, i => by
    rw [lzi, List.mem_cons, lzi_mem (L := t)]
    constructor
    · rintro (h | ⟨j, h1, h2⟩)
      · exact ⟨0, by rw [h]; rfl, by rw [h]; rfl⟩
      · exact ⟨j + 1, by omega, h2⟩
    · rintro ⟨j, h1, h2⟩
      cases j with
      | zero =>
        left
        have h3 : v = q.2 := by simpa [la] using h2
        exact Prod.ext (by simpa using h1) h3.symm
      | succ j => exact Or.inr ⟨j, by omega, h2⟩
theorem lz_mem {q : Nat × Value} {L : List (Option Value)} : q ∈ lzi 0 L ↔ la L q.1 = some q.2 := by
  rw [lzi_mem]
  constructor
  · rintro ⟨j, h1, h2⟩
    have : q.1 = j := by omega
    rw [this]; exact h2
  · intro h
    exact ⟨q.1, by omega, h⟩
theorem la_lset_self : ∀ {L : List (Option Value)} {i : Nat} {v : Option Value}, la (lset L i v) i = v
  | [], 0, v => rfl
  | [], n + 1, v => la_lset_self (L := []) (i := n)
  | _ :: t, 0, v => rfl
  | x :: t, n + 1, v => la_lset_self (L := t) (i := n)
theorem la_nil (i : Nat) : la [] i = none := by cases i <;> rfl
theorem la_lset_ne : ∀ {L : List (Option Value)} {i j : Nat} {v : Option Value}, j ≠ i → la (lset L i v) j = la L j
  | [], 0, 0, v, h => absurd rfl h
  | [], 0, j + 1, v, h => by simp [lset, la, la_nil]
  | [], n + 1, 0, v, h => rfl
  | [], n + 1, j + 1, v, h => by
    show la (lset [] n v) j = _
    rw [la_lset_ne (by omega)]
    simp [la, la_nil]
  | _ :: t, 0, 0, v, h => absurd rfl h
  | _ :: t, 0, j + 1, v, h => rfl
  | x :: t, n + 1, 0, v, h => rfl
  | x :: t, n + 1, j + 1, v, h => by
    show la (lset t n v) j = la t j
    exact la_lset_ne (by omega)
def lvh (ls : Array Slot) (nL : Nat) (L : List (Option Value)) : Prop := lv_has ls nL (lzi 0 L)
theorem lvh_at {ls : Array Slot} {nL : Nat} {L : List (Option Value)} (h : lvh ls nL L) {i : Nat} {v : Value} (hi : la L i = some v) : ls[i]? = some (.val v) := h.2.2 (i, v) (lz_mem.mpr hi)
/-- the cell before i isn't a long's -/
def lo (L : List (Option Value)) : Nat → Bool
  | 0 => true
  | i + 1 => match la L i with
    | some v => v.category == 1
    | none => true
theorem lo_spec {L : List (Option Value)} {i j : Nat} {v : Value} (h : lo L i = true) (hj : la L j = some v) (e : j + 1 = i) : v.category = 1 := by
  subst e
  simp only [lo, hj] at h
  simpa using h
theorem lvh_set1 {ls : Array Slot} {nL i : Nat} {L : List (Option Value)} {v : Value} (ho : lo L i = true) (h : lv_has ls nL ((i, v) :: (lzi 0 L).filter (fun q => !(q.1 == i) && !(q.1 + 1 == i && q.2.category == 2)))) : lvh ls nL (lset L i (some v)) := by
  refine ⟨h.1, h.2.1, fun q hq => ?_⟩
  have hq := lz_mem.mp hq
  by_cases hi : q.1 = i
  · rw [hi, la_lset_self] at hq
    refine h.2.2 q ?_
    have : q = (i, v) := Prod.ext hi (Option.some.inj hq).symm
    rw [this]
    exact List.mem_cons_self
  · rw [la_lset_ne hi] at hq
    refine h.2.2 q (List.mem_cons_of_mem _ (List.mem_filter.mpr ⟨lz_mem.mpr hq, ?_⟩))
    by_cases h2 : q.1 + 1 = i
    · simp [hi, lo_spec ho hq h2]
    · simp [hi, h2]
theorem lvh_set2 {ls : Array Slot} {nL i : Nat} {L : List (Option Value)} {v : Value} (ho : lo L i = true) (h : lv_has ls nL ((i, v) :: (lzi 0 L).filter (fun q => !(q.1 == i) && (!(q.1 == i + 1) && !(q.1 + 1 == i && q.2.category == 2))))) : lvh ls nL (lset (lset L i (some v)) (i + 1) none) := by
  refine ⟨h.1, h.2.1, fun q hq => ?_⟩
  have hq := lz_mem.mp hq
  by_cases h1 : q.1 = i + 1
  · rw [h1, la_lset_self] at hq
    cases hq
  · rw [la_lset_ne h1] at hq
    by_cases hi : q.1 = i
    · rw [hi, la_lset_self] at hq
      refine h.2.2 q ?_
      have : q = (i, v) := Prod.ext hi (Option.some.inj hq).symm
      rw [this]
      exact List.mem_cons_self
    · rw [la_lset_ne hi] at hq
      refine h.2.2 q (List.mem_cons_of_mem _ (List.mem_filter.mpr ⟨lz_mem.mpr hq, ?_⟩))
      by_cases h2 : q.1 + 1 = i
      · simp [hi, h1, lo_spec ho hq h2]
      · simp [hi, h1, h2]
/-- fewer locals -/
def lle : List (Option Value) → List (Option Value) → Prop
  | [], _ => True
  | none :: t, L => lle t L.tail
  | some v :: t, L => L.head? = some (some v) ∧ lle t L.tail
theorem lle_spec : ∀ {L' L : List (Option Value)}, lle L' L → ∀ {i : Nat} {v : Value}, la L' i = some v → la L i = some v
  | [], L, _, i, v, h => by simp [la_nil] at h
  | none :: t, L, hl, 0, v, h => by cases h
  | none :: t, L, hl, i + 1, v, h => by
    have := lle_spec (L' := t) (L := L.tail) hl (i := i) h
    cases L with
    | nil => simp [la_nil] at this
    | cons x t' => exact this
  | some z :: t, L, hl, 0, v, h => by
    cases L with
    | nil => cases hl.1
    | cons x t' =>
      have h1 : x = some z := by simpa using hl.1
      rw [h1]; exact h
  | some z :: t, L, hl, i + 1, v, h => by
    have := lle_spec (L' := t) (L := L.tail) hl.2 (i := i) h
    cases L with
    | nil => simp [la_nil] at this
    | cons x t' => exact this
theorem lvh_le {ls : Array Slot} {nL : Nat} {L L' : List (Option Value)} (hl : lle L' L) (h : lvh ls nL L) : lvh ls nL L' :=
  ⟨h.1, h.2.1, fun _ hq => h.2.2 _ (lz_mem.mpr (lle_spec hl (lz_mem.mp hq)))⟩
/-! the machine around a method's walk, in one -/
abbrev gE : Type := Program × Launch × Env × Room × State × MethodId × Array Value × List Frame × Method × Code × Nat × Nat × (State → Prop)
abbrev eP (E : gE) : Program := E.1
abbrev eL (E : gE) : Launch := E.2.1
abbrev eE (E : gE) : Env := E.2.2.1
abbrev eR (E : gE) : Room := E.2.2.2.1
abbrev eS (E : gE) : State := E.2.2.2.2.1
abbrev eM (E : gE) : MethodId := E.2.2.2.2.2.1
abbrev eA (E : gE) : Array Value := E.2.2.2.2.2.2.1
abbrev eB (E : gE) : List Frame := E.2.2.2.2.2.2.2.1
abbrev eMe (E : gE) : Method := E.2.2.2.2.2.2.2.2.1
abbrev eC (E : gE) : Code := E.2.2.2.2.2.2.2.2.2.1
abbrev eCe (E : gE) : Nat := E.2.2.2.2.2.2.2.2.2.2.1
abbrev eSl (E : gE) : Nat := E.2.2.2.2.2.2.2.2.2.2.2.1
abbrev eQ (E : gE) : State → Prop := E.2.2.2.2.2.2.2.2.2.2.2.2
abbrev lenS : List Nat := [3, 4, 3, 3]
abbrev bytS : List (List Int32) := [[101, 110, 100], [100, 101, 97, 108], [111, 110, 101], [116, 119, 111]]
/-- what the world holds beside its cells: a private static of the nest, the String constants, how Strings are kept -/
def gX (w : wT) (U : State) (H : Heap) : Prop := va_Nw (.methodLinkNest RX6 100 yX8_gainOf RX8) U ∧ vk_S 4 lenS bytS w.2.2.2.1 w.2.2.2.2 (inA w) U H ∧ (vk_R RX7 47 "end" (w.2.2.2.1 0) U ∧ vk_R RX7 53 "deal" (w.2.2.2.1 1) U ∧ vk_R RX7 55 "one" (w.2.2.2.1 2) U ∧ vk_R RX7 57 "two" (w.2.2.2.1 3) U) ∧ va_Z "java/lang/String" "COMPACT_STRINGS" "Z" (.int 1) (inA w) U H ∧ va_Zq "jdk/internal/util/Preconditions" "SIOOBE_FORMATTER" "Ljava/util/function/BiFunction;" (inA w) U H
theorem gX.same {w : wT} {u U : State} {H : Heap} (hv : U.vm = u.vm) (h : gX w u H) : gX w U H := by
  have ha : u.vm.Alike U.vm := by rw [hv]; exact Vm.Alike.refl u.vm
  exact ⟨h.1.same rfl hv.symm, h.2.1.moved ha, ⟨h.2.2.1.1.same hv, h.2.2.1.2.1.same hv, h.2.2.1.2.2.1.same hv, h.2.2.1.2.2.2.same hv⟩, h.2.2.2.1.moved ha, h.2.2.2.2.moved ha⟩
theorem gX.warm {w : wT} {s U : State} {H : Heap} (hW : s.WarmedH U.vm) (h : gX w s H) : gX w U H :=
  ⟨h.1.warmM hW, h.2.1.moved hW.alike, ⟨h.2.2.1.1.warm hW, h.2.2.1.2.1.warm hW, h.2.2.1.2.2.1.warm hW, h.2.2.1.2.2.2.warm hW⟩, h.2.2.2.1.moved hW.alike, h.2.2.2.2.moved hW.alike⟩
theorem gX.kept {w : wT} {U : State} {H H1 : Heap} (h : gX w U H) (hq : ∀ a : Nat, a < H.size → ¬ inA w a → H1[a]? = H[a]?) : gX w U H1 := ⟨h.1, h.2.1.kept hq, h.2.2.1, h.2.2.2.1.kept hq, h.2.2.2.2.kept hq⟩
/-- from every machine state that pictures (σ, pc, locals, stack) the walk comes to its end -/
def gW (E : gE) (w : wT) (nL : Nat) (σ : St) (pc : Nat) (L : List (Option Value)) (st : List Value) : Prop :=
  ∀ (H : Heap) (locs : List Loc) (ls : Array Slot), lvh ls nL L → va_P w.2.1 gcl (cw w σ) H → va_S (inA w) (eS E).heap H locs → W (eP E) (eL E) (eE E) (eR E) (eS E) (eM E) (eA E) (eB E) (eMe E) (eC E) H locs (eCe E) (eSl E) (eQ E) (F0 (eM E) pc ls st)
def gC (E : gE) (w : wT) (cc : ByteArray) (nL : Nat) (own : String) (h : Nat) : Prop :=
  (eP E).tables.exec = Jvm.exec ∧ (eC E).code = cc ∧ (eC E).maxLocals = nL ∧ (eS E).vm.findClass own = some (eM E).cls ∧ (∀ t ∈ gT, t.before (eA E) (eS E) = true) ∧ va_K w.2.1 gcl (gtys w) (eS E) ∧ wInj w ∧ gX w (eS E) (eS E).heap ∧ (h ≤ (eR E).frames ∧ 64 * h ≤ (eR E).locals) ∧ eCe E ≤ (eR E).cells ∧ eSl E ≤ (eR E).slots
def Wd (w : wT) (σ : St) (U : State) : Prop := va_P w.2.1 gcl (cw w σ) U.heap ∧ va_K w.2.1 gcl (gtys w) U ∧ gX w U U.heap
def Qw (w : wT) (r : Option Value) (σ' : St) : Array Value → State → Outcome → State → Prop := fun _ st o t => o = .returned r ∧ va_P w.2.1 gcl (cw w σ') t.heap ∧ va_F (inA w) st t
def gWs (y : MethodName) (bytes : ByteArray) (maxL : Nat) (ret : Option FieldType) : List Cond := Cond.code y bytes maxL ret :: gT
def rmh (h : Nat) : Room := { frames := h, cells := 0, slots := 0, locals := 64 * h }
def gM (w : wT) (l : Launch) (y : MethodName) (bytes : ByteArray) (maxL : Nat) (ret : Option FieldType) (h : Nat) (as : List Value) (σ : St) (r : Option Value) (σ' : St) : Prop :=
  Met l y (gWs y bytes maxL ret) (rmh h) (va_Pc as (Wd w σ)) (Qw w r σ') 0 0 (inA w)
def gQ (E : gE) (w : wT) (ret : Option FieldType) (r : Option Value) (σ' : St) : Prop := eQ E = MQ (eB E) (Qw w r σ') (eA E) (eS E) (eCe E) (eSl E) (inA w) ∧ (eMe E).sig.returnType = ret ∧ (eMe E).locks = false
theorem gM_of {w : wT} {l : Launch} {y : MethodName} {bytes : ByteArray} {maxL : Nat} {ret : Option FieldType} {h : Nat} {as : List Value} {σ σ' : St} {r : Option Value} (hi : wInj w) (hy : plainName y.cls = true) (L : List (Option Value)) (hL : lzi 0 L = lv_args 0 as) (hn : (lg_sl as).length ≤ maxL)
    (body : ∀ E : gE, eL E = l → gC E w bytes maxL y.cls h → gQ E w ret r σ' → gW E w maxL σ 0 L []) : gM w l y bytes maxL ret h as σ r σ' := by
  refine Met.ofW (cc := bytes) (maxL := maxL) (ret := ret) hy rfl ?_
  intro p e s m args below meth c s₁ B hml hv
  obtain ⟨rfl, hP, hK, hX⟩ := hv
  have hts := atoms_spec (ws := gWs y bytes maxL ret) B.pre
  have hl := lv_entry as (n := maxL) hn
  rw [lg_entry_eq]
  refine body (p, l, e, rmh h, s, m, as.toArray, below, meth, c, 0, 0, MQ below (Qw w r σ') as.toArray s 0 0 (inA w)) rfl ⟨B.exec, B.bytes, hml, findClass_of_methodNamed B.named, fun t ht => hts t (List.mem_cons_of_mem _ ht), hK, hi, hX, ⟨Nat.le_refl _, Nat.le_refl _⟩, Nat.zero_le _, Nat.zero_le _⟩ ⟨rfl, B.returns, B.notSynchronized⟩ s.heap [] _ ?_ hP va_S.rf
  unfold lvh
  rw [hL]
  exact hl
theorem gM_blind {w : wT} {σ : St} {as : List Value} : FrameBlind (va_Pc as (Wd w σ)) := by
  intro a U g mk hq
  obtain ⟨q0, qP, qK, qX⟩ := hq
  exact ⟨q0, qP, va_K.moved (u := U) (U := U.calling g mk a) (Vm.Alike.refl U.vm) qK, gX.same (u := U) (U := U.calling g mk a) rfl qX⟩
/-- what the tables say of a method -/
def gY (y : MethodName) (bytes : ByteArray) (maxL : Nat) (ret : Option FieldType) (n : Nat) : Prop :=
  Cond.code y bytes maxL ret ∈ lw_tbl ∧ Cond.initialized y.cls ∈ lw_tbl ∧ (y.cls ≠ "java/lang/invoke/MethodHandle" ∧ y.cls ≠ "java/lang/invoke/VarHandle" ∧ (parseMethodDescriptor y.desc).map (fun d => d.parameters.length) = some n) ∧ maxL ≤ 45
theorem gGood (y : MethodName) (bytes : ByteArray) (maxL : Nat) (ret : Option FieldType) (h : Cond.code y bytes maxL ret ∈ lw_tbl) : GoodIn gT (gWs y bytes maxL ret) := by
  intro t ht
  rcases List.mem_cons.mp ht with rfl | ht
  · exact ⟨gT_mem h rfl, Or.inl rfl⟩
  · exact ⟨ht, good_of_word (gT_good t ht)⟩
section G
variable {E : gE} {w : wT} {cc : ByteArray} {nL : Nat} {own : String} {h : Nat} {σ : St} {pc n : Nat} {L L' : List (Option Value)} {st : List Value}
theorem gC.word (X : gC E w cc nL own h) {t : Cond} (ht : t ∈ lw_tbl) (hg : goodWord t = true) : t.before (eA E) (eS E) = true := X.2.2.2.2.1 t (gT_mem ht hg)
theorem g_le (hl : lle L' L) (k : gW E w nL σ pc L' st) : gW E w nL σ pc L st := fun H locs ls a b c => k H locs ls (lvh_le hl a) b c
theorem g_iadd (X : gC E w cc nL own h) {x y : Int32} (hd : decode cc pc = .ok (.iadd, 1)) (hp : pc + 1 = n) (k : gW E w nL σ n L (.int (x + y) :: st)) : gW E w nL σ pc L (.int y :: .int x :: st) := fun H locs ls a b c => lv_iadd X.1 X.2.1 hd  (by rw [hp]; exact k H locs ls a b c)
theorem g_isub (X : gC E w cc nL own h) {x y : Int32} (hd : decode cc pc = .ok (.isub, 1)) (hp : pc + 1 = n) (k : gW E w nL σ n L (.int (x - y) :: st)) : gW E w nL σ pc L (.int y :: .int x :: st) := fun H locs ls a b c => lv_isub X.1 X.2.1 hd  (by rw [hp]; exact k H locs ls a b c)
theorem g_imul (X : gC E w cc nL own h) {x y : Int32} (hd : decode cc pc = .ok (.imul, 1)) (hp : pc + 1 = n) (k : gW E w nL σ n L (.int (x * y) :: st)) : gW E w nL σ pc L (.int y :: .int x :: st) := fun H locs ls a b c => lv_imul X.1 X.2.1 hd  (by rw [hp]; exact k H locs ls a b c)
theorem g_iand (X : gC E w cc nL own h) {x y : Int32} (hd : decode cc pc = .ok (.iand, 1)) (hp : pc + 1 = n) (k : gW E w nL σ n L (.int (x &&& y) :: st)) : gW E w nL σ pc L (.int y :: .int x :: st) := fun H locs ls a b c => lv_iand X.1 X.2.1 hd  (by rw [hp]; exact k H locs ls a b c)
theorem g_ladd (X : gC E w cc nL own h) {x y : Int64} (hd : decode cc pc = .ok (.ladd, 1)) (hp : pc + 1 = n) (k : gW E w nL σ n L (.long (x + y) :: st)) : gW E w nL σ pc L (.long y :: .long x :: st) := fun H locs ls a b c => lv_ladd X.1 X.2.1 hd  (by rw [hp]; exact k H locs ls a b c)
theorem g_lsub (X : gC E w cc nL own h) {x y : Int64} (hd : decode cc pc = .ok (.lsub, 1)) (hp : pc + 1 = n) (k : gW E w nL σ n L (.long (x - y) :: st)) : gW E w nL σ pc L (.long y :: .long x :: st) := fun H locs ls a b c => lv_lsub X.1 X.2.1 hd  (by rw [hp]; exact k H locs ls a b c)
theorem g_lmul (X : gC E w cc nL own h) {x y : Int64} (hd : decode cc pc = .ok (.lmul, 1)) (hp : pc + 1 = n) (k : gW E w nL σ n L (.long (x * y) :: st)) : gW E w nL σ pc L (.long y :: .long x :: st) := fun H locs ls a b c => lv_lmul X.1 X.2.1 hd  (by rw [hp]; exact k H locs ls a b c)
theorem g_land (X : gC E w cc nL own h) {x y : Int64} (hd : decode cc pc = .ok (.land, 1)) (hp : pc + 1 = n) (k : gW E w nL σ n L (.long (x &&& y) :: st)) : gW E w nL σ pc L (.long y :: .long x :: st) := fun H locs ls a b c => lv_land X.1 X.2.1 hd  (by rw [hp]; exact k H locs ls a b c)
theorem g_lor (X : gC E w cc nL own h) {x y : Int64} (hd : decode cc pc = .ok (.lor, 1)) (hp : pc + 1 = n) (k : gW E w nL σ n L (.long (x ||| y) :: st)) : gW E w nL σ pc L (.long y :: .long x :: st) := fun H locs ls a b c => lv_lor X.1 X.2.1 hd  (by rw [hp]; exact k H locs ls a b c)
theorem g_ldiv (X : gC E w cc nL own h) {x y : Int64} (hd : decode cc pc = .ok (.ldiv, 1)) (hne : ¬ y = 0) (hp : pc + 1 = n) (k : gW E w nL σ n L (.long (x / y) :: st)) : gW E w nL σ pc L (.long y :: .long x :: st) := fun H locs ls a b c => lv_ldiv X.1 X.2.1 hd hne (by rw [hp]; exact k H locs ls a b c)
theorem g_lneg (X : gC E w cc nL own h) {x : Int64} (hd : decode cc pc = .ok (.lneg, 1)) (hp : pc + 1 = n) (k : gW E w nL σ n L (.long (-x) :: st)) : gW E w nL σ pc L (.long x :: st) := fun H locs ls a b c => lv_lneg X.1 X.2.1 hd  (by rw [hp]; exact k H locs ls a b c)
theorem g_i2l (X : gC E w cc nL own h) {x : Int32} (hd : decode cc pc = .ok (.i2l, 1)) (hp : pc + 1 = n) (k : gW E w nL σ n L (.long (x.toInt64) :: st)) : gW E w nL σ pc L (.int x :: st) := fun H locs ls a b c => lv_i2l X.1 X.2.1 hd rfl (by rw [hp]; exact k H locs ls a b c)
theorem g_l2i (X : gC E w cc nL own h) {x : Int64} (hd : decode cc pc = .ok (.l2i, 1)) (hp : pc + 1 = n) (k : gW E w nL σ n L (.int (x.toInt32) :: st)) : gW E w nL σ pc L (.long x :: st) := fun H locs ls a b c => lv_l2i X.1 X.2.1 hd rfl (by rw [hp]; exact k H locs ls a b c)
theorem g_i2b (X : gC E w cc nL own h) {x : Int32} (hd : decode cc pc = .ok (.i2b, 1)) (hp : pc + 1 = n) (k : gW E w nL σ n L (.int (x.toInt8.toInt32) :: st)) : gW E w nL σ pc L (.int x :: st) := fun H locs ls a b c => lv_i2b X.1 X.2.1 hd rfl (by rw [hp]; exact k H locs ls a b c)
theorem g_i2s (X : gC E w cc nL own h) {x : Int32} (hd : decode cc pc = .ok (.i2s, 1)) (hp : pc + 1 = n) (k : gW E w nL σ n L (.int (x.toInt16.toInt32) :: st)) : gW E w nL σ pc L (.int x :: st) := fun H locs ls a b c => lv_i2s X.1 X.2.1 hd rfl (by rw [hp]; exact k H locs ls a b c)
theorem g_lushr (X : gC E w cc nL own h) {x : Int64} {y : Int32} (hd : decode cc pc = .ok (.lushr, 1)) (hp : pc + 1 = n) (k : gW E w nL σ n L (.long ((x.toUInt64 >>> (y.toInt64.toUInt64 &&& Int64.toUInt64 63)).toInt64) :: st)) : gW E w nL σ pc L (.int y :: .long x :: st) := fun H locs ls a b c => lv_lushr X.1 X.2.1 hd rfl (by rw [hp]; exact k H locs ls a b c)
theorem g_lshl (X : gC E w cc nL own h) {x : Int64} {y : Int32} (hd : decode cc pc = .ok (.lshl, 1)) (hp : pc + 1 = n) (k : gW E w nL σ n L (.long (x <<< (y.toInt64 &&& 63)) :: st)) : gW E w nL σ pc L (.int y :: .long x :: st) := fun H locs ls a b c => lv_lshl X.1 X.2.1 hd rfl (by rw [hp]; exact k H locs ls a b c)
theorem g_lshr (X : gC E w cc nL own h) {x : Int64} {y : Int32} (hd : decode cc pc = .ok (.lshr, 1)) (hp : pc + 1 = n) (k : gW E w nL σ n L (.long (x >>> (y.toInt64 &&& 63)) :: st)) : gW E w nL σ pc L (.int y :: .long x :: st) := fun H locs ls a b c => lv_lshr X.1 X.2.1 hd rfl (by rw [hp]; exact k H locs ls a b c)
theorem g_iconst (X : gC E w cc nL own h) {z : Int} {v : Int32} (hv : Int32.ofInt z = v) (hd : decode cc pc = .ok (.iconst z, 1)) (hp : pc + 1 = n) (k : gW E w nL σ n L (.int v :: st)) : gW E w nL σ pc L (st) := fun H locs ls a b c => lv_iconst X.1 X.2.1 hd hv (by rw [hp]; exact k H locs ls a b c)
theorem g_bipush (X : gC E w cc nL own h) {z : Int} {v : Int32} (hv : (Int8.ofInt z).toInt32 = v) (hd : decode cc pc = .ok (.bipush z, 2)) (hp : pc + 2 = n) (k : gW E w nL σ n L (.int v :: st)) : gW E w nL σ pc L (st) := fun H locs ls a b c => lv_bipush X.1 X.2.1 hd hv (by rw [hp]; exact k H locs ls a b c)
theorem g_sipush (X : gC E w cc nL own h) {z : Int} {v : Int32} (hv : (Int16.ofInt z).toInt32 = v) (hd : decode cc pc = .ok (.sipush z, 3)) (hp : pc + 3 = n) (k : gW E w nL σ n L (.int v :: st)) : gW E w nL σ pc L (st) := fun H locs ls a b c => lv_sipush X.1 X.2.1 hd hv (by rw [hp]; exact k H locs ls a b c)
theorem g_lconst (X : gC E w cc nL own h) {z : Fin 2} {v : Int64} (hv : Int64.ofNat (z : Nat) = v) (hd : decode cc pc = .ok (.lconst z, 1)) (hp : pc + 1 = n) (k : gW E w nL σ n L (.long v :: st)) : gW E w nL σ pc L (st) := fun H locs ls a b c => lv_lconst X.1 X.2.1 hd hv (by rw [hp]; exact k H locs ls a b c)
theorem g_iload_n (X : gC E w cc nL own h) {z : Fin 4} {x : Int32} (hd : decode cc pc = .ok (.iload_n z, 1)) (hi : la L (z : Nat) = some (.int x)) (hp : pc + 1 = n) (k : gW E w nL σ n L (.int x :: st)) : gW E w nL σ pc L st := fun H locs ls a b c => lv_iload_n X.1 X.2.1 hd rfl (lvh_at a hi) (by rw [hp]; exact k H locs ls a b c)
theorem g_iload (X : gC E w cc nL own h) {z : Nat} {x : Int32} (hd : decode cc pc = .ok (.iload z, 2)) (hi : la L z = some (.int x)) (hp : pc + 2 = n) (k : gW E w nL σ n L (.int x :: st)) : gW E w nL σ pc L st := fun H locs ls a b c => lv_iload X.1 X.2.1 hd (lvh_at a hi) (by rw [hp]; exact k H locs ls a b c)
theorem g_lload_n (X : gC E w cc nL own h) {z : Fin 4} {x : Int64} (hd : decode cc pc = .ok (.lload_n z, 1)) (hi : la L (z : Nat) = some (.long x)) (hp : pc + 1 = n) (k : gW E w nL σ n L (.long x :: st)) : gW E w nL σ pc L st := fun H locs ls a b c => lv_lload_n X.1 X.2.1 hd rfl (lvh_at a hi) (by rw [hp]; exact k H locs ls a b c)
theorem g_lload (X : gC E w cc nL own h) {z : Nat} {x : Int64} (hd : decode cc pc = .ok (.lload z, 2)) (hi : la L z = some (.long x)) (hp : pc + 2 = n) (k : gW E w nL σ n L (.long x :: st)) : gW E w nL σ pc L st := fun H locs ls a b c => lv_lload X.1 X.2.1 hd (lvh_at a hi) (by rw [hp]; exact k H locs ls a b c)
theorem g_aload_n (X : gC E w cc nL own h) {z : Fin 4} {x : Nat} (hd : decode cc pc = .ok (.aload_n z, 1)) (hi : la L (z : Nat) = some (.ref x)) (hp : pc + 1 = n) (k : gW E w nL σ n L (.ref x :: st)) : gW E w nL σ pc L st := fun H locs ls a b c => lv_aload_n X.1 X.2.1 hd rfl (lvh_at a hi) (by rw [hp]; exact k H locs ls a b c)
theorem g_aload (X : gC E w cc nL own h) {z : Nat} {x : Nat} (hd : decode cc pc = .ok (.aload z, 2)) (hi : la L z = some (.ref x)) (hp : pc + 2 = n) (k : gW E w nL σ n L (.ref x :: st)) : gW E w nL σ pc L st := fun H locs ls a b c => lv_aload X.1 X.2.1 hd (lvh_at a hi) (by rw [hp]; exact k H locs ls a b c)
theorem g_istore_n (X : gC E w cc nL own h) {z : Fin 4} {x : Int32} (L' : List (Option Value)) (hd : decode cc pc = .ok (.istore_n z, 1)) (hn : (z : Nat) < nL) (ho : lo L (z : Nat) = true) (hL : lset L (z : Nat) (some (.int x)) = L') (hp : pc + 1 = n) (k : gW E w nL σ n L' st) : gW E w nL σ pc L (.int x :: st) := fun H locs ls a b c => lv_istore_n X.1 X.2.1 hd rfl a hn rfl (fun ls1 a1 => by rw [hp]; exact k H locs ls1 (hL ▸ lvh_set1 ho a1) b c)
theorem g_istore (X : gC E w cc nL own h) {z : Nat} {x : Int32} (L' : List (Option Value)) (hd : decode cc pc = .ok (.istore z, 2)) (hn : z < nL) (ho : lo L z = true) (hL : lset L z (some (.int x)) = L') (hp : pc + 2 = n) (k : gW E w nL σ n L' st) : gW E w nL σ pc L (.int x :: st) := fun H locs ls a b c => lv_istore X.1 X.2.1 hd  a hn rfl (fun ls1 a1 => by rw [hp]; exact k H locs ls1 (hL ▸ lvh_set1 ho a1) b c)
theorem g_lstore_n (X : gC E w cc nL own h) {z : Fin 4} {x : Int64} (L' : List (Option Value)) (hd : decode cc pc = .ok (.lstore_n z, 1)) (hn : (z : Nat) + 1 < nL) (ho : lo L (z : Nat) = true) (hL : lset (lset L (z : Nat) (some (.long x))) ((z : Nat) + 1) none = L') (hp : pc + 1 = n) (k : gW E w nL σ n L' st) : gW E w nL σ pc L (.long x :: st) := fun H locs ls a b c => lv_lstore_n X.1 X.2.1 hd rfl a hn rfl (fun ls1 a1 => by rw [hp]; exact k H locs ls1 (hL ▸ lvh_set2 ho a1) b c)
theorem g_lstore (X : gC E w cc nL own h) {z : Nat} {x : Int64} (L' : List (Option Value)) (hd : decode cc pc = .ok (.lstore z, 2)) (hn : z + 1 < nL) (ho : lo L z = true) (hL : lset (lset L z (some (.long x))) (z + 1) none = L') (hp : pc + 2 = n) (k : gW E w nL σ n L' st) : gW E w nL σ pc L (.long x :: st) := fun H locs ls a b c => lv_lstore X.1 X.2.1 hd  a hn rfl (fun ls1 a1 => by rw [hp]; exact k H locs ls1 (hL ▸ lvh_set2 ho a1) b c)
theorem g_astore_n (X : gC E w cc nL own h) {z : Fin 4} {x : Nat} (L' : List (Option Value)) (hd : decode cc pc = .ok (.astore_n z, 1)) (hn : (z : Nat) < nL) (ho : lo L (z : Nat) = true) (hL : lset L (z : Nat) (some (.ref x)) = L') (hp : pc + 1 = n) (k : gW E w nL σ n L' st) : gW E w nL σ pc L (.ref x :: st) := fun H locs ls a b c => lv_astore_n X.1 X.2.1 hd rfl a hn rfl (fun ls1 a1 => by rw [hp]; exact k H locs ls1 (hL ▸ lvh_set1 ho a1) b c)
theorem g_astore (X : gC E w cc nL own h) {z : Nat} {x : Nat} (L' : List (Option Value)) (hd : decode cc pc = .ok (.astore z, 2)) (hn : z < nL) (ho : lo L z = true) (hL : lset L z (some (.ref x)) = L') (hp : pc + 2 = n) (k : gW E w nL σ n L' st) : gW E w nL σ pc L (.ref x :: st) := fun H locs ls a b c => lv_astore X.1 X.2.1 hd  a hn rfl (fun ls1 a1 => by rw [hp]; exact k H locs ls1 (hL ▸ lvh_set1 ho a1) b c)
theorem g_iinc (X : gC E w cc nL own h) {z : Nat} {d : Int} {x v : Int32} (L' : List (Option Value)) (hd : decode cc pc = .ok (.iinc z d, 3)) (hi : la L z = some (.int x)) (hv : x + Int32.ofInt d = v) (hn : z < nL) (ho : lo L z = true) (hL : lset L z (some (.int v)) = L') (hp : pc + 3 = n) (k : gW E w nL σ n L' st) : gW E w nL σ pc L st := by
  intro H locs ls a b c
  obtain ⟨j, hj⟩ := List.getElem?_of_mem (lz_mem (q := (z, .int x)).mpr hi)
  exact lv_iinc X.1 X.2.1 hd a hj hv hn rfl (fun ls1 a1 => by rw [hp]; exact k H locs ls1 (hL ▸ lvh_set1 ho a1) b c)
theorem g_dup (X : gC E w cc nL own h) {v : Value} (hd : decode cc pc = .ok (.dup, 1)) (hc : v.category = 1) (hp : pc + 1 = n) (k : gW E w nL σ n L (v :: v :: st)) : gW E w nL σ pc L (v :: st) := fun H locs ls a b c => lv_dup X.1 X.2.1 hd hc (by rw [hp]; exact k H locs ls a b c)
theorem g_pop (X : gC E w cc nL own h) {v : Value} (hd : decode cc pc = .ok (.pop, 1)) (hc : v.category = 1) (hp : pc + 1 = n) (k : gW E w nL σ n L st) : gW E w nL σ pc L (v :: st) := fun H locs ls a b c => lv_pop X.1 X.2.1 hd hc (by rw [hp]; exact k H locs ls a b c)
theorem g_pop2 (X : gC E w cc nL own h) {v : Value} (hd : decode cc pc = .ok (.pop2, 1)) (hc : v.category = 2) (hp : pc + 1 = n) (k : gW E w nL σ n L st) : gW E w nL σ pc L (v :: st) := fun H locs ls a b c => lv_pop2_2 X.1 X.2.1 hd hc (by rw [hp]; exact k H locs ls a b c)
theorem g_dup2 (X : gC E w cc nL own h) {u v : Value} (hd : decode cc pc = .ok (.dup2, 1)) (hu : u.category = 1) (hv : v.category = 1) (hp : pc + 1 = n) (k : gW E w nL σ n L (u :: v :: u :: v :: st)) : gW E w nL σ pc L (u :: v :: st) := fun H locs ls a b c => lv_dup2_11 X.1 X.2.1 hd hu hv (by rw [hp]; exact k H locs ls a b c)
theorem g_if_eq (X : gC E w cc nL own h) {x : Int32} {off : Int} {tgt : Nat} (hd : decode cc pc = .ok (.ifCond .eq off, 3)) (ht : (pc : Int) + off = (tgt : Int)) (hp : pc + 3 = n) (kt : x = 0 → gW E w nL σ tgt L st) (kf : ¬ x = 0 → gW E w nL σ n L st) : gW E w nL σ pc L (.int x :: st) := fun H locs ls a b c => lv_if_eq X.1 X.2.1 hd ht (fun q => kt q H locs ls a b c) (fun q => by rw [hp]; exact kf q H locs ls a b c)
theorem g_if_ne (X : gC E w cc nL own h) {x : Int32} {off : Int} {tgt : Nat} (hd : decode cc pc = .ok (.ifCond .ne off, 3)) (ht : (pc : Int) + off = (tgt : Int)) (hp : pc + 3 = n) (kt : ¬ x = 0 → gW E w nL σ tgt L st) (kf : x = 0 → gW E w nL σ n L st) : gW E w nL σ pc L (.int x :: st) := fun H locs ls a b c => lv_if_ne X.1 X.2.1 hd ht (fun q => kt q H locs ls a b c) (fun q => by rw [hp]; exact kf q H locs ls a b c)
theorem g_if_lt (X : gC E w cc nL own h) {x : Int32} {off : Int} {tgt : Nat} (hd : decode cc pc = .ok (.ifCond .lt off, 3)) (ht : (pc : Int) + off = (tgt : Int)) (hp : pc + 3 = n) (kt : x < 0 → gW E w nL σ tgt L st) (kf : ¬ x < 0 → gW E w nL σ n L st) : gW E w nL σ pc L (.int x :: st) := fun H locs ls a b c => lv_if_lt X.1 X.2.1 hd ht (fun q => kt q H locs ls a b c) (fun q => by rw [hp]; exact kf q H locs ls a b c)
theorem g_if_ge (X : gC E w cc nL own h) {x : Int32} {off : Int} {tgt : Nat} (hd : decode cc pc = .ok (.ifCond .ge off, 3)) (ht : (pc : Int) + off = (tgt : Int)) (hp : pc + 3 = n) (kt : 0 ≤ x → gW E w nL σ tgt L st) (kf : ¬ 0 ≤ x → gW E w nL σ n L st) : gW E w nL σ pc L (.int x :: st) := fun H locs ls a b c => lv_if_ge X.1 X.2.1 hd ht (fun q => kt q H locs ls a b c) (fun q => by rw [hp]; exact kf q H locs ls a b c)
theorem g_if_gt (X : gC E w cc nL own h) {x : Int32} {off : Int} {tgt : Nat} (hd : decode cc pc = .ok (.ifCond .gt off, 3)) (ht : (pc : Int) + off = (tgt : Int)) (hp : pc + 3 = n) (kt : 0 < x → gW E w nL σ tgt L st) (kf : ¬ 0 < x → gW E w nL σ n L st) : gW E w nL σ pc L (.int x :: st) := fun H locs ls a b c => lv_if_gt X.1 X.2.1 hd ht (fun q => kt q H locs ls a b c) (fun q => by rw [hp]; exact kf q H locs ls a b c)
theorem g_if_le (X : gC E w cc nL own h) {x : Int32} {off : Int} {tgt : Nat} (hd : decode cc pc = .ok (.ifCond .le off, 3)) (ht : (pc : Int) + off = (tgt : Int)) (hp : pc + 3 = n) (kt : x ≤ 0 → gW E w nL σ tgt L st) (kf : ¬ x ≤ 0 → gW E w nL σ n L st) : gW E w nL σ pc L (.int x :: st) := fun H locs ls a b c => lv_if_le X.1 X.2.1 hd ht (fun q => kt q H locs ls a b c) (fun q => by rw [hp]; exact kf q H locs ls a b c)
theorem g_icmp_eq (X : gC E w cc nL own h) {x y : Int32} {off : Int} {tgt : Nat} (hd : decode cc pc = .ok (.if_icmp .eq off, 3)) (ht : (pc : Int) + off = (tgt : Int)) (hp : pc + 3 = n) (kt : x = y → gW E w nL σ tgt L st) (kf : ¬ x = y → gW E w nL σ n L st) : gW E w nL σ pc L (.int y :: .int x :: st) := fun H locs ls a b c => lv_icmp_eq X.1 X.2.1 hd ht (fun q => kt q H locs ls a b c) (fun q => by rw [hp]; exact kf q H locs ls a b c)
theorem g_icmp_ne (X : gC E w cc nL own h) {x y : Int32} {off : Int} {tgt : Nat} (hd : decode cc pc = .ok (.if_icmp .ne off, 3)) (ht : (pc : Int) + off = (tgt : Int)) (hp : pc + 3 = n) (kt : ¬ x = y → gW E w nL σ tgt L st) (kf : x = y → gW E w nL σ n L st) : gW E w nL σ pc L (.int y :: .int x :: st) := fun H locs ls a b c => lv_icmp_ne X.1 X.2.1 hd ht (fun q => kt q H locs ls a b c) (fun q => by rw [hp]; exact kf q H locs ls a b c)
theorem g_icmp_lt (X : gC E w cc nL own h) {x y : Int32} {off : Int} {tgt : Nat} (hd : decode cc pc = .ok (.if_icmp .lt off, 3)) (ht : (pc : Int) + off = (tgt : Int)) (hp : pc + 3 = n) (kt : x < y → gW E w nL σ tgt L st) (kf : ¬ x < y → gW E w nL σ n L st) : gW E w nL σ pc L (.int y :: .int x :: st) := fun H locs ls a b c => lv_icmp_lt X.1 X.2.1 hd ht (fun q => kt q H locs ls a b c) (fun q => by rw [hp]; exact kf q H locs ls a b c)
theorem g_icmp_ge (X : gC E w cc nL own h) {x y : Int32} {off : Int} {tgt : Nat} (hd : decode cc pc = .ok (.if_icmp .ge off, 3)) (ht : (pc : Int) + off = (tgt : Int)) (hp : pc + 3 = n) (kt : y ≤ x → gW E w nL σ tgt L st) (kf : ¬ y ≤ x → gW E w nL σ n L st) : gW E w nL σ pc L (.int y :: .int x :: st) := fun H locs ls a b c => lv_icmp_ge X.1 X.2.1 hd ht (fun q => kt q H locs ls a b c) (fun q => by rw [hp]; exact kf q H locs ls a b c)
theorem g_icmp_gt (X : gC E w cc nL own h) {x y : Int32} {off : Int} {tgt : Nat} (hd : decode cc pc = .ok (.if_icmp .gt off, 3)) (ht : (pc : Int) + off = (tgt : Int)) (hp : pc + 3 = n) (kt : y < x → gW E w nL σ tgt L st) (kf : ¬ y < x → gW E w nL σ n L st) : gW E w nL σ pc L (.int y :: .int x :: st) := fun H locs ls a b c => lv_icmp_gt X.1 X.2.1 hd ht (fun q => kt q H locs ls a b c) (fun q => by rw [hp]; exact kf q H locs ls a b c)
theorem g_icmp_le (X : gC E w cc nL own h) {x y : Int32} {off : Int} {tgt : Nat} (hd : decode cc pc = .ok (.if_icmp .le off, 3)) (ht : (pc : Int) + off = (tgt : Int)) (hp : pc + 3 = n) (kt : x ≤ y → gW E w nL σ tgt L st) (kf : ¬ x ≤ y → gW E w nL σ n L st) : gW E w nL σ pc L (.int y :: .int x :: st) := fun H locs ls a b c => lv_icmp_le X.1 X.2.1 hd ht (fun q => kt q H locs ls a b c) (fun q => by rw [hp]; exact kf q H locs ls a b c)
theorem g_lcmp_eq (X : gC E w cc nL own h) {x y : Int64} {off : Int} {tgt pc1 : Nat} (hd : decode cc pc = .ok (.lcmp, 1)) (h1 : pc + 1 = pc1) (hd1 : decode cc pc1 = .ok (.ifCond .eq off, 3)) (ht : (pc1 : Int) + off = (tgt : Int)) (hp : pc1 + 3 = n) (kt : x = y → gW E w nL σ tgt L st) (kf : ¬ x = y → gW E w nL σ n L st) : gW E w nL σ pc L (.long y :: .long x :: st) := fun H locs ls a b c => W.lcmp X.1 X.2.1 hd (by rw [h1]; exact lv_if_eq X.1 X.2.1 hd1 ht (fun q => kt ((lg_cmp_eq x y).mp q) H locs ls a b c) (fun q => by rw [hp]; exact kf (fun z => q ((lg_cmp_eq x y).mpr z)) H locs ls a b c))
theorem g_lcmp_ne (X : gC E w cc nL own h) {x y : Int64} {off : Int} {tgt pc1 : Nat} (hd : decode cc pc = .ok (.lcmp, 1)) (h1 : pc + 1 = pc1) (hd1 : decode cc pc1 = .ok (.ifCond .ne off, 3)) (ht : (pc1 : Int) + off = (tgt : Int)) (hp : pc1 + 3 = n) (kt : ¬ x = y → gW E w nL σ tgt L st) (kf : x = y → gW E w nL σ n L st) : gW E w nL σ pc L (.long y :: .long x :: st) := fun H locs ls a b c => W.lcmp X.1 X.2.1 hd (by rw [h1]; exact lv_if_ne X.1 X.2.1 hd1 ht (fun q => kt (fun z => q ((lg_cmp_eq x y).mpr z)) H locs ls a b c) (fun q => by rw [hp]; exact kf ((lg_cmp_eq x y).mp q) H locs ls a b c))
theorem g_lcmp_lt (X : gC E w cc nL own h) {x y : Int64} {off : Int} {tgt pc1 : Nat} (hd : decode cc pc = .ok (.lcmp, 1)) (h1 : pc + 1 = pc1) (hd1 : decode cc pc1 = .ok (.ifCond .lt off, 3)) (ht : (pc1 : Int) + off = (tgt : Int)) (hp : pc1 + 3 = n) (kt : x < y → gW E w nL σ tgt L st) (kf : ¬ x < y → gW E w nL σ n L st) : gW E w nL σ pc L (.long y :: .long x :: st) := fun H locs ls a b c => W.lcmp X.1 X.2.1 hd (by rw [h1]; exact lv_if_lt X.1 X.2.1 hd1 ht (fun q => kt ((lg_cmp_lt x y).mp q) H locs ls a b c) (fun q => by rw [hp]; exact kf (fun z => q ((lg_cmp_lt x y).mpr z)) H locs ls a b c))
theorem g_lcmp_ge (X : gC E w cc nL own h) {x y : Int64} {off : Int} {tgt pc1 : Nat} (hd : decode cc pc = .ok (.lcmp, 1)) (h1 : pc + 1 = pc1) (hd1 : decode cc pc1 = .ok (.ifCond .ge off, 3)) (ht : (pc1 : Int) + off = (tgt : Int)) (hp : pc1 + 3 = n) (kt : y ≤ x → gW E w nL σ tgt L st) (kf : ¬ y ≤ x → gW E w nL σ n L st) : gW E w nL σ pc L (.long y :: .long x :: st) := fun H locs ls a b c => W.lcmp X.1 X.2.1 hd (by rw [h1]; exact lv_if_ge X.1 X.2.1 hd1 ht (fun q => kt ((lg_cmp_ge x y).mp q) H locs ls a b c) (fun q => by rw [hp]; exact kf (fun z => q ((lg_cmp_ge x y).mpr z)) H locs ls a b c))
theorem g_lcmp_gt (X : gC E w cc nL own h) {x y : Int64} {off : Int} {tgt pc1 : Nat} (hd : decode cc pc = .ok (.lcmp, 1)) (h1 : pc + 1 = pc1) (hd1 : decode cc pc1 = .ok (.ifCond .gt off, 3)) (ht : (pc1 : Int) + off = (tgt : Int)) (hp : pc1 + 3 = n) (kt : y < x → gW E w nL σ tgt L st) (kf : ¬ y < x → gW E w nL σ n L st) : gW E w nL σ pc L (.long y :: .long x :: st) := fun H locs ls a b c => W.lcmp X.1 X.2.1 hd (by rw [h1]; exact lv_if_gt X.1 X.2.1 hd1 ht (fun q => kt ((lg_cmp_gt x y).mp q) H locs ls a b c) (fun q => by rw [hp]; exact kf (fun z => q ((lg_cmp_gt x y).mpr z)) H locs ls a b c))
theorem g_lcmp_le (X : gC E w cc nL own h) {x y : Int64} {off : Int} {tgt pc1 : Nat} (hd : decode cc pc = .ok (.lcmp, 1)) (h1 : pc + 1 = pc1) (hd1 : decode cc pc1 = .ok (.ifCond .le off, 3)) (ht : (pc1 : Int) + off = (tgt : Int)) (hp : pc1 + 3 = n) (kt : x ≤ y → gW E w nL σ tgt L st) (kf : ¬ x ≤ y → gW E w nL σ n L st) : gW E w nL σ pc L (.long y :: .long x :: st) := fun H locs ls a b c => W.lcmp X.1 X.2.1 hd (by rw [h1]; exact lv_if_le X.1 X.2.1 hd1 ht (fun q => kt ((lg_cmp_le x y).mp q) H locs ls a b c) (fun q => by rw [hp]; exact kf (fun z => q ((lg_cmp_le x y).mpr z)) H locs ls a b c))
theorem g_goto (X : gC E w cc nL own h) {off : Int} {tgt : Nat} (hd : decode cc pc = .ok (.goto off, 3)) (ht : (pc : Int) + off = (tgt : Int)) (k : gW E w nL σ tgt L st) : gW E w nL σ pc L st := fun H locs ls a b c => lv_goto X.1 X.2.1 hd ht (k H locs ls a b c)
theorem g_ldc (X : gC E w cc nL own h) {z : Nat} {v : Int32} (hd : decode cc pc = .ok (.ldc z, 2)) (hw : Cond.constant own z v ∈ lw_tbl) (hp : pc + 2 = n) (k : gW E w nL σ n L (.int v :: st)) : gW E w nL σ pc L st := fun H locs ls a b c => lv_ldc X.1 X.2.1 X.2.2.2.1 (X.word hw rfl) hd (by rw [hp]; exact k H locs ls a b c)
theorem g_ldc2 (X : gC E w cc nL own h) {z : Nat} {v : Int64} (hd : decode cc pc = .ok (.ldc2_w z, 3)) (hw : Cond.constantLong own z v ∈ lw_tbl) (hp : pc + 3 = n) (k : gW E w nL σ n L (.long v :: st)) : gW E w nL σ pc L st := fun H locs ls a b c => lv_ldc2 X.1 X.2.1 X.2.2.2.1 (X.word hw rfl) hd (by rw [hp]; exact k H locs ls a b c)
theorem g_tout (X : gC E w cc nL own h) {dflt lo hi : Int} {offs : Array Int} {len : Nat} {x : Int32} {tgt : Nat} (hd : decode cc pc = .ok (.tableswitch dflt lo hi offs, len)) (hx : x.toInt < lo ∨ hi < x.toInt) (ht : (pc : Int) + dflt = (tgt : Int)) (k : gW E w nL σ tgt L st) : gW E w nL σ pc L (.int x :: st) := fun H locs ls a b c => lv_tableOut X.1 X.2.1 hd hx ht (k H locs ls a b c)
theorem g_tin (X : gC E w cc nL own h) {dflt lo hi : Int} {offs : Array Int} {len : Nat} {x : Int32} {off : Int} {tgt : Nat} (hd : decode cc pc = .ok (.tableswitch dflt lo hi offs, len)) (h1 : ¬ x.toInt < lo) (h2 : ¬ hi < x.toInt) (ho : offs[(x.toInt - lo).toNat]? = some off) (ht : (pc : Int) + off = (tgt : Int)) (k : gW E w nL σ tgt L st) : gW E w nL σ pc L (.int x :: st) := fun H locs ls a b c => lv_tableIn X.1 X.2.1 hd h1 h2 ho ht (k H locs ls a b c)
theorem g_get (X : gC E w cc nL own h) {k j idx N : Nat} {C ref : String} {U : u_T} {q : Nat × Nat} (hk : k < NC) (h0 : kd k = 0) (hc : gcl[oc k]? = some (C, U, N)) (hj : j < N) (hq : (obS k)[j]? = some q) (hin : ∀ t ∈ u_ws C U N, t ∈ gT) (hl : Cond.fieldLink own idx ref (U j).2.1 (U j).2.2.1 ∈ lw_tbl) (hr : (U j).1 = ref) (hd : decode cc pc = .ok (.getfield idx, 3)) (hp : pc + 3 = n) (kk : gW E w nL σ n L (fv w σ.2.2 q :: st)) : gW E w nL σ pc L (.ref (w.1 k) :: st) := fun H locs ls a b c =>
  va_get (D := w.2.1) (ws := cw w σ) X.1 X.2.1 X.2.2.2.2.1 hin X.2.2.2.1 X.2.2.2.2.2.1 b k (by rw [cw_at hk, ce_0 h0]) hc j hj (X.word hl rfl) (by rw [hr]; exact fun _ z => z) (by rw [List.getElem?_map, hq]; rfl) hd (by rw [hp]; exact kk H locs ls a b c)
theorem g_putI (X : gC E w cc nL own h) {k j idx N f : Nat} {C ref : String} {U : u_T} {x : Int32} (ty0 : Nat → FieldType) (hty : ∀ k, k < N → parseFieldDescriptor (U k).2.2.1 = some (ty0 k)) (hnm : ∀ a, a < N → ∀ b, b < N → a ≠ b → (U a).2.1 ≠ (U b).2.1) (hk : k < NC) (h0 : kd k = 0) (hc : gcl[oc k]? = some (C, U, N)) (hj : j < N) (hq : (obS k)[j]? = some (1, f)) (ho : once (1, f) k j = true) (hin : ∀ t ∈ u_ws C U N, t ∈ gT) (hl : Cond.fieldLink own idx ref (U j).2.1 (U j).2.2.1 ∈ lw_tbl) (hr : (U j).1 = ref) (hfin : (U j).2.2.2 = false) (hI : (U j).2.2.1 = "I") (hd : decode cc pc = .ok (.putfield idx, 3)) (hp : pc + 3 = n) (kk : ∀ σ1 : St, σ1 = stF σ f x → gW E w nL σ1 n L st) : gW E w nL σ pc L (.int x :: .ref (w.1 k) :: st) := fun H locs ls a b c =>
  va_put (D := w.2.1) (ws := cw w σ) (A := inA w) (H0 := (eS E).heap) (fs := (obS k).map (fv w σ.2.2)) (v := .int x) (ty := .int) X.1 X.2.1 X.2.2.2.2.1 hin ty0 hty hnm X.2.2.2.1 X.2.2.2.2.2.1 b (cw_D X.2.2.2.2.2.2.1) c k (by rw [cw_at hk, ce_0 h0]) hc j hj (X.word hl rfl) (by rw [hr]; exact fun _ z => z) hfin (by rw [hI]; decide) rfl rfl (by rw [List.length_map]; exact (List.getElem?_eq_some_iff.mp hq).1) hd (fun H1 l1 hP _ hS => by rw [cw_F hk h0 hq ho] at hP; rw [hp]; exact kk _ rfl H1 l1 ls a hP hS)
theorem g_putR (X : gC E w cc nL own h) {k j idx N f q : Nat} {C ref D0 : String} {U : u_T} (ty0 : Nat → FieldType) (hty : ∀ k, k < N → parseFieldDescriptor (U k).2.2.1 = some (ty0 k)) (hnm : ∀ a, a < N → ∀ b, b < N → a ≠ b → (U a).2.1 ≠ (U b).2.1) (hk : k < NC) (h0 : kd k = 0) (hc : gcl[oc k]? = some (C, U, N)) (hj : j < N) (hq : (obS k)[j]? = some (2, f)) (ho : onceR f k j = true) (hin : ∀ t ∈ u_ws C U N, t ∈ gT) (hl : Cond.fieldLink own idx ref (U j).2.1 (U j).2.2.1 ∈ lw_tbl) (hr : (U j).1 = ref) (hfin : (U j).2.2.2 = false) (hI : parseFieldDescriptor (U j).2.2.1 = some (.object D0)) (hd : decode cc pc = .ok (.putfield idx, 3)) (hp : pc + 3 = n) (kk : ∀ σ1 : St, σ1 = stR σ f q → gW E w nL σ1 n L st) : gW E w nL σ pc L (.ref (w.1 q) :: .ref (w.1 k) :: st) := fun H locs ls a b c =>
  va_put (D := w.2.1) (ws := cw w σ) (A := inA w) (H0 := (eS E).heap) (fs := (obS k).map (fv w σ.2.2)) (v := .ref (w.1 q)) (ty := .object D0) X.1 X.2.1 X.2.2.2.2.1 hin ty0 hty hnm X.2.2.2.1 X.2.2.2.2.2.1 b (cw_D X.2.2.2.2.2.2.1) c k (by rw [cw_at hk, ce_0 h0]) hc j hj (X.word hl rfl) (by rw [hr]; exact fun _ z => z) hfin hI rfl rfl (by rw [List.length_map]; exact (List.getElem?_eq_some_iff.mp hq).1) hd (fun H1 l1 hP _ hS => by rw [cw_R hk h0 hq ho] at hP; rw [hp]; exact kk _ rfl H1 l1 ls a hP hS)
theorem g_iald (X : gC E w cc nL own h) {k N : Nat} {i : Int32} (hk : k < NC) (h0 : kd k = 1) (hN : ln k = N) (hin : vp_in i N) (hd : decode cc pc = .ok (.iaload, 1)) (hp : pc + 1 = n) (kk : gW E w nL σ n L (.int (rI σ k i) :: st)) : gW E w nL σ pc L (.int i :: .ref (w.1 k) :: st) := fun H locs ls a b c => va_iald X.1 X.2.1 X.2.2.2.2.2.1 b k 0 (by rw [cw_at hk, ce_1 h0]) rfl (by rw [hN]; exact hin) hd (by rw [hp]; exact kk H locs ls a b c)
theorem g_bald (X : gC E w cc nL own h) {k N : Nat} {i : Int32} (hk : k < NC) (h0 : kd k = 2) (hN : ln k = N) (hin : vp_in i N) (hd : decode cc pc = .ok (.baload, 1)) (hp : pc + 1 = n) (kk : gW E w nL σ n L (.int (rI σ k i) :: st)) : gW E w nL σ pc L (.int i :: .ref (w.1 k) :: st) := fun H locs ls a b c => va_bald X.1 X.2.1 X.2.2.2.2.2.1 b k 1 (by rw [cw_at hk, ce_2 h0]) rfl (by rw [hN]; exact hin) hd (by rw [hp]; exact kk H locs ls a b c)
theorem g_zald (X : gC E w cc nL own h) {k N : Nat} {i : Int32} (hk : k < NC) (h0 : kd k = 3) (hN : ln k = N) (hin : vp_in i N) (hd : decode cc pc = .ok (.baload, 1)) (hp : pc + 1 = n) (kk : gW E w nL σ n L (.int (rI σ k i) :: st)) : gW E w nL σ pc L (.int i :: .ref (w.1 k) :: st) := fun H locs ls a b c => va_zald X.1 X.2.1 X.2.2.2.2.2.1 b k 2 (by rw [cw_at hk, ce_3 h0]) rfl (by rw [hN]; exact hin) hd (by rw [hp]; exact kk H locs ls a b c)
theorem g_lald (X : gC E w cc nL own h) {k N : Nat} {i : Int32} (hk : k < NC) (h0 : kd k = 4) (hN : ln k = N) (hin : vp_in i N) (hd : decode cc pc = .ok (.laload, 1)) (hp : pc + 1 = n) (kk : gW E w nL σ n L (.long (rL σ k i) :: st)) : gW E w nL σ pc L (.int i :: .ref (w.1 k) :: st) := fun H locs ls a b c => va_lald X.1 X.2.1 X.2.2.2.2.2.1 b k 3 (by rw [cw_at hk, ce_4 h0]) rfl (by rw [hN]; exact hin) hd (by rw [hp]; exact kk H locs ls a b c)
theorem cw_iast {w : wT} {σ : St} {k i : Nat} {x : Int32} (hk : k < NC) (h0 : kd k = 1) : (cw w σ).set k (w.1 k, .inl (w.2.2.1 1, ln k, .inl (upd (σ.1 k) i x))) = cw w (stA σ k i x) := cw_set hk (by rw [ce_1 h0]; simp [stA]) (fun j _ hj => ce_A hj)
theorem g_iast (X : gC E w cc nL own h) {k N : Nat} {i x : Int32} (hk : k < NC) (h0 : kd k = 1) (hN : ln k = N) (hin : vp_in i N) (hd : decode cc pc = .ok (.iastore, 1)) (hp : pc + 1 = n) (kk : ∀ σ1 : St, σ1 = stA σ k i.toNatClampNeg x → gW E w nL σ1 n L st) : gW E w nL σ pc L (.int x :: .int i :: .ref (w.1 k) :: st) := fun H locs ls a b c => va_iast (ws := cw w σ) (A := inA w) (H0 := (eS E).heap) X.1 X.2.1 X.2.2.2.2.2.1 b (cw_D X.2.2.2.2.2.2.1) c k 0 (by rw [cw_at hk, ce_1 h0]) rfl (by rw [hN]; exact hin) hd (fun H1 l1 hP _ hS => by rw [cw_iast hk h0] at hP; rw [hp]; exact kk _ rfl H1 l1 ls a hP hS)
theorem cw_bast {w : wT} {σ : St} {k i : Nat} {x : Int32} (hk : k < NC) (h0 : kd k = 2) : (cw w σ).set k (w.1 k, .inl (w.2.2.1 2, ln k, .inl (upd (σ.1 k) i x))) = cw w (stA σ k i x) := cw_set hk (by rw [ce_2 h0]; simp [stA]) (fun j _ hj => ce_A hj)
theorem g_bast (X : gC E w cc nL own h) {k N : Nat} {i x : Int32} (hk : k < NC) (h0 : kd k = 2) (hN : ln k = N) (hin : vp_in i N) (hd : decode cc pc = .ok (.bastore, 1)) (hp : pc + 1 = n) (kk : ∀ σ1 : St, σ1 = stA σ k i.toNatClampNeg (vp_nar .byte x) → gW E w nL σ1 n L st) : gW E w nL σ pc L (.int x :: .int i :: .ref (w.1 k) :: st) := fun H locs ls a b c => va_bast (ws := cw w σ) (A := inA w) (H0 := (eS E).heap) X.1 X.2.1 X.2.2.2.2.2.1 b (cw_D X.2.2.2.2.2.2.1) c k 1 (by rw [cw_at hk, ce_2 h0]) rfl (by rw [hN]; exact hin) hd (fun H1 l1 hP _ hS => by rw [cw_bast hk h0] at hP; rw [hp]; exact kk _ rfl H1 l1 ls a hP hS)
theorem cw_zast {w : wT} {σ : St} {k i : Nat} {x : Int32} (hk : k < NC) (h0 : kd k = 3) : (cw w σ).set k (w.1 k, .inl (w.2.2.1 3, ln k, .inl (upd (σ.1 k) i x))) = cw w (stA σ k i x) := cw_set hk (by rw [ce_3 h0]; simp [stA]) (fun j _ hj => ce_A hj)
theorem g_zast (X : gC E w cc nL own h) {k N : Nat} {i x : Int32} (hk : k < NC) (h0 : kd k = 3) (hN : ln k = N) (hin : vp_in i N) (hd : decode cc pc = .ok (.bastore, 1)) (hp : pc + 1 = n) (kk : ∀ σ1 : St, σ1 = stA σ k i.toNatClampNeg (vp_nar .boolean x) → gW E w nL σ1 n L st) : gW E w nL σ pc L (.int x :: .int i :: .ref (w.1 k) :: st) := fun H locs ls a b c => va_zast (ws := cw w σ) (A := inA w) (H0 := (eS E).heap) X.1 X.2.1 X.2.2.2.2.2.1 b (cw_D X.2.2.2.2.2.2.1) c k 2 (by rw [cw_at hk, ce_3 h0]) rfl (by rw [hN]; exact hin) hd (fun H1 l1 hP _ hS => by rw [cw_zast hk h0] at hP; rw [hp]; exact kk _ rfl H1 l1 ls a hP hS)
theorem cw_last {w : wT} {σ : St} {k i : Nat} {x : Int64} (hk : k < NC) (h0 : kd k = 4) : (cw w σ).set k (w.1 k, .inl (w.2.2.1 4, ln k, .inr (.inl (vp_updL (σ.2.1 k) i x)))) = cw w (stL σ k i x) := cw_set hk (by rw [ce_4 h0]; simp [stL]) (fun j _ hj => ce_L hj)
theorem g_last (X : gC E w cc nL own h) {k N : Nat} {i : Int32} {x : Int64} (hk : k < NC) (h0 : kd k = 4) (hN : ln k = N) (hin : vp_in i N) (hd : decode cc pc = .ok (.lastore, 1)) (hp : pc + 1 = n) (kk : ∀ σ1 : St, σ1 = stL σ k i.toNatClampNeg x → gW E w nL σ1 n L st) : gW E w nL σ pc L (.long x :: .int i :: .ref (w.1 k) :: st) := fun H locs ls a b c => va_last (ws := cw w σ) (A := inA w) (H0 := (eS E).heap) X.1 X.2.1 X.2.2.2.2.2.1 b (cw_D X.2.2.2.2.2.2.1) c k 3 (by rw [cw_at hk, ce_4 h0]) rfl (by rw [hN]; exact hin) hd (fun H1 l1 hP _ hS => by rw [cw_last hk h0] at hP; rw [hp]; exact kk _ rfl H1 l1 ls a hP hS)
theorem g_alenI (X : gC E w cc nL own h) {k : Nat} {v : Int32} (hk : k < NC) (h0 : kd k = 1) (hv : Int32.ofNat (ln k) = v) (hd : decode cc pc = .ok (.arraylength, 1)) (hp : pc + 1 = n) (kk : gW E w nL σ n L (.int v :: st)) : gW E w nL σ pc L (.ref (w.1 k) :: st) := fun H locs ls a b c => va_alen (ws := cw w σ) X.1 X.2.1 X.2.2.2.2.2.1 b k 0 (by rw [cw_at hk, ce_1 h0]) rfl hv hd (by rw [hp]; exact kk H locs ls a b c)
theorem g_alenL (X : gC E w cc nL own h) {k : Nat} {v : Int32} (hk : k < NC) (h0 : kd k = 4) (hv : Int32.ofNat (ln k) = v) (hd : decode cc pc = .ok (.arraylength, 1)) (hp : pc + 1 = n) (kk : gW E w nL σ n L (.int v :: st)) : gW E w nL σ pc L (.ref (w.1 k) :: st) := fun H locs ls a b c => va_alen (ws := cw w σ) X.1 X.2.1 X.2.2.2.2.2.1 b k 3 (by rw [cw_at hk, ce_4 h0]) rfl hv hd (by rw [hp]; exact kk H locs ls a b c)
theorem g_lret (X : gC E w cc nL own h) {v : Int64} (Y : gQ E w (some .long) (some (.long v)) σ) (hd : decode cc pc = .ok (.lreturn, 1)) : gW E w nL σ pc L [.long v] := fun H locs ls a b c => by
  rw [Y.1]
  exact W.lret X.1 X.2.1 Y.2.1 (fun t ht hW => ⟨rfl, by rw [ht]; exact b, c.F ht⟩) c.2.2 hd Y.2.2
theorem g_iret (X : gC E w cc nL own h) {v : Int32} (Y : gQ E w (some .int) (some (.int v)) σ) (hd : decode cc pc = .ok (.ireturn, 1)) : gW E w nL σ pc L [.int v] := fun H locs ls a b c => by
  rw [Y.1]
  exact W.iret X.1 X.2.1 Y.2.1 (fun t ht hW => ⟨rfl, by rw [ht]; exact b, c.F ht⟩) c.2.2 hd Y.2.2
theorem g_zret (X : gC E w cc nL own h) {v : Int32} {ty : FieldType} (Y : gQ E w (some ty) (some (.int v)) σ) (hn : narrow ty (.int v) = .int v) (hd : decode cc pc = .ok (.ireturn, 1)) : gW E w nL σ pc L [.int v] := fun H locs ls a b c => by
  rw [Y.1]
  exact W.zret X.1 X.2.1 Y.2.1 hn (fun t ht hW => ⟨rfl, by rw [ht]; exact b, c.F ht⟩) c.2.2 hd Y.2.2
theorem g_vret (X : gC E w cc nL own h) (Y : gQ E w none none σ) (hd : decode cc pc = .ok (.return_, 1)) : gW E w nL σ pc L [] := fun H locs ls a b c => by
  rw [Y.1]
  exact W.vret X.1 X.2.1 Y.2.1 (fun t ht hW => ⟨rfl, by rw [ht]; exact b, c.F ht⟩) c.2.2 hd Y.2.2
theorem g_aret (X : gC E w cc nL own h) {z : Nat} {ty : FieldType} (Y : gQ E w (some (.array ty)) (some (.ref z)) σ) (hd : decode cc pc = .ok (.areturn, 1)) : gW E w nL σ pc L [.ref z] := fun H locs ls a b c => by
  rw [Y.1]
  exact W.aret X.1 X.2.1 Y.2.1 (Or.inr ⟨_, rfl⟩) (Or.inr ⟨_, rfl⟩) (fun t ht hW => ⟨rfl, by rw [ht]; exact b, c.F ht⟩) c.2.2 hd Y.2.2
theorem g_back {H : Heap} {locs : List Loc} {ls : Array Slot} {st0 rest : List Value} {a : Array Value} {r : Option Value} {σ' : St} (hr : va_Run (eP E) (eL E) (eE E) (eR E) (eS E) (eM E) (eA E) (eB E) (eMe E) (eC E) H locs (eCe E) (eSl E) 0 0 (F0 (eM E) pc ls st0) rest (Qw w r σ' a) (inA w)) (hl : lvh ls nL L) (hS : va_S (inA w) (eS E).heap H locs) (hp : pc + 3 = n)
    (kk : gW E w nL σ' n L (r.toList ++ rest)) : W (eP E) (eL E) (eE E) (eR E) (eS E) (eM E) (eA E) (eB E) (eMe E) (eC E) H locs (eCe E) (eSl E) (eQ E) (F0 (eM E) pc ls st0) := by
  intro T hT X
  obtain ⟨v, st₀, t, T', L1, h0, X', hL, e1, e2, ⟨hv, hP, hz, hk⟩, go⟩ := hr T hT X
  cases hv
  rw [h0] at hz hk
  obtain ⟨t2, a1, b1⟩ := kk T'.heap (locs ++ L1) ls hl (by rw [e1]; exact hP)
    ⟨Nat.le_trans hS.1 (by rw [e1]; exact hz), fun q h1 h2 => by rw [e1, hk q (Nat.lt_of_lt_of_le h1 hS.1) h2]; exact hS.2.1 q h1 h2, fun q hq => by
      rcases List.mem_append.mp hq with h | h
      · exact hS.2.2 q h
      · exact hL q h⟩ T' rfl X'
  rw [← hp] at a1
  exact ⟨t2, go t2 a1, b1⟩
theorem g_pre (X : gC E w cc nL own h) {H : Heap} {locs : List Loc} {as : List Value} (b : va_P w.2.1 gcl (cw w σ) H) (c : va_S (inA w) (eS E).heap H locs) : ∀ U : State, U.heap = H → (eS E).WarmedH U.vm → va_Pc as (Wd w σ) as.toArray U :=
  fun U hU hW => ⟨rfl, by rw [hU]; exact b, va_K.moved hW.alike X.2.2.2.2.2.1, by rw [hU]; exact (X.2.2.2.2.2.2.2.1.warm hW).kept c.2.1⟩
theorem g_rm (X : gC E w cc nL own h) {h' maxL : Nat} (hh : h' < h) (hm : maxL ≤ 45) : (rmh h').frames + 1 ≤ (eR E).frames ∧ 8 + (maxL + 11) + (rmh h').locals ≤ (eR E).locals := by
  have h1 := X.2.2.2.2.2.2.2.2.1
  show h' + 1 ≤ _ ∧ 8 + (maxL + 11) + 64 * h' ≤ _
  omega
theorem g_callV (X : gC E w cc nL own h) {y : MethodName} {bytes : ByteArray} {maxL na : Nat} {ret : Option FieldType} {h' : Nat} {k idx N : Nat} {U : u_T} (As : List Value) {rest : List Value} {σ' : St} {r : Option Value} (hM : gM w (eL E) y bytes maxL ret h' (.ref (w.1 k) :: As) σ r σ') (hY : gY y bytes maxL ret na) (hi : Cond.instanceMethod y ∈ lw_tbl) (hs : Cond.selects y.cls y y ∈ lw_tbl) (hl : Cond.methodLink own idx y ∈ lw_tbl) (hk : k < NC) (h0 : kd k = 0) (hc : gcl[oc k]? = some (y.cls, U, N)) (hh : h' < h) (hna : As.length = na) (hd : decode cc pc = .ok (.invokevirtual idx, 3)) (hw : (rest.map fun v => v.category).sum ≤ 8) (hst : As.reverse ++ .ref (w.1 k) :: rest = st) (hp : pc + 3 = n)
    (kk : gW E w nL σ' n L (r.toList ++ rest)) : gW E w nL σ pc L st := by
  intro H locs ls a b c
  subst hst
  exact g_back (va_runV (As := As) (rest := rest) (C := y.cls) (Ts := gT) ⟨X.1, X.2.1, X.2.2.1, X.2.2.2.1, X.2.2.2.2.1⟩ hM ⟨callB_of na X.2.2.2.2.1 (gGood _ _ _ _ hY.1) rfl rfl rfl (X.word hY.2.1 rfl) (X.word hl rfl) hY.2.2.1 (g_rm X hh hY.2.2.2), X.word hi rfl, X.word hs rfl⟩ ⟨gM_blind, va_recv X.2.2.2.2.2.1 b hc (by rw [cw_at hk, ce_0 h0]), g_pre X b c⟩ rfl hna a.1 rfl (lv_room hw) hd ⟨by simpa using X.2.2.2.2.2.2.2.2.2.1, by simpa using X.2.2.2.2.2.2.2.2.2.2⟩) a c hp kk
theorem g_callS (X : gC E w cc nL own h) {y : MethodName} {bytes : ByteArray} {maxL na : Nat} {ret : Option FieldType} {h' : Nat} {idx : Nat} (As : List Value) {rest : List Value} {σ' : St} {r : Option Value} (hM : gM w (eL E) y bytes maxL ret h' As σ r σ') (hY : gY y bytes maxL ret na) (hs : Cond.static y ∈ lw_tbl) (hl : Cond.methodLink own idx y ∈ lw_tbl) (hh : h' < h) (hna : As.length = na) (hd : decode cc pc = .ok (.invokestatic idx, 3)) (hw : (rest.map fun v => v.category).sum ≤ 8) (hst : As.reverse ++ rest = st) (hp : pc + 3 = n)
    (kk : gW E w nL σ' n L (r.toList ++ rest)) : gW E w nL σ pc L st := by
  intro H locs ls a b c
  subst hst
  exact g_back (va_runS (As := As) (rest := rest) (Ts := gT) ⟨X.1, X.2.1, X.2.2.1, X.2.2.2.1, X.2.2.2.2.1⟩ hM ⟨callB_of na X.2.2.2.2.1 (gGood _ _ _ _ hY.1) rfl rfl rfl (X.word hY.2.1 rfl) (X.word hl rfl) hY.2.2.1 (g_rm X hh hY.2.2.2), X.word hs rfl⟩ ⟨gM_blind, g_pre X b c⟩ rfl hna a.1 rfl (lv_room hw) hd ⟨by simpa using X.2.2.2.2.2.2.2.2.2.1, by simpa using X.2.2.2.2.2.2.2.2.2.2⟩) a c hp kk
theorem g_callSN (X : gC E w cc nL own h) {y : MethodName} {bytes : ByteArray} {maxL na : Nat} {ret : Option FieldType} {h' : Nat} {idx : Nat} {host : String} (As : List Value) {rest : List Value} {σ' : St} {r : Option Value} (hM : gM w (eL E) y bytes maxL ret h' As σ r σ') (hY : gY y bytes maxL ret na) (hs : Cond.static y ∈ lw_tbl) (hl : va_Nw (.methodLinkNest own idx y host) (eS E)) (hh : h' < h) (hna : As.length = na) (hd : decode cc pc = .ok (.invokestatic idx, 3)) (hw : (rest.map fun v => v.category).sum ≤ 8) (hst : As.reverse ++ rest = st) (hp : pc + 3 = n)
    (kk : gW E w nL σ' n L (r.toList ++ rest)) : gW E w nL σ pc L st := by
  intro H locs ls a b c
  subst hst
  exact g_back (va_runSN (As := As) (rest := rest) (Ts := gT) ⟨X.1, X.2.1, X.2.2.1, X.2.2.2.1, X.2.2.2.2.1⟩ hM ⟨va_cnB na X.2.2.2.2.1 (gGood _ _ _ _ hY.1) rfl rfl rfl hl (X.word hY.2.1 rfl) hY.2.2.1 (g_rm X hh hY.2.2.2), X.word hs rfl, trivial⟩ ⟨gM_blind, g_pre X b c⟩ rfl hna a.1 rfl (lv_room hw) hd ⟨by simpa using X.2.2.2.2.2.2.2.2.2.1, by simpa using X.2.2.2.2.2.2.2.2.2.2⟩) a c hp kk
end G
