/-! own acts, own past, sizes -/
def lv (T : TT) (w p : Nat) : Nat := if h : T 5 p < p then lv T w (T 5 p) + (if T 1 (T 5 p) = 2 + w then 1 else 0) else 0
termination_by p
decreasing_by all_goals exact h
def ps (T : TT) (w p : Nat) : List Nat := if h : T 5 p < p then (if T 1 (T 5 p) = 2 + w then (3 * T 3 (T 5 p) + T 7 p + 1) :: ps T w (T 5 p) else ps T w (T 5 p)) else []
termination_by p
decreasing_by all_goals exact h
def ct (T : TT) (p q : Nat) : Nat := if h : T 5 q < q then (if T 5 q = p then q else ct T p (T 5 q)) else 0
termination_by q
decreasing_by all_goals exact h
def en : List Nat → Nat
  | [] => 0
  | x :: l => en l * 31 + x
theorem en_lt : ∀ (l : List Nat), (∀ x ∈ l, x < 31) → en l < 31 ^ l.length
  | [], _ => by simp [en]
  | x :: l, h => by
    have h1 := en_lt l (fun y hy => h y (List.mem_cons_of_mem _ hy))
    have h2 := h x List.mem_cons_self
    unfold en
    rw [List.length_cons, Nat.pow_succ]
    omega
theorem en_inj : ∀ (l m : List Nat), (∀ x ∈ l, 0 < x ∧ x < 31) → (∀ x ∈ m, 0 < x ∧ x < 31) → en l = en m → l = m
  | [], [], _, _, _ => rfl
  | [], y :: m, _, hm, h => by
    have := hm y List.mem_cons_self
    simp only [en] at h
    omega
  | x :: l, [], hl, _, h => by
    have := hl x List.mem_cons_self
    simp only [en] at h
    omega
  | x :: l, y :: m, hl, hm, h => by
    have h1 := hl x List.mem_cons_self
    have h2 := hm y List.mem_cons_self
    simp only [en] at h
    have e1 : x = y := by omega
    have e2 : en l = en m := by omega
    rw [e1, en_inj l m (fun z hz => hl z (List.mem_cons_of_mem _ hz)) (fun z hz => hm z (List.mem_cons_of_mem _ hz)) e2]
theorem wf.A {n : Nat} {T : TT} (h : wf n T) {p : Nat} (hp : p < n) (p0 : 0 < p) : wA T p := h.1.2.1 p hp p0
theorem wf.K {n : Nat} {T : TT} (h : wf n T) {p : Nat} (hp : p < n) : wK T p := h.1.1 p hp
theorem wf.R {n : Nat} {T : TT} (h : wf n T) (hn : 0 < n) : T 5 0 = 1000 ∧ T 6 0 = 0 := h.1.2.2.1 hn
theorem lv_0 (T : TT) (w : Nat) : lv T w 0 = 0 := by
  rw [lv, dif_neg (by omega)]
theorem ps_0 (T : TT) (w : Nat) : ps T w 0 = [] := by
  rw [ps, dif_neg (by omega)]
theorem lv_s {T : TT} {p : Nat} (h : T 5 p < p) (w : Nat) : lv T w p = lv T w (T 5 p) + (if T 1 (T 5 p) = 2 + w then 1 else 0) := by
  rw [lv, dif_pos h]
theorem ps_s {T : TT} {p : Nat} (h : T 5 p < p) (w : Nat) : ps T w p = if T 1 (T 5 p) = 2 + w then (3 * T 3 (T 5 p) + T 7 p + 1) :: ps T w (T 5 p) else ps T w (T 5 p) := by
  rw [ps, dif_pos h]
theorem ps_len {n : Nat} {T : TT} (h : wf n T) (w : Nat) : ∀ p, p < n → (ps T w p).length = lv T w p ∧ lv T w p ≤ T 6 p ∧ ∀ x ∈ ps T w p, 0 < x ∧ x < 31 := by
  intro p
  induction p using Nat.strongRecOn with
  | ind p ih =>
    intro hp
    by_cases p0 : 0 < p
    · obtain ⟨a1, a2, a3, _⟩ := h.A hp p0
      obtain ⟨i1, i2, i3⟩ := ih (T 5 p) a1 (by omega)
      rw [lv_s a1, ps_s a1]
      by_cases c : T 1 (T 5 p) = 2 + w
      · rw [if_pos c, if_pos c, List.length_cons, i1]
        refine ⟨rfl, by omega, fun x hx => ?_⟩
        rcases List.mem_cons.mp hx with e | e
        · have k := (h.K (show T 5 p < n by omega)).2
          have : T 3 (T 5 p) < 10 ∧ T 4 (T 5 p) ≤ 3 := by omega
          omega
        · exact i3 x e
      · rw [if_neg c, if_neg c]
        exact ⟨by rw [i1]; rfl, by omega, i3⟩
    · have : p = 0 := by omega
      subst this
      rw [lv_0, ps_0]
      exact ⟨rfl, Nat.zero_le _, fun x hx => by cases hx⟩
theorem ps_en {n : Nat} {T : TT} (h : wf n T) (w : Nat) {p q : Nat} (hp : p < n) (hq : q < n) : (lN (en (ps T w p)) = lN (en (ps T w q))) ↔ ps T w p = ps T w q := by
  obtain ⟨a1, a2, a3⟩ := ps_len h w p hp
  obtain ⟨b1, b2, b3⟩ := ps_len h w q hq
  have k1 := (h.K hp).1
  have k2 := (h.K hq).1
  have e1 := en_lt _ (fun x hx => (a3 x hx).2)
  have e2 := en_lt _ (fun x hx => (b3 x hx).2)
  have m1 : 31 ^ (ps T w p).length ≤ 31 ^ 8 := Nat.pow_le_pow_right (by decide) (by omega)
  have m2 : 31 ^ (ps T w q).length ≤ 31 ^ 8 := Nat.pow_le_pow_right (by decide) (by omega)
  have m3 : 31 ^ 8 < 2 ^ 63 := by decide
  rw [pk_lEQ (by omega) (by omega)]
  exact ⟨fun e => en_inj _ _ a3 b3 e, fun e => by rw [e]⟩
/-! sums -/
def sm (f : Nat → Nat) : Nat → Nat
  | 0 => 0
  | n + 1 => sm f n + f n
theorem sm_cg {f g : Nat → Nat} : ∀ n, (∀ i, i < n → f i = g i) → sm f n = sm g n
  | 0, _ => rfl
  | n + 1, h => by
    unfold sm
    rw [sm_cg n (fun i hi => h i (by omega)), h n (by omega)]
theorem sm_add {f g k : Nat → Nat} : ∀ n, (∀ i, i < n → f i = g i + k i) → sm f n = sm g n + sm k n
  | 0, _ => rfl
  | n + 1, h => by
    unfold sm
    rw [sm_add n (fun i hi => h i (by omega)), h n (by omega)]
    omega
theorem sm_0 : ∀ n, sm (fun _ => 0) n = 0
  | 0 => rfl
  | n + 1 => by unfold sm; rw [sm_0 n]
theorem sm_1 {m : Nat} : ∀ n, sm (fun q => if q = m then 1 else 0) n = if m < n then 1 else 0
  | 0 => rfl
  | n + 1 => by
    unfold sm
    rw [sm_1 n]
    by_cases c : n = m
    · subst c; simp
    · rw [if_neg c]
      by_cases d : m < n
      · rw [if_pos d, if_pos (by omega)]
      · rw [if_neg d, if_neg (by omega)]
theorem sm_le {f : Nat → Nat} : ∀ n, (∀ i, i < n → f i ≤ 1) → sm f n ≤ n
  | 0, _ => Nat.le_refl _
  | n + 1, h => by
    unfold sm
    have := sm_le n (fun i hi => h i (by omega))
    have := h n (by omega)
    omega
theorem ct_s {T : TT} {q : Nat} (h : T 5 q < q) (p : Nat) : ct T p q = if T 5 q = p then q else ct T p (T 5 q) := by rw [ct, dif_pos h]
theorem ct_z {T : TT} {q : Nat} (h : ¬ T 5 q < q) (p : Nat) : ct T p q = 0 := by rw [ct, dif_neg h]
theorem ct_ok (T : TT) (p : Nat) : ∀ q, ct T p q ≤ q ∧ (0 < ct T p q → T 5 (ct T p q) = p ∧ p < ct T p q) := by
  intro q
  induction q using Nat.strongRecOn with
  | ind q ih =>
    by_cases h : T 5 q < q
    · rw [ct_s h]
      by_cases c : T 5 q = p
      · rw [if_pos c]
        exact ⟨Nat.le_refl _, fun _ => ⟨c, by omega⟩⟩
      · rw [if_neg c]
        have := ih _ h
        exact ⟨by omega, this.2⟩
    · rw [ct_z h]
      exact ⟨Nat.zero_le _, fun h => by omega⟩
theorem ct_eq {T : TT} {m : Nat} (hm : T 5 m < m) : ∀ q, (if ct T (T 5 m) q = m then 1 else 0) = (if q = m then 1 else 0) + (if m < ct T m q then 1 else 0) := by
  intro q
  induction q using Nat.strongRecOn with
  | ind q ih =>
    by_cases h : T 5 q < q
    · rw [ct_s h, ct_s h]
      by_cases c : T 5 q = T 5 m
      · rw [if_pos c]
        by_cases e : q = m
        · subst e
          rw [if_pos rfl, if_neg (show ¬ T 5 q = q by omega)]
          have := (ct_ok T q (T 5 q)).1
          rw [if_neg (by omega)]
        · rw [if_neg e, if_neg (show ¬ T 5 q = m by omega)]
          have := (ct_ok T m (T 5 q)).1
          rw [if_neg (by omega)]
      · rw [if_neg c]
        have e : q ≠ m := fun e => c (by rw [e])
        rw [if_neg e]
        by_cases c2 : T 5 q = m
        · rw [if_pos c2, c2, ct_s hm, if_pos rfl, if_pos rfl, if_pos (by omega)]
        · rw [if_neg c2]
          have := ih _ h
          rw [if_neg c2] at this
          exact this
    · rw [ct_z h, ct_z h, if_neg (show ¬ 0 = m by omega), if_neg (show ¬ m < 0 by omega), if_neg]
      intro e
      subst e
      exact h hm
/-- how large place p is, when the places above m have been added to what is above them -/
def szm (T : TT) (n m p : Nat) : Nat := 1 + sm (fun q => if m < ct T p q then 1 else 0) n
theorem szm_top {T : TT} {n m p : Nat} (h : n ≤ m + 1) : szm T n m p = 1 := by
  unfold szm
  rw [sm_cg (g := fun _ => 0) n (fun i hi => if_neg (by have := (ct_ok T p i).1; omega)), sm_0]
theorem szm_s {T : TT} {n m : Nat} (hm : T 5 (m + 1) < m + 1) (hn : m + 1 < n) (p : Nat) : szm T n m p = if p = T 5 (m + 1) then szm T n (m + 1) p + szm T n (m + 1) (m + 1) else szm T n (m + 1) p := by
  have split1 : ∀ p q, (if m < ct T p q then 1 else 0) = (if m + 1 < ct T p q then 1 else 0) + (if ct T p q = m + 1 then 1 else 0) := by
    intro p q
    by_cases c : ct T p q = m + 1
    · rw [if_pos (by omega), if_neg (by omega), if_pos c]
    · by_cases c2 : m < ct T p q
      · rw [if_pos c2, if_pos (by omega), if_neg c]
      · rw [if_neg c2, if_neg (by omega), if_neg c]
  unfold szm
  rw [sm_add (g := fun q => if m + 1 < ct T p q then 1 else 0) (k := fun q => if ct T p q = m + 1 then 1 else 0) n (fun q _ => split1 p q)]
  by_cases c : p = T 5 (m + 1)
  · rw [if_pos c, c, sm_add (f := fun q => if ct T (T 5 (m + 1)) q = m + 1 then 1 else 0) n (fun q _ => ct_eq hm q), sm_1, if_pos hn]
    omega
  · rw [if_neg c, sm_cg (f := fun q => if ct T p q = m + 1 then 1 else 0) (g := fun _ => 0) n (fun q _ => if_neg (fun e => c (by have := (ct_ok T p q).2 (by omega); rw [e] at this; exact this.1.symm))), sm_0]
    rfl
theorem szm_le (T : TT) (n m p : Nat) : szm T n m p ≤ n + 1 := by
  unfold szm
  have := sm_le (f := fun q => if m < ct T p q then 1 else 0) n (fun i _ => by split <;> omega)
  omega
/-- the reference's way to a size: the places from p on that are deeper -/
theorem sz_run {n : Nat} {T : TT} (h : wf n T) {p e : Nat} (hp : p < n) (he : p < e) (hen : e ≤ n) (h1 : ∀ q, p < q → q < e → T 6 p < T 6 q) (h2 : e < n → T 6 e ≤ T 6 p) : szm T n 0 p = e - p := by
  have key : ∀ q, q < n → (if 0 < ct T p q then 1 else 0) = if p < q ∧ q < e then 1 else 0 := by
    intro q
    induction q using Nat.strongRecOn with
    | ind q ih =>
      intro hq
      by_cases q0 : 0 < q
      · obtain ⟨a1, a2, _, _, _, a6⟩ := h.A hq q0
        rw [ct_s a1]
        by_cases c : T 5 q = p
        · rw [if_pos c, if_pos q0]
          have : q < e := by
            by_cases x : q < e
            · exact x
            · exfalso
              have h3 := h2 (by omega)
              by_cases y : e = q
              · subst y; rw [c] at a2; omega
              · have := a6 e (by omega) (by omega)
                rw [c] at a2; omega
          rw [if_pos (by omega)]
        · rw [if_neg c, ih (T 5 q) a1 (by omega)]
          by_cases x : p < q ∧ q < e
          · rw [if_pos x]
            have h4 := h1 q x.1 x.2
            by_cases y : T 5 q < p
            · have := a6 p y x.1
              omega
            · rw [if_pos (by omega)]
          · rw [if_neg x]
            by_cases y : p < T 5 q ∧ T 5 q < e
            · exfalso
              have h3 := h2 (by omega)
              have h4 := h1 _ y.1 y.2
              by_cases z : e = q
              · subst z; omega
              · have := a6 e y.2 (by omega)
                omega
            · rw [if_neg y]
      · have : q = 0 := by omega
        subst this
        rw [ct_z (by omega), if_neg (by omega), if_neg (by omega)]
  unfold szm
  rw [sm_cg (g := fun q => if p < q ∧ q < e then 1 else 0) n (fun q hq => key q hq)]
  have cnt : ∀ m, sm (fun q => if p < q ∧ q < e then 1 else 0) m = min (m - (p + 1)) (e - (p + 1)) := by
    intro m
    induction m with
    | zero => simp [sm]
    | succ m ih =>
      unfold sm
      rw [ih]
      by_cases c : p < m ∧ m < e
      · rw [if_pos c]; omega
      · rw [if_neg c]; omega
  rw [cnt]
  omega
