/-! best answers, purely -/
def gn (w : Nat) (x y : Int64) : Int64 := if w = 0 then y - x else x - y
def chL (w : Nat) (S : Nat → Int64) (br : Nat → Bool) : Nat → Nat → Nat → Nat
  | 0, _, c => c
  | m + 1, a, c => chL w S br m (a + 1) (if ¬ gn w (S c) (S a) ≤ 0 ∧ br a = false then a else c)
def c0 (br : Nat → Bool) : Nat := if br 0 = true then 1 else 0
def chs (w : Nat) (S : Nat → Int64) (br : Nat → Bool) (m : Nat) : Nat := chL w S br (m - (c0 br + 1)) (c0 br + 1) (c0 br)
theorem chL_cg {w : Nat} {S S' : Nat → Int64} {br : Nat → Bool} {N : Nat} (h : ∀ a, a < N → S a = S' a) : ∀ m a c, a + m ≤ N → c < N → chL w S br m a c = chL w S' br m a c ∧ chL w S br m a c < N
  | 0, a, c, _, hc => ⟨rfl, hc⟩
  | m + 1, a, c, ha, hc => by
    unfold chL
    rw [h c hc, h a (by omega)]
    refine chL_cg h m (a + 1) _ (by omega) ?_
    split <;> omega
theorem c0_le (br : Nat → Bool) : c0 br ≤ 1 := by unfold c0; split <;> omega
theorem chs_cg {w : Nat} {S S' : Nat → Int64} {br : Nat → Bool} {m : Nat} (hm : 2 ≤ m) (h : ∀ a, a < m → S a = S' a) : chs w S br m = chs w S' br m ∧ chs w S br m < m := by
  have := c0_le br
  exact chL_cg h _ _ _ (by omega) (by omega)
def wv (T : TT) (w : Nat) (c : Nat → Int64) (b : Nat → Nat) (W : Nat → Int64) (p : Nat) : Int64 := if T 1 p = 0 then (nz (T 2 p)).toInt64 * c p else if T 1 p = 2 + w then W (T 9 (4 * p + b p)) else sL (fun k => W (T 9 (4 * p + k))) (T 4 p)
def su (T : TT) (n w : Nat) (gr : Nat → Nat) (W : Nat → Int64) (G a : Nat) : Int64 := sL (fun q => if T 1 q = 2 + w ∧ gr q = G then W (T 9 (4 * q + a)) else 0) n
def brr (bs ba : Nat) (s a : Nat) : Bool := decide (s = bs ∧ a = ba)
/-- groups of own places: one set, one level -/
def grOk (T : TT) (n w : Nat) (gr : Nat → Nat) : Prop := ∀ p q, p < n → q < n → T 1 p = 2 + w → T 1 q = 2 + w → gr p = gr q → lv T w p = lv T w q ∧ T 3 p = T 3 q
theorem ch_lv {n : Nat} {T : TT} (h : wf n T) {w p k : Nat} (hp : p < n) (hk : k < T 4 p) : p < T 9 (4 * p + k) ∧ T 9 (4 * p + k) < n ∧ lv T w (T 9 (4 * p + k)) = lv T w p + (if T 1 p = 2 + w then 1 else 0) := by
  obtain ⟨a, b, c, d⟩ := h.2.2 p k hp hk
  refine ⟨a, b, ?_⟩
  rw [lv_s (by rw [c]; exact a), c]
theorem lv_8 {n : Nat} {T : TT} (h : wf n T) {w p : Nat} (hp : p < n) : lv T w p ≤ 8 := by
  have := (ps_len h w p hp).2.1
  have := (h.K hp).1
  omega
theorem own_4 {n : Nat} {T : TT} (h : wf n T) {w p : Nat} (hp : p < n) (ho : T 1 p = 2 + w) (hw : w < 2) : 2 ≤ T 4 p ∧ T 4 p ≤ 3 ∧ T 3 p < 10 ∧ T 14 (T 3 p) = T 4 p ∧ T 13 (T 3 p) = w := by
  have := (h.K hp).2
  omega
/-- two solutions agree where their acts do -/
theorem wv_agree {n : Nat} {T : TT} (h : wf n T) {w k : Nat} (hw : w < 2) {c : Nat → Int64} {b b' : Nat → Nat} {W W' : Nat → Int64} (h1 : ∀ p, p < n → W p = wv T w c b W p) (h2 : ∀ p, p < n → W' p = wv T w c b' W' p) (hb : ∀ p, p < n → T 1 p = 2 + w → k ≤ lv T w p → b p = b' p ∧ b p < T 4 p) : ∀ m p, p + m = n → 0 < m → k ≤ lv T w p → W p = W' p := by
  intro m
  induction m using Nat.strongRecOn with
  | ind m ih =>
    intro p hm m0 hl
    have hp : p < n := by omega
    rw [h1 p hp, h2 p hp]
    unfold wv
    by_cases e0 : T 1 p = 0
    · rw [if_pos e0, if_pos e0]
    · rw [if_neg e0, if_neg e0]
      by_cases e1 : T 1 p = 2 + w
      · rw [if_pos e1, if_pos e1]
        obtain ⟨b1, b2⟩ := hb p hp e1 hl
        obtain ⟨a1, a2, a3⟩ := ch_lv (w := w) h hp b2
        rw [← b1]
        exact ih (n - T 9 (4 * p + b p)) (by omega) _ (by omega) (by omega) (by rw [if_pos e1] at a3; omega)
      · rw [if_neg e1, if_neg e1]
        apply sL_cg
        intro j hj
        obtain ⟨a1, a2, a3⟩ := ch_lv (w := w) h hp hj
        exact ih (n - T 9 (4 * p + j)) (by omega) _ (by omega) (by omega) (by rw [if_neg e1] at a3; omega)
theorem su_cg {n : Nat} {T : TT} (h : wf n T) {w : Nat} (hw : w < 2) {gr : Nat → Nat} (hg : grOk T n w gr) {W W' : Nat → Int64} {p : Nat} (hp : p < n) (ho : T 1 p = 2 + w) (hW : ∀ q, q < n → lv T w q = lv T w p + 1 → W q = W' q) {a : Nat} (ha : a < T 4 p) : su T n w gr W (gr p) a = su T n w gr W' (gr p) a := by
  unfold su
  apply sL_cg
  intro q hq
  by_cases c : T 1 q = 2 + w ∧ gr q = gr p
  · rw [if_pos c, if_pos c]
    obtain ⟨g1, g2⟩ := hg q p hq hp c.1 ho c.2
    have o1 := own_4 h hp ho hw
    have o2 := own_4 h hq c.1 hw
    rw [g2] at o2
    obtain ⟨a1, a2, a3⟩ := ch_lv (w := w) (k := a) h hq (by omega)
    rw [if_pos c.1] at a3
    exact hW _ a2 (by omega)
  · rw [if_neg c, if_neg c]
def Sol (T : TT) (n w : Nat) (c : Nat → Int64) (gr : Nat → Nat) (bs ba : Nat) (W : Nat → Int64) (b : Nat → Nat) : Prop := (∀ p, p < n → W p = wv T w c b W p) ∧ (∀ p, p < n → T 1 p = 2 + w → b p = chs w (su T n w gr W (gr p)) (brr bs ba (T 3 p)) (T 4 p))
theorem su_gr {n : Nat} {T : TT} {w : Nat} {gr gr' : Nat → Nat} (he : ∀ p q, p < n → q < n → T 1 p = 2 + w → T 1 q = 2 + w → (gr p = gr q ↔ gr' p = gr' q)) {W : Nat → Int64} {p : Nat} (hp : p < n) (ho : T 1 p = 2 + w) (a : Nat) : su T n w gr W (gr p) a = su T n w gr' W (gr' p) a := by
  unfold su
  apply sL_cg
  intro q hq
  by_cases c : T 1 q = 2 + w
  · have := he q p hq hp c ho
    by_cases d : gr q = gr p
    · rw [if_pos ⟨c, d⟩, if_pos ⟨c, this.mp d⟩]
    · rw [if_neg (fun z => d z.2), if_neg (fun z => d (this.mpr z.2))]
  · rw [if_neg (fun z => c z.1), if_neg (fun z => c z.1)]
theorem Sol.uniq {n : Nat} {T : TT} (h : wf n T) {w : Nat} (hw : w < 2) {c c' : Nat → Int64} {gr gr' : Nat → Nat} {bs ba : Nat} {W W' : Nat → Int64} {b b' : Nat → Nat} (hc : ∀ p, p < n → c p = c' p) (hg : grOk T n w gr) (he : ∀ p q, p < n → q < n → T 1 p = 2 + w → T 1 q = 2 + w → (gr p = gr q ↔ gr' p = gr' q)) (h1 : Sol T n w c gr bs ba W b) (h2 : Sol T n w c' gr' bs ba W' b') : ∀ p, p < n → W p = W' p ∧ (T 1 p = 2 + w → b p = b' p) := by
  have h2' : ∀ p, p < n → W' p = wv T w c b' W' p := fun p hp => by
    rw [h2.1 p hp]
    unfold wv
    rw [hc p hp]
  have main : ∀ m k, k + m = 9 → ∀ p, p < n → k ≤ lv T w p → W p = W' p ∧ (T 1 p = 2 + w → b p = b' p) := by
    intro m
    induction m with
    | zero =>
      intro k hk p hp hl
      have := lv_8 (w := w) h hp
      omega
    | succ m ih =>
      intro k hk
      have ih' := ih (k + 1) (by omega)
      have hb : ∀ p, p < n → T 1 p = 2 + w → k ≤ lv T w p → b p = b' p ∧ b p < T 4 p := by
        intro p hp ho hl
        have o4 := own_4 h hp ho hw
        have e1 := h1.2 p hp ho
        have e2 := h2.2 p hp ho
        have lt : b p < T 4 p := by rw [e1]; exact (chs_cg o4.1 (fun a _ => rfl)).2
        refine ⟨?_, lt⟩
        by_cases x : k + 1 ≤ lv T w p
        · exact (ih' p hp x).2 ho
        · rw [e1, e2]
          refine (chs_cg o4.1 (fun a ha => ?_)).1
          rw [← su_gr he hp ho a]
          exact su_cg h hw hg hp ho (fun q hq hl => (ih' q hq (by omega)).1) ha
      intro p hp hl
      exact ⟨wv_agree h hw h1.1 h2' hb (n - p) p (by omega) (by omega) hl, fun ho => (hb p hp ho hl).1⟩
  intro p hp
  exact main 9 0 (by omega) p hp (Nat.zero_le _)
/-! bounds -/
def bnd (x : Int64) (N : Nat) : Prop := 0 ≤ x.toInt ∧ x.toInt ≤ N
theorem bnd_add {x y : Int64} {a b : Nat} (hx : bnd x a) (hy : bnd y b) (h : a + b < 2 ^ 63) : bnd (x + y) (a + b) := by
  have e : (x + y).toInt = x.toInt + y.toInt := by
    rw [Int64.toInt_add, Int.bmod_eq_of_le]
    · have := hx.1; have := hy.1; omega
    · have := hx.2; have := hy.2; omega
  unfold bnd at *
  rw [e]
  omega
theorem bnd_0 (a : Nat) : bnd 0 a := by
  unfold bnd
  rw [show (0 : Int64).toInt = 0 from rfl]
  omega
theorem bnd_mo {x : Int64} {a b : Nat} (h : bnd x a) (hab : a ≤ b) : bnd x b := ⟨h.1, by have := h.2; omega⟩
theorem sL_bnd {f : Nat → Int64} {M : Nat} : ∀ n, (∀ i, i < n → bnd (f i) M) → n * M < 2 ^ 63 → bnd (sL f n) (n * M)
  | 0, _, _ => bnd_0 _
  | n + 1, h, hb => by
    have e : (n + 1) * M = n * M + M := Nat.succ_mul n M
    unfold sL
    rw [e] at hb ⊢
    exact bnd_add (sL_bnd n (fun i hi => h i (by omega)) (by omega)) (h n (by omega)) hb
theorem bnd_mul {x y : Int64} {a b : Nat} (hx : bnd x a) (hy : bnd y b) (h : a * b < 2 ^ 63) : bnd (x * y) (a * b) := by
  obtain ⟨x1, x2⟩ := hx
  obtain ⟨y1, y2⟩ := hy
  have p0 : 0 ≤ x.toInt * y.toInt := Int.mul_nonneg x1 y1
  have p1 : x.toInt * y.toInt ≤ (a : Int) * (b : Int) := Int.mul_le_mul x2 y2 y1 (by omega)
  have p2 : ((a * b : Nat) : Int) = (a : Int) * (b : Int) := by simp
  have e : (x * y).toInt = x.toInt * y.toInt := by
    rw [Int64.toInt_mul, Int.bmod_eq_of_le]
    · omega
    · omega
  unfold bnd
  rw [e]
  omega
def CB : Nat := 60 * 429981696
theorem wv_bnd {n : Nat} {T : TT} (h : wf n T) {w : Nat} (hw : w < 2) {c : Nat → Int64} {b : Nat → Nat} {W : Nat → Int64} (hc : ∀ p, p < n → bnd (c p) CB) (h1 : ∀ p, p < n → W p = wv T w c b W p) (hb : ∀ p, p < n → T 1 p = 2 + w → b p < T 4 p) : ∀ m p, p + m = n → 0 < m → bnd (W p) (4 ^ (8 - T 6 p) * (99 * CB)) := by
  intro m
  induction m using Nat.strongRecOn with
  | ind m ih =>
    intro p hm m0
    have hp : p < n := by omega
    have k := h.K hp
    have k4 := wK4 k
    obtain ⟨k6, kc⟩ := k
    have pw : 1 ≤ 4 ^ (8 - T 6 p) := Nat.one_le_pow _ _ (by decide)
    have pw8 : 4 ^ (8 - T 6 p) ≤ 4 ^ 8 := Nat.pow_le_pow_right (by decide) (by omega)
    have n8 : 4 ^ 8 = 65536 := by decide
    rw [h1 p hp]
    unfold wv
    by_cases e0 : T 1 p = 0
    · rw [if_pos e0]
      have b1 : bnd ((nz (T 2 p)).toInt64) 99 := by
        rw [nz_lt (by omega), nI_l (by omega)]
        unfold bnd
        rw [pk_lT (by omega)]
        omega
      refine bnd_mo (bnd_mul b1 (hc p hp) (by unfold CB; decide)) ?_
      exact Nat.le_mul_of_pos_left _ (by omega)
    · rw [if_neg e0]
      have chd : ∀ j, j < T 4 p → bnd (W (T 9 (4 * p + j))) (4 ^ (8 - (T 6 p + 1)) * (99 * CB)) := by
        intro j hj
        obtain ⟨a, a2, c2, d⟩ := h.2.2 p j hp hj
        have := ih (n - T 9 (4 * p + j)) (by omega) (T 9 (4 * p + j)) (by omega) (by omega)
        have e6 := (h.A a2 (by omega)).2.1
        rw [c2] at e6
        rw [e6] at this
        exact this
      have d8 : T 6 p < 8 := by omega
      have e4 : 4 ^ (8 - T 6 p) = 4 * 4 ^ (8 - (T 6 p + 1)) := by
        rw [show 8 - T 6 p = (8 - (T 6 p + 1)) + 1 by omega, Nat.pow_succ, Nat.mul_comm]
      by_cases e1 : T 1 p = 2 + w
      · rw [if_pos e1]
        refine bnd_mo (chd _ (hb p hp e1)) ?_
        rw [e4, Nat.mul_assoc]
        omega
      · rw [if_neg e1]
        have small : 4 ^ (8 - (T 6 p + 1)) ≤ 4 ^ 8 := Nat.pow_le_pow_right (by decide) (by omega)
        have big : T 4 p * (4 ^ (8 - (T 6 p + 1)) * (99 * CB)) ≤ 4 * (4 ^ (8 - (T 6 p + 1)) * (99 * CB)) := Nat.mul_le_mul_right _ k4
        have lim : 4 * (4 ^ (8 - (T 6 p + 1)) * (99 * CB)) < 2 ^ 63 := by
          have : 4 ^ (8 - (T 6 p + 1)) * (99 * CB) ≤ 4 ^ 8 * (99 * CB) := Nat.mul_le_mul_right _ small
          have l2 : 4 * (4 ^ 8 * (99 * CB)) < 2 ^ 63 := by unfold CB; decide
          omega
        refine bnd_mo (sL_bnd _ chd (by omega)) ?_
        rw [e4, Nat.mul_assoc]
        exact big
theorem su_bnd {n : Nat} {T : TT} (h : wf n T) {w : Nat} (hw : w < 2) {c : Nat → Int64} {b : Nat → Nat} {W : Nat → Int64} (hc : ∀ p, p < n → bnd (c p) CB) (h1 : ∀ p, p < n → W p = wv T w c b W p) (hb : ∀ p, p < n → T 1 p = 2 + w → b p < T 4 p) {gr : Nat → Nat} {G a : Nat} (ha : ∀ q, q < n → T 1 q = 2 + w → gr q = G → a < T 4 q) : bnd (su T n w gr W G a) (60 * (4 ^ 7 * (99 * CB))) := by
  have n60 : n ≤ 60 := h.2.1
  unfold su
  refine bnd_mo (sL_bnd (M := 4 ^ 7 * (99 * CB)) n (fun q hq => ?_) ?_) (Nat.mul_le_mul_right _ n60)
  · by_cases d : T 1 q = 2 + w ∧ gr q = G
    · rw [if_pos d]
      have a4 := ha q hq d.1 d.2
      obtain ⟨z1, a2, c2, d2⟩ := h.2.2 q _ hq a4
      refine bnd_mo (wv_bnd h hw hc h1 hb (n - T 9 (4 * q + a)) (T 9 (4 * q + a)) (by omega) (by omega)) (Nat.mul_le_mul_right _ (Nat.pow_le_pow_right (by decide) ?_))
      have e6 := (h.A a2 (by omega)).2.1
      omega
    · rw [if_neg d]
      exact bnd_0 _
  · have : n * (4 ^ 7 * (99 * CB)) ≤ 60 * (4 ^ 7 * (99 * CB)) := Nat.mul_le_mul_right _ n60
    have l2 : 60 * (4 ^ 7 * (99 * CB)) < 2 ^ 63 := by unfold CB; decide
    omega
theorem gn_neg {x y : Int64} {N : Nat} (hx : bnd x N) (hy : bnd y N) (hN : N < 2 ^ 63) : (¬ (x - y) ≤ 0) ↔ (¬ (0 : Int64) ≤ y - x) := by
  have e1 : (x - y).toInt = x.toInt - y.toInt := by
    rw [Int64.toInt_sub, Int.bmod_eq_of_le]
    · have := hx.1; have := hy.2; omega
    · have := hx.2; have := hy.1; omega
  have e2 : (y - x).toInt = y.toInt - x.toInt := by
    rw [Int64.toInt_sub, Int.bmod_eq_of_le]
    · have := hy.1; have := hx.2; omega
    · have := hy.2; have := hx.1; omega
  rw [fa_le64, fa_le64, e1, e2, show (0 : Int64).toInt = 0 from rfl]
  omega
