/-! THE PURE SIDE: numbers, loops, places -/
theorem ex1 {p q : Prop} (h : ∃ _ : p, q) : p := h.elim fun x _ => x
theorem ex2 {p q : Prop} (h : ∃ _ : p, q) : q := h.elim fun _ y => y
theorem ti_add {x y : Int32} (h1 : -2147483648 ≤ x.toInt + y.toInt) (h2 : x.toInt + y.toInt < 2147483648) : (x + y).toInt = x.toInt + y.toInt := by
  rw [Int32.toInt_add, Int.bmod_eq_of_le (by omega) (by omega)]
theorem ti_sub {x y : Int32} (h1 : -2147483648 ≤ x.toInt - y.toInt) (h2 : x.toInt - y.toInt < 2147483648) : (x - y).toInt = x.toInt - y.toInt := by
  rw [Int32.toInt_sub, Int.bmod_eq_of_le (by omega) (by omega)]
theorem ti_mul {x y : Int32} (h1 : -2147483648 ≤ x.toInt * y.toInt) (h2 : x.toInt * y.toInt < 2147483648) : (x * y).toInt = x.toInt * y.toInt := by
  rw [Int32.toInt_mul, Int.bmod_eq_of_le (by omega) (by omega)]
theorem ti_neg {x : Int32} (h1 : -2147483648 < x.toInt) : (-x).toInt = -x.toInt := by
  have := x.toInt_lt
  rw [Int32.toInt_neg, Int.bmod_eq_of_le (by omega) (by omega)]
theorem ti_div {x y : Int32} (h : y.toInt ≠ -1) : (x / y).toInt = x.toInt.tdiv y.toInt := by
  rw [Int32.toInt_div_of_ne_right]
  intro e
  subst e
  exact h (by decide)
theorem ti_divp {x y : Int32} (hx : 0 ≤ x.toInt) (hy : 0 < y.toInt) : (x / y).toInt = x.toInt / y.toInt := by
  rw [ti_div (by omega), Int.tdiv_eq_ediv_of_nonneg hx]
theorem ti_eq {x y : Int32} (h : x.toInt = y.toInt) : x = y := Int32.toInt_inj.mp h
theorem nI_ofI {x : Int32} (h : 0 ≤ x.toInt) : x = nI x.toInt.toNat := by
  have := x.toInt_lt
  apply ti_eq
  rw [nI_toInt (by omega)]
  omega
theorem vp_nI {i n : Nat} (h : i < n) (hn : n ≤ 100000) : vp_in (nI i) n := by
  rw [vp_in_iff, nI_toInt (by omega)]
  omega
theorem nI_nn' {n : Nat} (h : n ≤ 100000) : ¬ nI n < 0 := fun z => by
  rw [Int32.lt_iff_toInt_lt, nI_toInt (by omega)] at z
  exact absurd z (by show ¬ (n : Int) < 0; omega)
theorem le_nI {x : Int32} {n : Nat} (h : n ≤ 100000) : nI n ≤ x ↔ (n : Int) ≤ x.toInt := by
  rw [Int32.le_iff_toInt_le, nI_toInt (by omega)]
theorem nI_le2 {m n : Nat} (hm : m ≤ 100000) (h : n ≤ 100000) : nI n ≤ nI m ↔ n ≤ m := by
  rw [Int32.le_iff_toInt_le, nI_toInt (by omega), nI_toInt (by omega)]
  omega
theorem nI_inj {m n : Nat} (hm : m ≤ 100000) (h : n ≤ 100000) (e : nI m = nI n) : m = n := by
  have := congrArg Int32.toInt e
  rw [nI_toInt (by omega), nI_toInt (by omega)] at this
  omega
/-- a loop whose index runs by ix, N rounds -/
theorem loopG {σ : Type} (L : Nat → Int32 → σ → Prop) (ix : Nat → Int32) (N : Nat) (Q : Nat → σ → Prop)
    (hd : ∀ n s, Q N s → L (n + 1) (ix N) s)
    (hs : ∀ i n s, i < N → Q i s → (∀ s', Q (i + 1) s' → L n (ix (i + 1)) s') → L (n + 1) (ix i) s) :
    ∀ d i s, i + d = N → Q i s → L (d + 1) (ix i) s := by
  intro d
  induction d with
  | zero =>
    intro i s h hq
    have e : i = N := by omega
    subst e
    exact hd 0 s hq
  | succ d ih =>
    intro i s h hq
    exact hs i (d + 1) s (by omega) hq (fun s' hq' => ih (i + 1) s' (by omega) hq')
theorem loopU {σ : Type} (L : Nat → Int32 → σ → Prop) (N : Nat) (Q : Nat → σ → Prop) (s0 : σ) (h0 : Q 0 s0)
    (hd : ∀ n s, Q N s → L (n + 1) (nI N) s)
    (hs : ∀ i n s, i < N → Q i s → (∀ s', Q (i + 1) s' → L n (nI (i + 1)) s') → L (n + 1) (nI i) s) : ∃ k : Nat, L k 0 s0 :=
  ⟨N + 1, loopG L nI N Q hd hs N 0 s0 (by omega) h0⟩
/-- down from 8 to below 0 -/
def dn8 (i : Nat) : Int32 := nI 8 - nI i
theorem dn8_next (i : Nat) : dn8 i + (-1) = dn8 (i + 1) := by
  unfold dn8
  rw [nI_succ i]
  grind
theorem dn8_in : ∀ i : Fin 9, ¬ dn8 i.1 < 0 ∧ dn8 i.1 = nI (8 - i.1) ∧ dn8 i.1 + 1 = nI (9 - i.1) := by decide +kernel
theorem dn8_end : dn8 9 < 0 := by decide +kernel
theorem loopD {σ : Type} (L : Nat → Int32 → σ → Prop) (Q : Nat → σ → Prop) (s0 : σ) (h0 : Q 0 s0)
    (hd : ∀ n s (y : Int32), y < 0 → Q 9 s → L (n + 1) y s)
    (hs : ∀ i n s, i < 9 → Q i s → (∀ s' (y : Int32), y = nI (8 - i) + (-1) → Q (i + 1) s' → L n y s') → L (n + 1) (nI (8 - i)) s) : ∃ k : Nat, L k 8 s0 := by
  refine ⟨9 + 1, loopG L dn8 9 Q (fun n s hq => hd n s _ dn8_end hq) (fun i n s hi hq hk => ?_) 9 0 s0 (by omega) h0⟩
  have e := (dn8_in ⟨i, hi⟩).2.1
  dsimp only at e
  rw [e]
  refine hs i n s hi hq (fun s' y hy hq' => ?_)
  rw [hy, ← e, dn8_next]
  exact hk s' hq'
/-- sums -/
def sumI (f : Nat → Int) : Nat → Int
  | 0 => 0
  | k + 1 => sumI f k + f k
theorem sumI_cg {f g : Nat → Int} : ∀ n : Nat, (∀ k, k < n → f k = g k) → sumI f n = sumI g n
  | 0, _ => rfl
  | n + 1, h => by
    show sumI f n + f n = sumI g n + g n
    rw [sumI_cg n (fun k hk => h k (by omega)), h n (by omega)]
theorem sumI_1 {f g : Nat → Int} {i : Nat} : ∀ n : Nat, i < n → (∀ k, k < n → k ≠ i → f k = g k) → sumI f n = sumI g n - g i + f i
  | 0, h, _ => absurd h (by omega)
  | n + 1, h, e => by
    show sumI f n + f n = sumI g n + g n - g i + f i
    by_cases hi : i = n
    · subst hi
      rw [sumI_cg i (fun k hk => e k (by omega) (by omega))]
      omega
    · rw [sumI_1 n (by omega) (fun k hk hn => e k (by omega) hn), e n (by omega) (fun z => hi z.symm)]
      omega
theorem sumI_2 {f g : Nat → Int} {i i' : Nat} (n : Nat) (h : i < n) (h' : i' < n) (hne : i ≠ i') (e : ∀ k, k < n → k ≠ i → k ≠ i' → f k = g k) : sumI f n = sumI g n - g i - g i' + f i + f i' := by
  have e1 := sumI_1 (f := f) (g := fun k => if k = i' then f i' else g k) (i := i) n h (fun k hk hn => by
    by_cases z : k = i'
    · subst z; simp
    · simp only [z, if_false]
      exact e k hk hn z)
  have e2 := sumI_1 (f := fun k => if k = i' then f i' else g k) (g := g) (i := i') n h' (fun k hk hn => if_neg hn)
  simp only [if_true, hne, if_false] at e1 e2
  omega
theorem sumI_le {f : Nat → Int} : ∀ n : Nat, (∀ k, k < n → 0 ≤ f k) → 0 ≤ sumI f n ∧ ∀ k, k < n → f k ≤ sumI f n
  | 0, _ => ⟨Int.le_refl 0, fun k hk => absurd hk (by omega)⟩
  | n + 1, h => by
    obtain ⟨h1, h2⟩ := sumI_le n (fun k hk => h k (by omega))
    have h3 := h n (by omega)
    show 0 ≤ sumI f n + f n ∧ ∀ k, k < n + 1 → f k ≤ sumI f n + f n
    refine ⟨by omega, fun k hk => ?_⟩
    by_cases z : k = n
    · subst z; omega
    · have := h2 k (by omega)
      omega
def sum32 (f : Nat → Int32) : Nat → Int32
  | 0 => 0
  | k + 1 => sum32 f k + f k
theorem sum32_cg {f g : Nat → Int32} : ∀ n : Nat, (∀ k, k < n → f k = g k) → sum32 f n = sum32 g n
  | 0, _ => rfl
  | n + 1, h => by
    show sum32 f n + f n = sum32 g n + g n
    rw [sum32_cg n (fun k hk => h k (by omega)), h n (by omega)]
theorem sum32_1 {f g : Nat → Int32} {i : Nat} : ∀ n : Nat, i < n → (∀ k, k < n → k ≠ i → f k = g k) → sum32 f n = sum32 g n - g i + f i
  | 0, h, _ => absurd h (by omega)
  | n + 1, h, e => by
    show sum32 f n + f n = sum32 g n + g n - g i + f i
    by_cases hi : i = n
    · subst hi
      rw [sum32_cg i (fun k hk => e k (by omega) (by omega))]
      grind
    · rw [sum32_1 n (by omega) (fun k hk hn => e k (by omega) hn), e n (by omega) (fun z => hi z.symm)]
      grind
theorem sum32_2 {f g : Nat → Int32} {i i' : Nat} (n : Nat) (h : i < n) (h' : i' < n) (hne : i ≠ i') (e : ∀ k, k < n → k ≠ i → k ≠ i' → f k = g k) : sum32 f n = sum32 g n - g i - g i' + f i + f i' := by
  have e1 := sum32_1 (f := f) (g := fun k => if k = i' then f i' else g k) (i := i) n h (fun k hk hn => by
    by_cases z : k = i'
    · subst z; simp
    · simp only [z, if_false]
      exact e k hk hn z)
  have e2 := sum32_1 (f := fun k => if k = i' then f i' else g k) (g := g) (i := i') n h' (fun k hk hn => if_neg hn)
  simp only [if_true, hne, if_false] at e1 e2
  grind
theorem sum32_ti {f : Nat → Int32} {B : Int} (hB : B < 2147483648) : ∀ n : Nat, (∀ k, k < n → 0 ≤ (f k).toInt) → sumI (fun k => (f k).toInt) n ≤ B → (sum32 f n).toInt = sumI (fun k => (f k).toInt) n
  | 0, _, _ => rfl
  | n + 1, h, hb => by
    have h1 := (sumI_le (f := fun k => (f k).toInt) n (fun k hk => h k (by omega))).1
    have h3 := h n (by omega)
    have hb' : sumI (fun k => (f k).toInt) n + (f n).toInt ≤ B := hb
    have ih := sum32_ti (f := f) (B := B) hB n (fun k hk => h k (by omega)) (by omega)
    show (sum32 f n + f n).toInt = sumI (fun k => (f k).toInt) n + (f n).toInt
    rw [ti_add (by omega) (by omega), ih]
/-- up2 at a place -/
theorem up2_eq (w : Dt) (i k : Nat) (x : Int32) : up2 w i k x i k = x := if_pos ⟨rfl, rfl⟩
theorem up2_no {w : Dt} {i k i' k' : Nat} {x : Int32} (h : ¬ (i' = i ∧ k' = k)) : up2 w i k x i' k' = w i' k' := if_neg h
theorem up2_nr {w : Dt} {i k i' k' : Nat} {x : Int32} (h : i' ≠ i) : up2 w i k x i' k' = w i' k' := if_neg (fun z => h z.1)
theorem up2_nk {w : Dt} {i k i' k' : Nat} {x : Int32} (h : k' ≠ k) : up2 w i k x i' k' = w i' k' := if_neg (fun z => h z.2)
def itr (f : Dt → Nat → Dt) (w : Dt) : Nat → Dt
  | 0 => w
  | k + 1 => f (itr f w k) k
