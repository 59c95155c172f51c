/-! THE PURE SIDE: writes of ints alone -/
def WK (ow n : Nat → Nat) (rr : Nat → Nat → Nat) (ww0 : Dt) (b a : Nat) (ww w : Dt) : Prop := 1000 ≤ b ∧ WR ow n rr ww b a w ∧ ∀ c, ¬ (b < ow c ∧ ow c < b + 100) → ww c = ww0 c
section NSWK
variable {ow n : Nat → Nat} {rr : Nat → Nat → Nat} {ww0 ww : Dt} {b a : Nat} {w : Dt}
theorem WK.put0 (h : WK ow n rr ww0 b a ww w) {p k : Nat} (hl : lv (n (rr a 8)) (n (rr a 9)) (n (rr a 10)) p k) (hp : p < 20 ∨ 22 ≤ p) (h13 : p ≠ 13) (y : Int32) : WK ow n rr ww0 b a (up2 ww (RA rr a p k) (RI p k) y) (up2 w p k y) := by
  refine ⟨h.1, h.2.1.put h.1 hl hp h13 y, fun c hc => ?_⟩
  rw [up2_ne (fun z => ?_)]
  · exact h.2.2 c hc
  · subst z
    rcases h.2.1.own hl with ⟨-, e1⟩ | ⟨q1, q2, e1⟩
    · have h1 := h.2.1.nC
      have h2 := h.2.1.nS
      have : oc p k < 100 ∧ 0 < oc p k := by
        rcases hl with ⟨rfl, rfl⟩ | ⟨rfl, z'⟩ | ⟨rfl, z'⟩ | ⟨rfl, z'⟩ | ⟨rfl, z'⟩ | ⟨z1, z2, z3, z4⟩ | ⟨z1, z2, z3⟩ | ⟨z1, z2, z3⟩ | ⟨z1, z2, z3⟩
        · decide
        · exact ⟨by show 1 < 100; decide, by show 0 < 1; decide⟩
        · exact ⟨by show 2 < 100; decide, by show 0 < 2; decide⟩
        · exact ⟨by show 1 < 100; decide, by show 0 < 1; decide⟩
        · exact ⟨by show 5 < 100; decide, by show 0 < 5; decide⟩
        · rw [oc_st z1 z2]; omega
        · rw [oc_sc (by omega) z2]; omega
        · omega
        · rw [oc_v z1]; omega
      omega
    · omega
theorem lvv {C S N k v : Nat} (hk : k < 10) (hv : v < 3) : lv C S N (k + 22) v := Or.inr (Or.inr (Or.inr (Or.inr (Or.inr (Or.inr (Or.inr (Or.inr ⟨by omega, by omega, hv⟩)))))))
theorem lvi {C S N k v : Nat} (hk : k < 10) (hv : v < 3) : lv C S N (k + 32) v := Or.inr (Or.inr (Or.inr (Or.inr (Or.inr (Or.inr (Or.inr (Or.inr ⟨by omega, by omega, hv⟩)))))))
theorem lvt {C S N k : Nat} (hk : k < 10) : lv C S N 2 k := Or.inr (Or.inr (Or.inl ⟨rfl, hk⟩))
theorem lvb {C S N k : Nat} (hk : k < 12) : lv C S N 6 k := Or.inr (Or.inr (Or.inr (Or.inr (Or.inl ⟨rfl, hk⟩))))
theorem lvs {C S N p k : Nat} (h1 : 8 ≤ p) (h2 : p < 15) (h3 : p ≠ 12) (hk : k < C) : lv C S N p k := Or.inr (Or.inr (Or.inr (Or.inr (Or.inr (Or.inl ⟨h1, h2, h3, hk⟩)))))
theorem lvc {C S N p k : Nat} (h1 : 16 ≤ p) (h2 : p < 19) (hk : k < S) : lv C S N p k := Or.inr (Or.inr (Or.inr (Or.inr (Or.inr (Or.inr (Or.inl ⟨h1, h2, hk⟩))))))
theorem lvn {C S N p k : Nat} (h1 : 20 ≤ p) (h2 : p < 22) (hk : k < N) : lv C S N p k := Or.inr (Or.inr (Or.inr (Or.inr (Or.inr (Or.inr (Or.inr (Or.inl ⟨h1, h2, hk⟩)))))))
theorem WK.v (h : WK ow n rr ww0 b a ww w) {k v : Nat} (hk : k < 10) (hv : v < 3) (y : Int32) : WK ow n rr ww0 b a (up2 ww (rr (rr a 1) k) v y) (up2 w (k + 22) v y) := by
  have := h.put0 (lvv hk hv) (by omega) (by omega) y
  rw [RA_v hk, RI_b (by omega)] at this
  exact this
theorem WK.i (h : WK ow n rr ww0 b a ww w) {k v : Nat} (hk : k < 10) (hv : v < 3) (y : Int32) : WK ow n rr ww0 b a (up2 ww (rr (rr a 2) k) v y) (up2 w (k + 32) v y) := by
  have := h.put0 (lvi hk hv) (by omega) (by omega) y
  rw [RA_i, RI_b (by omega)] at this
  exact this
theorem WK.t (h : WK ow n rr ww0 b a ww w) {k : Nat} (hk : k < 10) (y : Int32) : WK ow n rr ww0 b a (up2 ww (rr a 0) k y) (up2 w 2 k y) := h.put0 (lvt hk) (by omega) (by omega) y
theorem WK.b6 (h : WK ow n rr ww0 b a ww w) {k : Nat} (hk : k < 12) (y : Int32) : WK ow n rr ww0 b a (up2 ww (rr a 5) k y) (up2 w 6 k y) := h.put0 (lvb hk) (by omega) (by omega) y
theorem WK.r3 (h : WK ow n rr ww0 b a ww w) (y : Int32) : WK ow n rr ww0 b a (up2 ww a 3 y) (up2 w 1 3 y) := h.put0 (Or.inr (Or.inl ⟨rfl, Or.inl rfl⟩)) (by omega) (by omega) y
theorem WK.r4 (h : WK ow n rr ww0 b a ww w) (y : Int32) : WK ow n rr ww0 b a (up2 ww a 4 y) (up2 w 1 4 y) := h.put0 (Or.inr (Or.inl ⟨rfl, Or.inr rfl⟩)) (by omega) (by omega) y
theorem WK.r6 (h : WK ow n rr ww0 b a ww w) (y : Int32) : WK ow n rr ww0 b a (up2 ww a 6 y) (up2 w 5 1 y) := h.put0 (Or.inr (Or.inr (Or.inr (Or.inl ⟨rfl, Or.inl rfl⟩)))) (by omega) (by omega) y
theorem WK.r7 (h : WK ow n rr ww0 b a ww w) (y : Int32) : WK ow n rr ww0 b a (up2 ww a 7 y) (up2 w 5 2 y) := h.put0 (Or.inr (Or.inr (Or.inr (Or.inl ⟨rfl, Or.inr rfl⟩)))) (by omega) (by omega) y
theorem WK.r11 (h : WK ow n rr ww0 b a ww w) (y : Int32) : WK ow n rr ww0 b a (up2 ww a 11 y) (up2 w 0 5 y) := h.put0 (Or.inl ⟨rfl, rfl⟩) (by omega) (by omega) y
theorem WK.s (h : WK ow n rr ww0 b a ww w) {p k : Nat} (h1 : 8 ≤ p) (h2 : p < 12 ∨ p = 14) (hk : k < n (rr a 8)) (y : Int32) : WK ow n rr ww0 b a (up2 ww (rr (rr a 8) k) (p - 8) y) (up2 w p k y) := by
  have := h.put0 (lvs h1 (by omega) (by omega) hk) (by omega) (by omega) y
  rw [RA_st (by omega) (by omega), RI_st h1 (by omega)] at this
  exact this
theorem WK.c2 (h : WK ow n rr ww0 b a ww w) {k : Nat} (hk : k < n (rr a 9)) (y : Int32) : WK ow n rr ww0 b a (up2 ww (rr (rr a 9) k) 2 y) (up2 w 17 k y) := by
  have := h.put0 (lvc (p := 17) (by omega) (by omega) hk) (by omega) (by omega) y
  rw [RA_sc (by omega) (by omega)] at this
  exact this
theorem WK.kill (h : WK ow n rr ww0 b a ww w) {k : Nat} (hk : k < n (rr a 8)) : WK ow n rr ww0 b a (up2 (up2 ww (rr (rr a 8) k) 5 1) (rr (rr a 8) k) 4 45) (up2 w 13 k 0) := by
  refine ⟨h.1, h.2.1.kill h.1 hk, fun c hc => ?_⟩
  have e := h.2.1.os k hk
  have e2 := h.2.1.nC
  rw [up2_ne (fun z => by subst z; omega), up2_ne (fun z => by subst z; omega)]
  exact h.2.2 c hc
theorem WK.name (h : WK ow n rr ww0 b a ww w) {k : Nat} (hk : k < n (rr a 8)) (h1 : w 13 k = 1) (y : Int32) : WK ow n rr ww0 b a (up2 ww (rr (rr a 8) k) 4 y) (up2 w 12 k y) := by
  refine ⟨h.1, h.2.1.name hk h1 y, fun c hc => ?_⟩
  have e := h.2.1.os k hk
  have e2 := h.2.1.nC
  rw [up2_ne (fun z => by subst z; omega)]
  exact h.2.2 c hc
/-- a write of the class's told sums -/
theorem WK.told (h : WK ow n rr ww0 b a ww w) {p k : Nat} (hp : (p = 1 ∧ 5 ≤ k) ∨ (p = 5 ∧ 3 ≤ k)) (y : Int32) : WK ow n rr ww0 b a ww (up2 w p k y) :=
  ⟨h.1, h.2.1.cg (fun p' k' _ h1 h5 => up2_no (by omega)), h.2.2⟩
theorem WK.rv (h : WK ow n rr ww0 b a ww w) {k v : Nat} (hk : k < 10) (hv : v < 3) : ww (rr (rr a 1) k) v = w (k + 22) v := by
  have := h.2.1.da (k + 22) v (lvv hk hv)
  rw [gx_n (by omega), RA_v hk, RI_b (by omega)] at this
  exact this.symm
theorem WK.ri (h : WK ow n rr ww0 b a ww w) {k v : Nat} (hk : k < 10) (hv : v < 3) : ww (rr (rr a 2) k) v = w (k + 32) v := by
  have := h.2.1.da (k + 32) v (lvi hk hv)
  rw [gx_n (by omega), RA_i, RI_b (by omega)] at this
  exact this.symm
theorem WK.rt (h : WK ow n rr ww0 b a ww w) {k : Nat} (hk : k < 10) : ww (rr a 0) k = w 2 k := (h.2.1.da 2 k (lvt hk)).symm
theorem WK.rb (h : WK ow n rr ww0 b a ww w) {k : Nat} (hk : k < 12) : ww (rr a 5) k = w 6 k := (h.2.1.da 6 k (lvb hk)).symm
theorem WK.rr3 (h : WK ow n rr ww0 b a ww w) : ww a 3 = w 1 3 := (h.2.1.da 1 3 (Or.inr (Or.inl ⟨rfl, Or.inl rfl⟩))).symm
theorem WK.rr4 (h : WK ow n rr ww0 b a ww w) : ww a 4 = w 1 4 := (h.2.1.da 1 4 (Or.inr (Or.inl ⟨rfl, Or.inr rfl⟩))).symm
theorem WK.rr6 (h : WK ow n rr ww0 b a ww w) : ww a 6 = w 5 1 := (h.2.1.da 5 1 (Or.inr (Or.inr (Or.inr (Or.inl ⟨rfl, Or.inl rfl⟩))))).symm
theorem WK.rr7 (h : WK ow n rr ww0 b a ww w) : ww a 7 = w 5 2 := (h.2.1.da 5 2 (Or.inr (Or.inr (Or.inr (Or.inl ⟨rfl, Or.inr rfl⟩))))).symm
theorem WK.rr11 (h : WK ow n rr ww0 b a ww w) : ww a 11 = w 0 5 := (h.2.1.da 0 5 (Or.inl ⟨rfl, rfl⟩)).symm
theorem WK.rs (h : WK ow n rr ww0 b a ww w) {p k : Nat} (h1 : 8 ≤ p) (h2 : p < 12 ∨ p = 14) (hk : k < n (rr a 8)) : ww (rr (rr a 8) k) (p - 8) = w p k := by
  have := h.2.1.da p k (lvs h1 (by omega) (by omega) hk)
  rw [gx_n (by omega), RA_st (by omega) (by omega), RI_st h1 (by omega)] at this
  exact this.symm
theorem WK.rg (h : WK ow n rr ww0 b a ww w) {k : Nat} (hk : k < n (rr a 8)) : w 13 k = 1 - ww (rr (rr a 8) k) 5 := by
  have := h.2.1.da 13 k (lvs (by omega) (by omega) (by omega) hk)
  rw [gx_13, RA_st (by omega) (by omega)] at this
  exact this
theorem WK.rg0 (h : WK ow n rr ww0 b a ww w) {k : Nat} (hk : k < n (rr a 8)) : ww (rr (rr a 8) k) 5 = 0 ↔ w 13 k = 1 := by
  rw [h.rg hk]
  constructor
  · intro z
    rw [z]
    rfl
  · intro z
    have : (1 : Int32) - (1 - ww (rr (rr a 8) k) 5) = 1 - 1 := by rw [z]
    grind
theorem WK.rc (h : WK ow n rr ww0 b a ww w) {p k i : Nat} (hp : (p = 16 ∧ i = 0) ∨ (p = 17 ∧ i = 2) ∨ (p = 18 ∧ i = 1)) (hk : k < n (rr a 9)) : ww (rr (rr a 9) k) i = w p k := by
  have := h.2.1.da p k (lvc (by omega) (by omega) hk)
  rw [gx_n (by omega), RA_sc (by omega) (by omega)] at this
  rw [this]
  rcases hp with ⟨rfl, rfl⟩ | ⟨rfl, rfl⟩ | ⟨rfl, rfl⟩ <;> rfl
theorem WK.rn (h : WK ow n rr ww0 b a ww w) {p k i : Nat} (hp : (p = 20 ∧ i = 0) ∨ (p = 21 ∧ i = 1)) (hk : k < n (rr a 10)) : ww (rr (rr a 10) k) i = w p k := by
  have := h.2.1.da p k (lvn (by omega) (by omega) hk)
  rw [gx_n (by omega), RA_nt (by omega) (by omega)] at this
  rw [this]
  rcases hp with ⟨rfl, rfl⟩ | ⟨rfl, rfl⟩ <;> rfl
theorem WK.rfl0 (hb : 1000 ≤ b) (h : WR ow n rr ww b a w) : WK ow n rr ww b a ww w := ⟨hb, h, fun _ _ => rfl⟩
end NSWK
/-- so much goes from one place to another -/
def tr (w : Dt) (p v p' v' : Nat) (x : Int32) : Dt := up2 (up2 w p v (w p v - x)) p' v' (up2 w p v (w p v - x) p' v' + x)
theorem tr_ne {w : Dt} {p v p' v' i : Nat} {x : Int32} (h : i ≠ p) (h' : i ≠ p') : tr w p v p' v' x i = w i := by
  unfold tr
  rw [up2_ne h', up2_ne h]
theorem tr_at {w : Dt} {p v p' v' i k : Nat} {x : Int32} (h : ¬ (i = p ∧ k = v)) (h' : ¬ (i = p' ∧ k = v')) : tr w p v p' v' x i k = w i k := by
  unfold tr
  rw [up2_no h', up2_no h]
theorem tr_from {w : Dt} {p v p' v' : Nat} {x : Int32} (h : ¬ (p = p' ∧ v = v')) : tr w p v p' v' x p v = w p v - x := by
  unfold tr
  rw [up2_no h, up2_eq]
theorem tr_to {w : Dt} {p v p' v' : Nat} {x : Int32} (h : ¬ (p = p' ∧ v = v')) : tr w p v p' v' x p' v' = w p' v' + x := by
  unfold tr
  rw [up2_eq, up2_no (fun z => h ⟨z.1.symm, z.2.symm⟩)]
