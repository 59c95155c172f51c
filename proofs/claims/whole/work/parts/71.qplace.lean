/-! THE PURE SIDE: a world of the class in the model's store -/
def RA (rr : Nat → Nat → Nat) (a p k : Nat) : Nat :=
  if p = 2 then rr a 0 else if p = 6 then rr a 5 else if p < 7 then a else if p < 15 then rr (rr a 8) k else if p < 19 then rr (rr a 9) k else if p < 22 then rr (rr a 10) k else if p < 32 then rr (rr a 1) (p - 22) else rr (rr a 2) (p - 32)
def RI (p k : Nat) : Nat :=
  if p = 0 then 11 else if p = 5 then k + 5 else if p < 7 then k else if p < 15 then p - 8 else if p = 16 then 0 else if p = 17 then 2 else if p = 18 then 1 else if p < 22 then p - 20 else k
def gx (p : Nat) (x : Int32) : Int32 := if p = 13 then 1 - x else x
def oc (p k : Nat) : Nat :=
  if p = 2 then 2 else if p = 6 then 5 else if p < 7 then 1 else if p < 15 then 30 + k else if p < 19 then 60 + k else if p < 32 then 80 + (p - 22) else 90 + (p - 32)
def lv (C S N p k : Nat) : Prop := (p = 0 ∧ k = 5) ∨ (p = 1 ∧ (k = 3 ∨ k = 4)) ∨ (p = 2 ∧ k < 10) ∨ (p = 5 ∧ (k = 1 ∨ k = 2)) ∨ (p = 6 ∧ k < 12) ∨ (8 ≤ p ∧ p < 15 ∧ p ≠ 12 ∧ k < C) ∨ (16 ≤ p ∧ p < 19 ∧ k < S) ∨ (20 ≤ p ∧ p < 22 ∧ k < N) ∨ (22 ≤ p ∧ p < 42 ∧ k < 3)
def dm (p k : Nat) : Prop := (p = 0 ∧ k = 5) ∨ (p = 1 ∧ 3 ≤ k ∧ k ≤ 7) ∨ (p = 2 ∧ k < 10) ∨ (p = 5 ∧ 1 ≤ k ∧ k ≤ 3) ∨ (p = 6 ∧ k < 12) ∨ (p = 7 ∧ k = 0) ∨ (8 ≤ p ∧ p < 15 ∧ k < 12) ∨ (p = 15 ∧ k = 0) ∨ (16 ≤ p ∧ p < 19 ∧ k < 8) ∨ (p = 19 ∧ k = 0) ∨ (20 ≤ p ∧ p < 22 ∧ k < 60) ∨ (22 ≤ p ∧ p < 42 ∧ k < 3)
/-- the world at a (codes of owners from b) holds the data w -/
abbrev WR (ow n : Nat → Nat) (rr : Nat → Nat → Nat) (ww : Dt) (b a : Nat) (w : Dt) : Prop := ∃ _ : (ow a = b + 1), ∃ _ : (ow (rr a 0) = b + 2), ∃ _ : (ow (rr a 1) = b + 3), ∃ _ : (ow (rr a 2) = b + 4), ∃ _ : (ow (rr a 5) = b + 5), ∃ _ : (ow (rr a 8) = b + 6), ∃ _ : (ow (rr a 9) = b + 7), ∃ _ : (ow (rr a 10) = b + 8), ∃ _ : (∀ k, k < 10 → ow (rr (rr a 1) k) = b + 80 + k), ∃ _ : (∀ k, k < 10 → ow (rr (rr a 2) k) = b + 90 + k), ∃ _ : (∀ k, k < n (rr a 8) → ow (rr (rr a 8) k) = b + 30 + k), ∃ _ : (∀ k, k < n (rr a 9) → ow (rr (rr a 9) k) = b + 60 + k), ∃ _ : (∀ k, k < n (rr a 10) → ow (rr (rr a 10) k) = 9), ∃ _ : (n (rr a 8) ≤ 12), ∃ _ : (n (rr a 9) ≤ 8), ∃ _ : (n (rr a 10) ≤ 60), ∃ _ : (w 7 0 = nI (n (rr a 8))), ∃ _ : (w 15 0 = nI (n (rr a 9))), ∃ _ : (w 19 0 = nI (n (rr a 10))), ∃ _ : (∀ p k, lv (n (rr a 8)) (n (rr a 9)) (n (rr a 10)) p k → w p k = gx p (ww (RA rr a p k) (RI p k))), ∃ _ : (∀ k, k < n (rr a 8) → w 13 k = 1 → w 12 k = ww (rr (rr a 8) k) 4), (∀ k, k < n (rr a 8) → w 13 k = 0 → ww (rr (rr a 8) k) 4 = 45)
theorem WR.oa {ow n : Nat → Nat} {rr : Nat → Nat → Nat} {ww : Dt} {b a : Nat} {w : Dt} (h : WR ow n rr ww b a w) : ow a = b + 1 := ex1 h
theorem WR.o0 {ow n : Nat → Nat} {rr : Nat → Nat → Nat} {ww : Dt} {b a : Nat} {w : Dt} (h : WR ow n rr ww b a w) : ow (rr a 0) = b + 2 := ex1 (ex2 h)
theorem WR.o1 {ow n : Nat → Nat} {rr : Nat → Nat → Nat} {ww : Dt} {b a : Nat} {w : Dt} (h : WR ow n rr ww b a w) : ow (rr a 1) = b + 3 := ex1 (ex2 (ex2 h))
theorem WR.o2 {ow n : Nat → Nat} {rr : Nat → Nat → Nat} {ww : Dt} {b a : Nat} {w : Dt} (h : WR ow n rr ww b a w) : ow (rr a 2) = b + 4 := ex1 (ex2 (ex2 (ex2 h)))
theorem WR.o5 {ow n : Nat → Nat} {rr : Nat → Nat → Nat} {ww : Dt} {b a : Nat} {w : Dt} (h : WR ow n rr ww b a w) : ow (rr a 5) = b + 5 := ex1 (ex2 (ex2 (ex2 (ex2 h))))
theorem WR.o8 {ow n : Nat → Nat} {rr : Nat → Nat → Nat} {ww : Dt} {b a : Nat} {w : Dt} (h : WR ow n rr ww b a w) : ow (rr a 8) = b + 6 := ex1 (ex2 (ex2 (ex2 (ex2 (ex2 h)))))
theorem WR.o9 {ow n : Nat → Nat} {rr : Nat → Nat → Nat} {ww : Dt} {b a : Nat} {w : Dt} (h : WR ow n rr ww b a w) : ow (rr a 9) = b + 7 := ex1 (ex2 (ex2 (ex2 (ex2 (ex2 (ex2 h))))))
theorem WR.o10 {ow n : Nat → Nat} {rr : Nat → Nat → Nat} {ww : Dt} {b a : Nat} {w : Dt} (h : WR ow n rr ww b a w) : ow (rr a 10) = b + 8 := ex1 (ex2 (ex2 (ex2 (ex2 (ex2 (ex2 (ex2 h)))))))
theorem WR.ov {ow n : Nat → Nat} {rr : Nat → Nat → Nat} {ww : Dt} {b a : Nat} {w : Dt} (h : WR ow n rr ww b a w) : ∀ k, k < 10 → ow (rr (rr a 1) k) = b + 80 + k := ex1 (ex2 (ex2 (ex2 (ex2 (ex2 (ex2 (ex2 (ex2 h))))))))
theorem WR.oi {ow n : Nat → Nat} {rr : Nat → Nat → Nat} {ww : Dt} {b a : Nat} {w : Dt} (h : WR ow n rr ww b a w) : ∀ k, k < 10 → ow (rr (rr a 2) k) = b + 90 + k := ex1 (ex2 (ex2 (ex2 (ex2 (ex2 (ex2 (ex2 (ex2 (ex2 h)))))))))
theorem WR.os {ow n : Nat → Nat} {rr : Nat → Nat → Nat} {ww : Dt} {b a : Nat} {w : Dt} (h : WR ow n rr ww b a w) : ∀ k, k < n (rr a 8) → ow (rr (rr a 8) k) = b + 30 + k := ex1 (ex2 (ex2 (ex2 (ex2 (ex2 (ex2 (ex2 (ex2 (ex2 (ex2 h))))))))))
theorem WR.osc {ow n : Nat → Nat} {rr : Nat → Nat → Nat} {ww : Dt} {b a : Nat} {w : Dt} (h : WR ow n rr ww b a w) : ∀ k, k < n (rr a 9) → ow (rr (rr a 9) k) = b + 60 + k := ex1 (ex2 (ex2 (ex2 (ex2 (ex2 (ex2 (ex2 (ex2 (ex2 (ex2 (ex2 h)))))))))))
theorem WR.on {ow n : Nat → Nat} {rr : Nat → Nat → Nat} {ww : Dt} {b a : Nat} {w : Dt} (h : WR ow n rr ww b a w) : ∀ k, k < n (rr a 10) → ow (rr (rr a 10) k) = 9 := ex1 (ex2 (ex2 (ex2 (ex2 (ex2 (ex2 (ex2 (ex2 (ex2 (ex2 (ex2 (ex2 h))))))))))))
theorem WR.nC {ow n : Nat → Nat} {rr : Nat → Nat → Nat} {ww : Dt} {b a : Nat} {w : Dt} (h : WR ow n rr ww b a w) : n (rr a 8) ≤ 12 := ex1 (ex2 (ex2 (ex2 (ex2 (ex2 (ex2 (ex2 (ex2 (ex2 (ex2 (ex2 (ex2 (ex2 h)))))))))))))
theorem WR.nS {ow n : Nat → Nat} {rr : Nat → Nat → Nat} {ww : Dt} {b a : Nat} {w : Dt} (h : WR ow n rr ww b a w) : n (rr a 9) ≤ 8 := ex1 (ex2 (ex2 (ex2 (ex2 (ex2 (ex2 (ex2 (ex2 (ex2 (ex2 (ex2 (ex2 (ex2 (ex2 h))))))))))))))
theorem WR.nN {ow n : Nat → Nat} {rr : Nat → Nat → Nat} {ww : Dt} {b a : Nat} {w : Dt} (h : WR ow n rr ww b a w) : n (rr a 10) ≤ 60 := ex1 (ex2 (ex2 (ex2 (ex2 (ex2 (ex2 (ex2 (ex2 (ex2 (ex2 (ex2 (ex2 (ex2 (ex2 (ex2 h)))))))))))))))
theorem WR.cC {ow n : Nat → Nat} {rr : Nat → Nat → Nat} {ww : Dt} {b a : Nat} {w : Dt} (h : WR ow n rr ww b a w) : w 7 0 = nI (n (rr a 8)) := ex1 (ex2 (ex2 (ex2 (ex2 (ex2 (ex2 (ex2 (ex2 (ex2 (ex2 (ex2 (ex2 (ex2 (ex2 (ex2 (ex2 h))))))))))))))))
theorem WR.cS {ow n : Nat → Nat} {rr : Nat → Nat → Nat} {ww : Dt} {b a : Nat} {w : Dt} (h : WR ow n rr ww b a w) : w 15 0 = nI (n (rr a 9)) := ex1 (ex2 (ex2 (ex2 (ex2 (ex2 (ex2 (ex2 (ex2 (ex2 (ex2 (ex2 (ex2 (ex2 (ex2 (ex2 (ex2 (ex2 h)))))))))))))))))
theorem WR.cN {ow n : Nat → Nat} {rr : Nat → Nat → Nat} {ww : Dt} {b a : Nat} {w : Dt} (h : WR ow n rr ww b a w) : w 19 0 = nI (n (rr a 10)) := ex1 (ex2 (ex2 (ex2 (ex2 (ex2 (ex2 (ex2 (ex2 (ex2 (ex2 (ex2 (ex2 (ex2 (ex2 (ex2 (ex2 (ex2 (ex2 h))))))))))))))))))
theorem WR.da {ow n : Nat → Nat} {rr : Nat → Nat → Nat} {ww : Dt} {b a : Nat} {w : Dt} (h : WR ow n rr ww b a w) : ∀ p k, lv (n (rr a 8)) (n (rr a 9)) (n (rr a 10)) p k → w p k = gx p (ww (RA rr a p k) (RI p k)) := ex1 (ex2 (ex2 (ex2 (ex2 (ex2 (ex2 (ex2 (ex2 (ex2 (ex2 (ex2 (ex2 (ex2 (ex2 (ex2 (ex2 (ex2 (ex2 (ex2 h)))))))))))))))))))
theorem WR.nm {ow n : Nat → Nat} {rr : Nat → Nat → Nat} {ww : Dt} {b a : Nat} {w : Dt} (h : WR ow n rr ww b a w) : ∀ k, k < n (rr a 8) → w 13 k = 1 → w 12 k = ww (rr (rr a 8) k) 4 := ex1 (ex2 (ex2 (ex2 (ex2 (ex2 (ex2 (ex2 (ex2 (ex2 (ex2 (ex2 (ex2 (ex2 (ex2 (ex2 (ex2 (ex2 (ex2 (ex2 (ex2 h))))))))))))))))))))
theorem WR.ng {ow n : Nat → Nat} {rr : Nat → Nat → Nat} {ww : Dt} {b a : Nat} {w : Dt} (h : WR ow n rr ww b a w) : ∀ k, k < n (rr a 8) → w 13 k = 0 → ww (rr (rr a 8) k) 4 = 45 := ex2 (ex2 (ex2 (ex2 (ex2 (ex2 (ex2 (ex2 (ex2 (ex2 (ex2 (ex2 (ex2 (ex2 (ex2 (ex2 (ex2 (ex2 (ex2 (ex2 (ex2 h))))))))))))))))))))
theorem gx_n {p : Nat} {x : Int32} (h : p ≠ 13) : gx p x = x := if_neg h
theorem gx_13 {x : Int32} : gx 13 x = 1 - x := if_pos rfl
theorem RA_st {rr : Nat → Nat → Nat} {a p k : Nat} (h : 7 < p) (h' : p < 15) : RA rr a p k = rr (rr a 8) k := by
  unfold RA
  rw [if_neg (by omega), if_neg (by omega), if_neg (by omega), if_pos h']
theorem RA_sc {rr : Nat → Nat → Nat} {a p k : Nat} (h : 15 ≤ p) (h' : p < 19) : RA rr a p k = rr (rr a 9) k := by
  unfold RA
  rw [if_neg (by omega), if_neg (by omega), if_neg (by omega), if_neg (by omega), if_pos h']
theorem RA_nt {rr : Nat → Nat → Nat} {a p k : Nat} (h : 19 ≤ p) (h' : p < 22) : RA rr a p k = rr (rr a 10) k := by
  unfold RA
  rw [if_neg (by omega), if_neg (by omega), if_neg (by omega), if_neg (by omega), if_neg (by omega), if_pos h']
theorem RA_v {rr : Nat → Nat → Nat} {a k v : Nat} (h : k < 10) : RA rr a (k + 22) v = rr (rr a 1) k := by
  unfold RA
  rw [if_neg (by omega), if_neg (by omega), if_neg (by omega), if_neg (by omega), if_neg (by omega), if_neg (by omega), if_pos (by omega), Nat.add_sub_cancel]
theorem RA_i {rr : Nat → Nat → Nat} {a k v : Nat} : RA rr a (k + 32) v = rr (rr a 2) k := by
  unfold RA
  rw [if_neg (by omega), if_neg (by omega), if_neg (by omega), if_neg (by omega), if_neg (by omega), if_neg (by omega), if_neg (by omega), Nat.add_sub_cancel]
theorem RI_b {p k : Nat} (h : 22 ≤ p) : RI p k = k := by
  unfold RI
  rw [if_neg (by omega), if_neg (by omega), if_neg (by omega), if_neg (by omega), if_neg (by omega), if_neg (by omega), if_neg (by omega), if_neg (by omega)]
theorem RI_st {p k : Nat} (h : 8 ≤ p) (h' : p < 15) : RI p k = p - 8 := by
  unfold RI
  rw [if_neg (by omega), if_neg (by omega), if_neg (by omega), if_pos h']
theorem RI_nt {p k : Nat} (h : 20 ≤ p) (h' : p < 22) : RI p k = p - 20 := by
  unfold RI
  rw [if_neg (by omega), if_neg (by omega), if_neg (by omega), if_neg (by omega), if_neg (by omega), if_neg (by omega), if_neg (by omega), if_pos h']
theorem oc_st {p k : Nat} (h : 8 ≤ p) (h' : p < 15) : oc p k = 30 + k := by
  unfold oc
  rw [if_neg (by omega), if_neg (by omega), if_neg (by omega), if_pos h']
theorem oc_sc {p k : Nat} (h : 15 ≤ p) (h' : p < 19) : oc p k = 60 + k := by
  unfold oc
  rw [if_neg (by omega), if_neg (by omega), if_neg (by omega), if_neg (by omega), if_pos h']
theorem oc_v {p k : Nat} (h : 22 ≤ p) : oc p k = 58 + p := by
  unfold oc
  rw [if_neg (by omega), if_neg (by omega), if_neg (by omega), if_neg (by omega), if_neg (by omega)]
  by_cases z : p < 32
  · rw [if_pos z]; omega
  · rw [if_neg z]; omega
def cinv (o r : Nat) : Nat × Nat :=
  if o = 1 then (if r = 11 then (0, 5) else if r < 5 then (1, r) else (5, r - 5)) else if o = 2 then (2, r) else if o = 5 then (6, r) else if o < 60 then (r + 8, o - 30) else if o < 80 then ((if r = 0 then 16 else if r = 2 then 17 else 18), o - 60) else (o - 58, r)
theorem cinv_eq {C S N p k : Nat} (hC : C ≤ 12) (hS : S ≤ 8) (h : lv C S N p k) (hp : p < 20 ∨ 22 ≤ p) : cinv (oc p k) (RI p k) = (p, k) := by
  rcases h with ⟨rfl, rfl⟩ | ⟨rfl, z⟩ | ⟨rfl, z⟩ | ⟨rfl, z⟩ | ⟨rfl, z⟩ | ⟨z1, z2, z3, z4⟩ | ⟨z1, z2, z3⟩ | ⟨z1, z2, z3⟩ | ⟨z1, z2, z3⟩
  · rfl
  · rcases z with rfl | rfl <;> rfl
  · rfl
  · rcases z with rfl | rfl <;> rfl
  · rfl
  · rw [oc_st z1 z2, RI_st z1 z2]
    unfold cinv
    rw [if_neg (by omega), if_neg (by omega), if_neg (by omega), if_pos (by omega), Nat.sub_add_cancel z1, Nat.add_sub_cancel_left]
  · rw [oc_sc (by omega) z2]
    have : p = 16 ∨ p = 17 ∨ p = 18 := by omega
    unfold cinv
    rw [if_neg (by omega), if_neg (by omega), if_neg (by omega), if_neg (by omega), if_pos (by omega), Nat.add_sub_cancel_left]
    rcases this with rfl | rfl | rfl <;> rfl
  · omega
  · rw [oc_v z1, RI_b z1]
    unfold cinv
    rw [if_neg (by omega), if_neg (by omega), if_neg (by omega), if_neg (by omega), if_neg (by omega), Nat.add_sub_cancel_left]
theorem lv_inj {C S N p k p' k' : Nat} (hC : C ≤ 12) (hS : S ≤ 8) (h : lv C S N p k) (h' : lv C S N p' k') (hp : p < 20 ∨ 22 ≤ p) (hp' : p' < 20 ∨ 22 ≤ p') (e : oc p k = oc p' k') (e' : RI p k = RI p' k') : p = p' ∧ k = k' := by
  have k1 := cinv_eq hC hS h hp
  have k2 := cinv_eq hC hS h' hp'
  rw [e, e', k2] at k1
  exact ⟨(congrArg Prod.fst k1).symm, (congrArg Prod.snd k1).symm⟩
section NSWR
variable {ow n : Nat → Nat} {rr : Nat → Nat → Nat} {ww : Dt} {b a : Nat} {w : Dt}
theorem WR.own (h : WR ow n rr ww b a w) {p k : Nat} (hl : lv (n (rr a 8)) (n (rr a 9)) (n (rr a 10)) p k) : ((p < 20 ∨ 22 ≤ p) ∧ ow (RA rr a p k) = b + oc p k) ∨ (20 ≤ p ∧ p < 22 ∧ ow (RA rr a p k) = 9) := by
  rcases hl with ⟨rfl, rfl⟩ | ⟨rfl, z⟩ | ⟨rfl, z⟩ | ⟨rfl, z⟩ | ⟨rfl, z⟩ | ⟨z1, z2, z3, z4⟩ | ⟨z1, z2, z3⟩ | ⟨z1, z2, z3⟩ | ⟨z1, z2, z3⟩
  · exact Or.inl ⟨by omega, h.oa⟩
  · exact Or.inl ⟨by omega, h.oa⟩
  · exact Or.inl ⟨by omega, h.o0⟩
  · exact Or.inl ⟨by omega, h.oa⟩
  · exact Or.inl ⟨by omega, h.o5⟩
  · refine Or.inl ⟨by omega, ?_⟩
    rw [RA_st (by omega) z2, oc_st z1 z2, h.os k z4]
    omega
  · refine Or.inl ⟨by omega, ?_⟩
    rw [RA_sc (by omega) z2, oc_sc (by omega) z2, h.osc k z3]
    omega
  · refine Or.inr ⟨z1, z2, ?_⟩
    rw [RA_nt (by omega) z2, h.on k z3]
  · refine Or.inl ⟨by omega, ?_⟩
    rw [oc_v z1]
    by_cases hv : p < 32
    · obtain ⟨q, rfl⟩ : ∃ q, p = q + 22 := ⟨p - 22, by omega⟩
      rw [RA_v (by omega), h.ov q (by omega)]
      omega
    · obtain ⟨q, rfl⟩ : ∃ q, p = q + 32 := ⟨p - 32, by omega⟩
      rw [RA_i, h.oi q (by omega)]
      omega
theorem WR.sep (h : WR ow n rr ww b a w) (hb : 1000 ≤ b) {p k p' k' : Nat} (hl : lv (n (rr a 8)) (n (rr a 9)) (n (rr a 10)) p k) (hl' : lv (n (rr a 8)) (n (rr a 9)) (n (rr a 10)) p' k') (hp : p < 20 ∨ 22 ≤ p) (hne : ¬ (p' = p ∧ k' = k)) : ¬ (RA rr a p' k' = RA rr a p k ∧ RI p' k' = RI p k) := by
  intro z
  rcases h.own hl with ⟨q0, e1⟩ | ⟨q1, q2, -⟩
  · rcases h.own hl' with ⟨hp', e2⟩ | ⟨-, -, e2⟩
    · rw [z.1, e1] at e2
      exact hne (lv_inj h.nC h.nS hl' hl hp' hp (by omega) z.2)
    · rw [z.1, e1] at e2
      omega
  · omega
/-- a place written on both sides -/
theorem WR.put (h : WR ow n rr ww b a w) (hb : 1000 ≤ b) {p k : Nat} (hl : lv (n (rr a 8)) (n (rr a 9)) (n (rr a 10)) p k) (hp : p < 20 ∨ 22 ≤ p) (h13 : p ≠ 13) (y : Int32) : WR ow n rr (up2 ww (RA rr a p k) (RI p k) y) b a (up2 w p k y) := by
  have hn : ∀ k', up2 w p k y 13 k' = w 13 k' := fun k' => up2_nr (Ne.symm h13)
  have h4 : ∀ k', k' < n (rr a 8) → up2 ww (RA rr a p k) (RI p k) y (rr (rr a 8) k') 4 = ww (rr (rr a 8) k') 4 := fun k' hk' => by
    refine up2_no fun z => ?_
    have e2 := h.os k' hk'
    rcases h.own hl with ⟨q0, e1⟩ | ⟨q1, q2, -⟩
    · rw [z.1, e1] at e2
      rcases hl with ⟨rfl, rfl⟩ | ⟨rfl, z'⟩ | ⟨rfl, z'⟩ | ⟨rfl, z'⟩ | ⟨rfl, z'⟩ | ⟨z1, z2, z3, z4⟩ | ⟨z1, z2, z3⟩ | ⟨z1, z2, z3⟩ | ⟨z1, z2, z3⟩
      · rw [show oc 0 5 = 1 from rfl] at e2; omega
      · rw [show oc 1 k = 1 from rfl] at e2; omega
      · rw [show oc 2 k = 2 from rfl] at e2; omega
      · rw [show oc 5 k = 1 from rfl] at e2; omega
      · rw [show oc 6 k = 5 from rfl] at e2; omega
      · have := z.2
        rw [RI_st z1 z2] at this
        omega
      · rw [oc_sc (by omega) z2] at e2
        have := h.nC
        omega
      · omega
      · rw [oc_v z1] at e2
        have := h.nC
        omega
    · omega
  refine ⟨h.oa, h.o0, h.o1, h.o2, h.o5, h.o8, h.o9, h.o10, h.ov, h.oi, h.os, h.osc, h.on, h.nC, h.nS, h.nN, ?_, ?_, ?_, fun p' k' hl' => ?_, fun k' hk' => ?_, fun k' hk' => ?_⟩
  · rw [up2_nr (by rcases hl with z | z | z | z | z | z | z | z | z <;> omega)]
    exact h.cC
  · rw [up2_nr (by rcases hl with z | z | z | z | z | z | z | z | z <;> omega)]
    exact h.cS
  · rw [up2_nr (by rcases hl with z | z | z | z | z | z | z | z | z <;> omega)]
    exact h.cN
  · by_cases hq : p' = p ∧ k' = k
    · obtain ⟨rfl, rfl⟩ := hq
      rw [up2_eq, up2_eq, gx_n h13]
    · rw [up2_no hq, up2_no (h.sep hb hl hl' hp hq)]
      exact h.da p' k' hl'
  · rw [hn, h4 k' hk', up2_nr (by rcases hl with z | z | z | z | z | z | z | z | z <;> omega)]
    exact h.nm k' hk'
  · rw [hn, h4 k' hk']
    exact h.ng k' hk'
/-- a storm that ends -/
theorem WR.kill (h : WR ow n rr ww b a w) (hb : 1000 ≤ b) {k : Nat} (hk : k < n (rr a 8)) : WR ow n rr (up2 (up2 ww (rr (rr a 8) k) 5 1) (rr (rr a 8) k) 4 45) b a (up2 w 13 k 0) := by
  have hl : lv (n (rr a 8)) (n (rr a 9)) (n (rr a 10)) 13 k := Or.inr (Or.inr (Or.inr (Or.inr (Or.inr (Or.inl ⟨by omega, by omega, by omega, hk⟩)))))
  have hinj : ∀ k', k' < n (rr a 8) → k' ≠ k → rr (rr a 8) k' ≠ rr (rr a 8) k := fun k' hk' hne z => by
    have e1 := h.os k' hk'
    rw [z, h.os k hk] at e1
    omega
  refine ⟨h.oa, h.o0, h.o1, h.o2, h.o5, h.o8, h.o9, h.o10, h.ov, h.oi, h.os, h.osc, h.on, h.nC, h.nS, h.nN, ?_, ?_, ?_, fun p' k' hl' => ?_, fun k' hk' => ?_, fun k' hk' => ?_⟩
  · exact (up2_nr (by omega)).trans h.cC
  · exact (up2_nr (by omega)).trans h.cS
  · exact (up2_nr (by omega)).trans h.cN
  · have h12 : ¬ (RA rr a p' k' = rr (rr a 8) k ∧ RI p' k' = 4) := fun z => by
      rcases h.own hl' with ⟨q0, e1⟩ | ⟨q1, q2, e1⟩
      · rw [z.1, h.os k hk] at e1
        have h2 := z.2
        have := h.nC
        rcases hl' with ⟨rfl, rfl⟩ | ⟨rfl, z'⟩ | ⟨rfl, z'⟩ | ⟨rfl, z'⟩ | ⟨rfl, z'⟩ | ⟨z1, z2, z3, z4⟩ | ⟨z1, z2, z3⟩ | ⟨z1, z2, z3⟩ | ⟨z1, z2, z3⟩
        · rw [show oc 0 5 = 1 from rfl] at e1; omega
        · rw [show oc 1 k' = 1 from rfl] at e1; omega
        · rw [show oc 2 k' = 2 from rfl] at e1; omega
        · rw [show oc 5 k' = 1 from rfl] at e1; omega
        · rw [show oc 6 k' = 5 from rfl] at e1; omega
        · rw [RI_st z1 z2] at h2
          omega
        · rw [oc_sc (by omega) z2] at e1
          omega
        · omega
        · rw [oc_v z1] at e1
          omega
      · rw [z.1, h.os k hk] at e1
        omega
    rw [up2_no h12]
    by_cases hq : p' = 13 ∧ k' = k
    · obtain ⟨rfl, rfl⟩ := hq
      rw [up2_eq, RA_st (by omega) (by omega), show RI 13 k' = 5 from rfl, up2_eq]
      rfl
    · have := h.sep hb hl hl' (by omega) hq
      rw [RA_st (p := 13) (by omega) (by omega), show RI 13 k = 5 from rfl] at this
      rw [up2_no hq, up2_no this]
      exact h.da p' k' hl'
  · by_cases hq : k' = k
    · subst hq
      rw [up2_eq]
      intro z
      exact absurd z (by decide)
    · rw [up2_nk hq, up2_nr (hinj k' hk' hq), up2_nr (hinj k' hk' hq), up2_nr (by omega)]
      exact h.nm k' hk'
  · by_cases hq : k' = k
    · subst hq
      intro _
      exact up2_eq _ _ _ _
    · rw [up2_nk hq, up2_nr (hinj k' hk' hq), up2_nr (hinj k' hk' hq)]
      exact h.ng k' hk'
/-- a name given to a storm that is there -/
theorem WR.name (h : WR ow n rr ww b a w) {k : Nat} (hk : k < n (rr a 8)) (h1 : w 13 k = 1) (y : Int32) : WR ow n rr (up2 ww (rr (rr a 8) k) 4 y) b a (up2 w 12 k y) := by
  have hinj : ∀ k', k' < n (rr a 8) → k' ≠ k → rr (rr a 8) k' ≠ rr (rr a 8) k := fun k' hk' hne z => by
    have e1 := h.os k' hk'
    rw [z, h.os k hk] at e1
    omega
  refine ⟨h.oa, h.o0, h.o1, h.o2, h.o5, h.o8, h.o9, h.o10, h.ov, h.oi, h.os, h.osc, h.on, h.nC, h.nS, h.nN, ?_, ?_, ?_, fun p' k' hl' => ?_, fun k' hk' => ?_, fun k' hk' => ?_⟩
  · exact (up2_nr (by omega)).trans h.cC
  · exact (up2_nr (by omega)).trans h.cS
  · exact (up2_nr (by omega)).trans h.cN
  · have hp12 : p' ≠ 12 := by rcases hl' with z | z | z | z | z | z | z | z | z <;> omega
    have h12 : ¬ (RA rr a p' k' = rr (rr a 8) k ∧ RI p' k' = 4) := fun z => by
      rcases h.own hl' with ⟨q0, e1⟩ | ⟨q1, q2, e1⟩
      · rw [z.1, h.os k hk] at e1
        have h2 := z.2
        have := h.nC
        rcases hl' with ⟨rfl, rfl⟩ | ⟨rfl, z'⟩ | ⟨rfl, z'⟩ | ⟨rfl, z'⟩ | ⟨rfl, z'⟩ | ⟨z1, z2, z3, z4⟩ | ⟨z1, z2, z3⟩ | ⟨z1, z2, z3⟩ | ⟨z1, z2, z3⟩
        · rw [show oc 0 5 = 1 from rfl] at e1; omega
        · rw [show oc 1 k' = 1 from rfl] at e1; omega
        · rw [show oc 2 k' = 2 from rfl] at e1; omega
        · rw [show oc 5 k' = 1 from rfl] at e1; omega
        · rw [show oc 6 k' = 5 from rfl] at e1; omega
        · rw [RI_st z1 z2] at h2
          omega
        · rw [oc_sc (by omega) z2] at e1
          omega
        · omega
        · rw [oc_v z1] at e1
          omega
      · rw [z.1, h.os k hk] at e1
        omega
    rw [up2_no h12, up2_nr hp12]
    exact h.da p' k' hl'
  · rw [up2_nr (by omega)]
    by_cases hq : k' = k
    · subst hq
      rw [up2_eq, up2_eq]
      exact fun _ => rfl
    · rw [up2_nk hq, up2_nr (hinj k' hk' hq)]
      exact h.nm k' hk'
  · rw [up2_nr (by omega)]
    by_cases hq : k' = k
    · subst hq
      rw [h1]
      intro z
      exact absurd z (by decide)
    · rw [up2_nr (hinj k' hk' hq)]
      exact h.ng k' hk'
theorem WR.dm_lv (h : WR ow n rr ww b a w) {p k : Nat} (hl : lv (n (rr a 8)) (n (rr a 9)) (n (rr a 10)) p k) : dm p k := by
  have h1 := h.nC
  have h2 := h.nS
  have h3 := h.nN
  unfold dm
  rcases hl with z | z | z | z | z | z | z | z | z <;> omega
/-- the class's data alone, alike at every place that counts -/
theorem WR.cg (h : WR ow n rr ww b a w) {v : Dt} (hv : ∀ p k, dm p k → (p = 1 → k < 5) → (p = 5 → k < 3) → v p k = w p k) : WR ow n rr ww b a v := by
  have h1 := h.nC
  refine ⟨h.oa, h.o0, h.o1, h.o2, h.o5, h.o8, h.o9, h.o10, h.ov, h.oi, h.os, h.osc, h.on, h.nC, h.nS, h.nN, ?_, ?_, ?_, fun p' k' hl' => ?_, fun k' hk' => ?_, fun k' hk' => ?_⟩
  · rw [hv 7 0 (by unfold dm; omega) (by omega) (by omega)]
    exact h.cC
  · rw [hv 15 0 (by unfold dm; omega) (by omega) (by omega)]
    exact h.cS
  · rw [hv 19 0 (by unfold dm; omega) (by omega) (by omega)]
    exact h.cN
  · rw [hv p' k' (h.dm_lv hl') (fun z => by rcases hl' with z | z | z | z | z | z | z | z | z <;> omega) (fun z => by rcases hl' with z | z | z | z | z | z | z | z | z <;> omega)]
    exact h.da p' k' hl'
  · rw [hv 13 k' (by unfold dm; omega) (by omega) (by omega), hv 12 k' (by unfold dm; omega) (by omega) (by omega)]
    exact h.nm k' hk'
  · rw [hv 13 k' (by unfold dm; omega) (by omega) (by omega)]
    exact h.ng k' hk'
/-- kept where the store's cells of the world are -/
theorem WR.keep (h : WR ow n rr ww b a w) {ow' n' : Nat → Nat} {rr' : Nat → Nat → Nat} {ww' : Dt} (hk : ∀ c, (ow c = 9 ∨ (b < ow c ∧ ow c < b + 100)) → ow' c = ow c ∧ n' c = n c ∧ rr' c = rr c ∧ ww' c = ww c) : WR ow' n' rr' ww' b a w := by
  have ha := hk a (by rw [h.oa]; omega)
  have hr : rr' a = rr a := ha.2.2.1
  have h0 := hk (rr a 0) (by rw [h.o0]; omega)
  have h1 := hk (rr a 1) (by rw [h.o1]; omega)
  have h2 := hk (rr a 2) (by rw [h.o2]; omega)
  have h5 := hk (rr a 5) (by rw [h.o5]; omega)
  have h8 := hk (rr a 8) (by rw [h.o8]; omega)
  have h9 := hk (rr a 9) (by rw [h.o9]; omega)
  have h10 := hk (rr a 10) (by rw [h.o10]; omega)
  have g1 := h.nC
  have g2 := h.nS
  have hv : ∀ k, k < 10 → ow' (rr (rr a 1) k) = ow (rr (rr a 1) k) := fun k hk' => (hk _ (by rw [h.ov k hk']; omega)).1
  have hi : ∀ k, k < 10 → ow' (rr (rr a 2) k) = ow (rr (rr a 2) k) := fun k hk' => (hk _ (by rw [h.oi k hk']; omega)).1
  have hs : ∀ k, k < n (rr a 8) → ow' (rr (rr a 8) k) = ow (rr (rr a 8) k) ∧ ww' (rr (rr a 8) k) = ww (rr (rr a 8) k) := fun k hk' => by
    have := hk (rr (rr a 8) k) (by rw [h.os k hk']; omega)
    exact ⟨this.1, this.2.2.2⟩
  have hc : ∀ k, k < n (rr a 9) → ow' (rr (rr a 9) k) = ow (rr (rr a 9) k) := fun k hk' => (hk _ (by rw [h.osc k hk']; omega)).1
  have hn : ∀ k, k < n (rr a 10) → ow' (rr (rr a 10) k) = ow (rr (rr a 10) k) := fun k hk' => (hk _ (by rw [h.on k hk']; omega)).1
  have hRA : ∀ p k, RA rr' a p k = RA rr a p k := fun p k => by
    unfold RA
    rw [hr, h8.2.2.1, h9.2.2.1, h10.2.2.1, h1.2.2.1, h2.2.2.1]
  refine ⟨?_, ?_, ?_, ?_, ?_, ?_, ?_, ?_, ?_, ?_, ?_, ?_, ?_, ?_, ?_, ?_, ?_, ?_, ?_, ?_, ?_, ?_⟩ <;> (try rw [hr]) <;> (try rw [h8.2.1]) <;> (try rw [h9.2.1]) <;> (try rw [h10.2.1])
  · rw [ha.1, h.oa]
  · rw [h0.1, h.o0]
  · rw [h1.1, h.o1]
  · rw [h2.1, h.o2]
  · rw [h5.1, h.o5]
  · rw [h8.1, h.o8]
  · rw [h9.1, h.o9]
  · rw [h10.1, h.o10]
  · intro k hk'
    rw [h1.2.2.1, hv k hk', h.ov k hk']
  · intro k hk'
    rw [h2.2.2.1, hi k hk', h.oi k hk']
  · intro k hk'
    rw [h8.2.2.1, (hs k hk').1, h.os k hk']
  · intro k hk'
    rw [h9.2.2.1, hc k hk', h.osc k hk']
  · intro k hk'
    rw [h10.2.2.1, hn k hk', h.on k hk']
  · exact h.nC
  · exact h.nS
  · exact h.nN
  · exact h.cC
  · exact h.cS
  · exact h.cN
  · intro p k hl
    rw [hRA, h.da p k hl]
    rcases h.own hl with ⟨q0, e1⟩ | ⟨q1, q2, e1⟩
    · have : oc p k < 100 ∧ 0 < oc p k := by
        rcases hl with ⟨rfl, rfl⟩ | ⟨rfl, z'⟩ | ⟨rfl, z'⟩ | ⟨rfl, z'⟩ | ⟨rfl, z'⟩ | ⟨z1, z2, z3, z4⟩ | ⟨z1, z2, z3⟩ | ⟨z1, z2, z3⟩ | ⟨z1, z2, z3⟩
        · decide
        · exact ⟨by show 1 < 100; decide, by show 0 < 1; decide⟩
        · exact ⟨by show 2 < 100; decide, by show 0 < 2; decide⟩
        · exact ⟨by show 1 < 100; decide, by show 0 < 1; decide⟩
        · exact ⟨by show 5 < 100; decide, by show 0 < 5; decide⟩
        · rw [oc_st z1 z2]; omega
        · rw [oc_sc (by omega) z2]; omega
        · omega
        · rw [oc_v z1]; omega
      rw [(hk _ (by rw [e1]; omega)).2.2.2]
    · rw [(hk _ (by rw [e1]; omega)).2.2.2]
  · intro k hk'
    rw [h8.2.2.1, (hs k hk').2]
    exact h.nm k hk'
  · intro k hk'
    rw [h8.2.2.1, (hs k hk').2]
    exact h.ng k hk'
end NSWR
