/-! THE PURE SIDE: storms of the class -/
theorem nw_bool {x : Int32} (h : x = 0 ∨ x = 1) : narrow .boolean (.int x) = .int x := by
  rcases h with rfl | rfl <;> rfl
theorem up2_self {w : Dt} {p k : Nat} {x : Int32} (h : w p k = x) : up2 w p k x = w := by
  funext a c
  by_cases z : a = p ∧ c = k
  · obtain ⟨rfl, rfl⟩ := z
    rw [up2_eq, h]
  · exact up2_no z
theorem up2_comm {w : Dt} {p k p' k' : Nat} {x x' : Int32} (h : p ≠ p') : up2 (up2 w p k x) p' k' x' = up2 (up2 w p' k' x') p k x := by
  funext a c
  by_cases z : a = p ∧ c = k
  · obtain ⟨rfl, rfl⟩ := z
    rw [up2_nr h, up2_eq, up2_eq]
  · by_cases z' : a = p' ∧ c = k'
    · obtain ⟨rfl, rfl⟩ := z'
      rw [up2_eq, up2_nr (Ne.symm h), up2_eq]
    · rw [up2_no z', up2_no z, up2_no z, up2_no z']
/-- round the longitudes -/
def fm (x : Int32) : Int32 := if 0 ≤ (x ^^^ 3600) then x - x / 3600 * 3600 else if x - x / 3600 * 3600 = 0 then x - x / 3600 * 3600 else x - x / 3600 * 3600 + 3600
theorem x_fm {post : Int32 → Prop} {x : Int32} (h : post (fm x)) : wp_J9_floorMod_7cf53 post x 3600 := by
  unfold fm at h
  refine ⟨by decide, fun g => ?_, fun g => ?_⟩
  · rw [if_pos g] at h
    exact h
  · rw [if_neg g] at h
    refine ⟨fun g2 => ?_, fun g2 => ?_⟩
    · rw [if_pos g2] at h
      exact h
    · rw [if_neg g2] at h
      exact h
theorem xor_sign (x : Int32) : 0 ≤ (x ^^^ 3600) ↔ 0 ≤ x.toInt := by
  have e : ∀ y : Int32, 0 ≤ y ↔ y.toBitVec.msb = false := fun y => by
    rw [Int32.le_iff_toInt_le, show (0 : Int32).toInt = 0 from rfl, BitVec.msb_eq_toInt, decide_eq_false_iff_not, Int.not_lt]
    exact Iff.rfl
  have e2 : 0 ≤ x.toInt ↔ x.toBitVec.msb = false := by
    rw [BitVec.msb_eq_toInt, decide_eq_false_iff_not, Int.not_lt]
    exact Iff.rfl
  rw [e, e2, Int32.toBitVec_xor, BitVec.msb_xor, show (3600 : Int32).toBitVec.msb = false by decide, Bool.xor_false]
theorem fm_ok (x : Int32) : (fm x).toInt = x.toInt % 3600 := by
  have h36 : (3600 : Int32).toInt = 3600 := rfl
  have l1 := x.toInt_lt
  have l2 := x.le_toInt
  have e1 : (x / 3600).toInt = x.toInt.tdiv 3600 := ti_div (by decide)
  have hd := Int.mul_tdiv_add_tmod x.toInt 3600
  have hb : -3600 < x.toInt.tmod 3600 ∧ x.toInt.tmod 3600 < 3600 := ⟨Int.lt_tmod_of_pos _ (by decide), Int.tmod_lt_of_pos _ (by decide)⟩
  have hs1 : 0 ≤ x.toInt → 0 ≤ x.toInt.tmod 3600 := fun h => Int.tmod_nonneg _ h
  have hs2 : x.toInt ≤ 0 → x.toInt.tmod 3600 ≤ 0 := fun h => by
    have := Int.tmod_nonneg (a := -x.toInt) 3600 (by omega)
    rw [Int.neg_tmod] at this
    omega
  have e2 : (x / 3600 * 3600).toInt = 3600 * x.toInt.tdiv 3600 := by
    rw [ti_mul (by rw [e1, h36]; omega) (by rw [e1, h36]; omega), e1, h36]
    omega
  have e3 : (x - x / 3600 * 3600).toInt = x.toInt.tmod 3600 := by
    rw [ti_sub (by rw [e2]; omega) (by rw [e2]; omega), e2]
    omega
  unfold fm
  split
  · rename_i g
    rw [xor_sign] at g
    rw [e3, Int.tmod_eq_emod_of_nonneg g]
  · rename_i g
    rw [xor_sign] at g
    split
    · rename_i g2
      rw [g2] at e3
      rw [g2, show (0 : Int32).toInt = 0 from rfl]
      rw [show (0 : Int32).toInt = 0 from rfl] at e3
      omega
    · rename_i g2
      have : x.toInt.tmod 3600 ≠ 0 := fun z => g2 (ti_eq (by rw [e3, z]; rfl))
      have := hs2 (by omega)
      rw [ti_add (by rw [e3, h36]; omega) (by rw [e3, h36]; omega), e3, h36]
      omega
theorem fm_rg (x : Int32) : 0 ≤ (fm x).toInt ∧ (fm x).toInt < 3600 := by
  rw [fm_ok]
  omega
def dis (x y : Int32) : Int32 := if 3600 - (if 0 ≤ x - y then x - y else 0 - (x - y)) < (if 0 ≤ x - y then x - y else 0 - (x - y)) then 3600 - (if 0 ≤ x - y then x - y else 0 - (x - y)) else (if 0 ≤ x - y then x - y else 0 - (x - y))
theorem x_dis {post : Int32 → Prop} {x y : Int32} (h : post (dis x y)) : wp_X8_distance post x y := by
  intro v e
  subst e
  exact h
theorem dis_eq {x y : Int32} (hx : 0 ≤ x.toInt ∧ x.toInt < 3600) (hy : 0 ≤ y.toInt ∧ y.toInt < 3600) : (if (3600 - fm (x - y)) < fm (x - y) then (3600 - fm (x - y)) else fm (x - y)) = dis x y := by
  have h36 : (3600 : Int32).toInt = 3600 := rfl
  have h0 : (0 : Int32).toInt = 0 := rfl
  have e1 : (x - y).toInt = x.toInt - y.toInt := ti_sub (by omega) (by omega)
  have e2 : (fm (x - y)).toInt = (x.toInt - y.toInt) % 3600 := by rw [fm_ok, e1]
  have e3 : (3600 - fm (x - y)).toInt = 3600 - (x.toInt - y.toInt) % 3600 := by rw [ti_sub (by rw [e2, h36]; omega) (by rw [e2, h36]; omega), e2, h36]
  have e4 : (0 - (x - y)).toInt = y.toInt - x.toInt := by rw [ti_sub (by rw [e1, h0]; omega) (by rw [e1, h0]; omega), e1, h0]; omega
  have e5 : (3600 - (x - y)).toInt = 3600 - (x.toInt - y.toInt) := by rw [ti_sub (by rw [e1, h36]; omega) (by rw [e1, h36]; omega), e1, h36]
  have e6 : (3600 - (0 - (x - y))).toInt = 3600 - (y.toInt - x.toInt) := by rw [ti_sub (by rw [e4, h36]; omega) (by rw [e4, h36]; omega), e4, h36]
  unfold dis
  apply ti_eq
  by_cases g : 0 ≤ x - y
  · rw [if_pos g]
    rw [Int32.le_iff_toInt_le, e1, h0] at g
    have e7 : (x.toInt - y.toInt) % 3600 = x.toInt - y.toInt := Int.emod_eq_of_lt (by omega) (by omega)
    rw [e7] at e2 e3
    by_cases g2 : 3600 - (x - y) < (x - y)
    · rw [if_pos g2, if_pos (by rw [Int32.lt_iff_toInt_lt, e3, e2]; rw [Int32.lt_iff_toInt_lt, e5, e1] at g2; omega), e3, e5]
    · rw [if_neg g2, if_neg (by rw [Int32.lt_iff_toInt_lt, e3, e2]; rw [Int32.lt_iff_toInt_lt, e5, e1] at g2; omega), e2, e1]
  · rw [if_neg g]
    rw [Int32.le_iff_toInt_le, e1, h0] at g
    have e7 : (x.toInt - y.toInt) % 3600 = x.toInt - y.toInt + 3600 := by omega
    rw [e7] at e2 e3
    by_cases g2 : 3600 - (0 - (x - y)) < (0 - (x - y))
    · rw [if_pos g2, e6]
      rw [Int32.lt_iff_toInt_lt, e6, e4] at g2
      rw [if_neg (by rw [Int32.lt_iff_toInt_lt, e3, e2]; omega), e2]
      omega
    · rw [if_neg g2, e4]
      rw [Int32.lt_iff_toInt_lt, e6, e4] at g2
      by_cases g3 : 3600 - fm (x - y) < fm (x - y)
      · rw [if_pos g3, e3]
        omega
      · rw [if_neg g3, e2]
        rw [Int32.lt_iff_toInt_lt, e3, e2] at g3
        omega
/-- notes -/
def fWr (w : Dt) (c x : Int32) : Dt := if w 19 0 < 60 then up2 (up2 (up2 w 20 (w 19 0).toNatClampNeg c) 21 (w 19 0).toNatClampNeg x) 19 0 (w 19 0 + 1) else w
abbrev IN (w : Dt) (N : Nat) : Prop := ∃ _ : (N ≤ 60), ∃ _ : (w 19 0 = nI N), (∀ i, i < 60 → chr9 (w 20 i) = w 20 i)
theorem IN.hN {w : Dt} {N : Nat} (h : IN w N) : N ≤ 60 := ex1 h
theorem IN.cN {w : Dt} {N : Nat} (h : IN w N) : w 19 0 = nI N := ex1 (ex2 h)
theorem IN.ln {w : Dt} {N : Nat} (h : IN w N) : ∀ i, i < 60 → chr9 (w 20 i) = w 20 i := ex2 (ex2 h)
theorem IN.cg {w v : Dt} {N : Nat} (h : IN w N) (hv : ∀ p k, 19 ≤ p → p ≤ 21 → dm p k → v p k = w p k) : IN v N :=
  ⟨h.hN, by rw [hv 19 0 (by omega) (by omega) (by unfold dm; omega)]; exact h.cN, fun i hi => by rw [hv 20 i (by omega) (by omega) (by unfold dm; omega)]; exact h.ln i hi⟩
theorem nI_ltl {m n : Nat} (hm : m ≤ 100000) (h : n ≤ 100000) : nI n < nI m ↔ n < m := by
  rw [Int32.lt_iff_toInt_lt, nI_toInt (by omega), nI_toInt (by omega)]
  omega
theorem fWr_60 {w : Dt} {N : Nat} (h : IN w N) (hN : ¬ N < 60) (c x : Int32) : fWr w c x = w := by
  unfold fWr
  rw [if_neg]
  rw [h.cN, show (60 : Int32) = nI 60 from rfl, nI_ltl (by omega) (by have := h.hN; omega)]
  exact hN
theorem fWr_lt {w : Dt} {N : Nat} (h : IN w N) (hN : N < 60) (c x : Int32) : fWr w c x = up2 (up2 (up2 w 20 N c) 21 N x) 19 0 (nI (N + 1)) := by
  unfold fWr
  rw [if_pos, h.cN, nI_cl (by omega), nI_succ]
  rw [h.cN, show (60 : Int32) = nI 60 from rfl, nI_ltl (by omega) (by omega)]
  exact hN
theorem fWr_ne {w : Dt} {c x : Int32} {p : Nat} (hp : p < 19 ∨ 21 < p) : fWr w c x p = w p := by
  unfold fWr
  split
  · rw [up2_ne (by omega), up2_ne (by omega), up2_ne (by omega)]
  · rfl
theorem IN.wr {w : Dt} {N : Nat} (h : IN w N) {c : Int32} (hc : chr9 c = c) (x : Int32) : IN (fWr w c x) (min 60 (N + 1)) := by
  have h1 := h.hN
  by_cases hN : N < 60
  · rw [fWr_lt h hN, Nat.min_eq_right (by omega)]
    refine ⟨by omega, by rw [up2_eq], fun i hi => ?_⟩
    rw [up2_nr (by omega), up2_nr (by omega)]
    by_cases z : i = N
    · subst z
      rw [up2_eq]
      exact hc
    · rw [up2_nk z]
      exact h.ln i hi
  · rw [fWr_60 h hN, Nat.min_eq_left (by omega), show 60 = N by omega]
    exact h
theorem x_write {post : Dt → Prop} {w : Dt} {N : Nat} (hI : IN w N) {c x : Int32} (hc : chr9 c = c) (h : post (fWr w c x)) : wp_X3_write post w c x := by
  have h1 := hI.hN
  have hn : (w 19 0).toNatClampNeg = N := by rw [hI.cN, nI_cl (by omega)]
  refine ⟨fun g => absurd g (by rw [hI.cN]; exact nI_nn' (by omega)), fun _ => ⟨fun g => ?_, fun g => ?_⟩⟩
  · have hN : N < 60 := by
      rw [hI.cN, show (60 : Int32) = nI 60 from rfl, nI_ltl (by omega) (by omega)] at g
      exact g
    rw [fWr_lt hI hN] at h
    refine ⟨by rw [hI.cN]; exact vp_nI hN (by omega), nw_char hc, fun w5 e5 => ?_⟩
    have e19 : w5 19 0 = w 19 0 := by rw [e5, up2_nr (by omega)]
    refine ⟨by rw [e19, hI.cN]; exact vp_nI hN (by omega), fun w7 e7 w8 e8 => ?_⟩
    have e19' : w7 19 0 = nI N := by rw [e7, up2_nr (by omega), e19, hI.cN]
    rw [e8, e19', e7, e19, e5, hn, ← nI_succ]
    exact h
  · have hN : ¬ N < 60 := by
      rw [hI.cN, show (60 : Int32) = nI 60 from rfl, nI_ltl (by omega) (by omega)] at g
      exact g
    rw [fWr_60 hI hN] at h
    exact h
