/-! THE PURE SIDE: drag -/
abbrev IB (U : Int) (w : Dt) : Prop := ∃ _ : (∀ k, k < 12 → -U ≤ (w 6 k).toInt ∧ (w 6 k).toInt ≤ U), ∃ _ : (0 ≤ (w 5 1).toInt ∧ (w 5 1).toInt ≤ 50), (w 5 2 + sum32 (w 6) 12 = w 5 3)
theorem IB.tu {U : Int} {w : Dt} (h : IB U w) : ∀ k, k < 12 → -U ≤ (w 6 k).toInt ∧ (w 6 k).toInt ≤ U := ex1 h
theorem IB.dr {U : Int} {w : Dt} (h : IB U w) : 0 ≤ (w 5 1).toInt ∧ (w 5 1).toInt ≤ 50 := ex1 (ex2 h)
theorem IB.bal {U : Int} {w : Dt} (h : IB U w) : w 5 2 + sum32 (w 6) 12 = w 5 3 := ex2 (ex2 h)
theorem IB.cg {U : Int} {w v : Dt} (h : IB U w) (hv : ∀ p k, 5 ≤ p → p ≤ 6 → dm p k → v p k = w p k) : IB U v := by
  refine ⟨fun k hk => ?_, ?_, ?_⟩
  · rw [hv 6 k (by omega) (by omega) (by unfold dm; omega)]
    exact h.tu k hk
  · rw [hv 5 1 (by omega) (by omega) (by unfold dm; omega)]
    exact h.dr
  · rw [sum32_cg 12 (fun k hk => hv 6 k (by omega) (by omega) (by unfold dm; omega)), hv 5 2 (by omega) (by omega) (by unfold dm; omega), hv 5 3 (by omega) (by omega) (by unfold dm; omega)]
    exact h.bal
theorem IB.mono {U U' : Int} {w : Dt} (h : IB U w) (hU : U ≤ U') : IB U' w := ⟨fun k hk => by have := h.tu k hk; omega, h.dr, h.bal⟩
def fDr (w : Dt) : Dt := if 1 ≤ w 5 1 then itr (fun w k => tr w 6 k 5 2 (w 6 k / w 5 1)) w 12 else w
theorem tdiv_bd {x d : Int} (hd : 1 ≤ d) {U : Int} (h1 : -U ≤ x) (h2 : x ≤ U) : -U ≤ x - x.tdiv d ∧ x - x.tdiv d ≤ U ∧ -U ≤ x.tdiv d ∧ x.tdiv d ≤ U := by
  rcases Int.le_total 0 x with h | h
  · have e1 := Int.tdiv_eq_ediv_of_nonneg (b := d) h
    have e2 := Int.ediv_nonneg h (by omega : (0 : Int) ≤ d)
    have e3 := Int.ediv_le_self d h
    omega
  · have e0 : (-x).tdiv d = -(x.tdiv d) := Int.neg_tdiv x d
    have e1 := Int.tdiv_eq_ediv_of_nonneg (a := -x) (b := d) (by omega)
    have e2 := Int.ediv_nonneg (a := -x) (by omega) (by omega : (0 : Int) ≤ d)
    have e3 := Int.ediv_le_self (a := -x) d (by omega)
    omega
theorem IB.dr1 {U : Int} {w : Dt} (h : IB U w) (hU : U ≤ 1000000000) (hd : 1 ≤ w 5 1) {k : Nat} (hk : k < 12) : IB U (tr w 6 k 5 2 (w 6 k / w 5 1)) ∧ tr w 6 k 5 2 (w 6 k / w 5 1) 5 1 = w 5 1 := by
  have n1 : tr w 6 k 5 2 (w 6 k / w 5 1) 5 1 = w 5 1 := tr_at (by omega) (by omega)
  have d1 : 1 ≤ (w 5 1).toInt := by
    rw [Int32.le_iff_toInt_le] at hd
    exact hd
  have g := h.tu k hk
  have e : (w 6 k / w 5 1).toInt = (w 6 k).toInt.tdiv (w 5 1).toInt := ti_div (by omega)
  have b := tdiv_bd d1 g.1 g.2
  have e2 : (w 6 k - w 6 k / w 5 1).toInt = (w 6 k).toInt - (w 6 k).toInt.tdiv (w 5 1).toInt := by rw [ti_sub (by omega) (by omega), e]
  have f1 : tr w 6 k 5 2 (w 6 k / w 5 1) 6 k = w 6 k - w 6 k / w 5 1 := tr_from (by omega)
  have f2 : tr w 6 k 5 2 (w 6 k / w 5 1) 5 2 = w 5 2 + w 6 k / w 5 1 := tr_to (by omega)
  refine ⟨⟨fun q hq => ?_, by rw [n1]; exact h.dr, ?_⟩, n1⟩
  · by_cases z : q = k
    · subst z
      rw [f1, e2]
      omega
    · rw [tr_at (by omega) (by omega)]
      exact h.tu q hq
  · rw [sum32_1 (g := w 6) (i := k) 12 hk (fun q hq hn => tr_at (by omega) (by omega)), f1, f2, tr_at (i := 5) (k := 3) (by omega) (by omega), ← h.bal]
    grind
theorem IB.dri {U : Int} {w : Dt} (h : IB U w) (hU : U ≤ 1000000000) (hd : 1 ≤ w 5 1) : ∀ i, i ≤ 12 → IB U (itr (fun w k => tr w 6 k 5 2 (w 6 k / w 5 1)) w i) ∧ itr (fun w k => tr w 6 k 5 2 (w 6 k / w 5 1)) w i 5 1 = w 5 1 :=
  itr_ind (fun _ v => IB U v ∧ v 5 1 = w 5 1) ⟨h, rfl⟩ (fun i v hi hv => by
    have := hv.1.dr1 hU (by rw [hv.2]; exact hd) hi
    exact ⟨this.1, this.2.trans hv.2⟩)
theorem IB.drag {U : Int} {w : Dt} (h : IB U w) (hU : U ≤ 1000000000) : IB U (fDr w) := by
  unfold fDr
  split
  · rename_i hd
    exact (h.dri hU hd 12 (by omega)).1
  · exact h
theorem fDr_ne {w : Dt} {p : Nat} (h5 : p ≠ 5) (h6 : p ≠ 6) : fDr w p = w p := by
  unfold fDr
  split
  · exact itr_ind (fun _ u => u p = w p) rfl (fun i u _ hu => (tr_ne h6 h5).trans hu) 12 (Nat.le_refl 12)
  · rfl
theorem x_drag {post : Dt → Prop} {U : Int} {w : Dt} (hI : IB U w) (hU : U ≤ 1000000000) (h : post (fDr w)) : wp_X0_dragDown post w := by
  unfold fDr at h
  refine ⟨fun hd => ?_, fun hd => by rw [if_neg hd] at h; exact h⟩
  rw [if_pos hd] at h
  refine loopU (fun n y s => wp_X0_dragDown_11 post n y s) 12 (fun i s => s = itr (fun w k => tr w 6 k 5 2 (w 6 k / w 5 1)) w i) w rfl (fun n s hs => ?_) (fun i n s hi hs hk => ?_)
  · subst hs
    exact ⟨fun _ => h, fun g => absurd (Int32.le_refl _) g⟩
  · have ci : (nI i).toNatClampNeg = i := nI_cl (by omega)
    have h51 := (hI.dri hU hd i (by omega)).2
    refine ⟨fun g => absurd g (by rw [show (12 : Int32) = nI 12 from rfl, nI_le2 (by omega) (by omega)]; omega), fun _ => ⟨vp_nI hi (by omega), ?_, fun v5 e5 w6 e6 w7 e7 => ?_⟩⟩
    · rw [hs, h51]
      intro z
      rw [z] at hd
      exact absurd hd (by decide)
    · rw [ci] at e5 e6
      rw [← nI_succ]
      refine hk w7 ?_
      rw [e7, e6, e5, hs]
      rfl
section MDRAG
variable {ow t n : Nat → Nat} {rr : Nat → Nat → Nat} {ww0 : Dt} {b a : Nat}
theorem m_drags {post : Dt → Prop} {U : Int} {ww w : Dt} (hw : WK ow n rr ww0 b a ww w) (hI : IB U w) (hU : U ≤ 1000000000) (h : ∀ ww', WK ow n rr ww0 b a ww' (fDr w) → post ww') : wp_X12_drags post t n rr ww a := by
  unfold fDr at h
  by_cases hd : 1 ≤ w 5 1
  · rw [if_pos hd] at h
    refine loopU (fun m y s => wp_X12_drags_2 post t n rr m a y s) 12 (fun i s => WK ow n rr ww0 b a s (itr (fun w k => tr w 6 k 5 2 (w 6 k / w 5 1)) w i)) ww hw (fun m s hs => ?_) (fun i m s hi hs hk => ?_)
    · exact ⟨fun _ => h s hs, fun g => absurd (Int32.le_refl _) g⟩
    · have h51 := (hI.dri hU hd i (by omega)).2
      have ci : (nI i).toNatClampNeg = i := nI_cl (by omega)
      have hk2 : ∀ s', WK ow n rr ww0 b a s' ((fun w k => tr w 6 k 5 2 (w 6 k / w 5 1)) (itr (fun w k => tr w 6 k 5 2 (w 6 k / w 5 1)) w i) i) → wp_X12_drags_2 post t n rr m a (nI (i + 1)) s' := hk
      clear hk
      revert hs hk2 h51
      generalize itr (fun w k => tr w 6 k 5 2 (w 6 k / w 5 1)) w i = u
      intro hs h51 hk2
      have hd2 : 1 ≤ u 5 1 := by rw [h51]; exact hd
      refine ⟨fun g => absurd g (by rw [show (12 : Int32) = nI 12 from rfl, nI_le2 (by omega) (by omega)]; omega), fun _ => ⟨fun g => ?_, fun _ => ⟨vp_nI hi (by omega), ?_, fun v5 e5 w6 e6 w7 e7 => ?_⟩⟩⟩
      · rw [hs.rr6] at g
        rw [Int32.le_iff_toInt_le] at g hd2
        rw [show (0 : Int32).toInt = 0 from rfl] at g
        rw [show (1 : Int32).toInt = 1 from rfl] at hd2
        omega
      · rw [hs.rr6]
        intro z
        rw [z] at hd2
        exact absurd hd2 (by decide)
      · rw [ci, hs.rb hi, hs.rr6] at e5
        rw [ci, hs.rb hi] at e6
        rw [← nI_succ]
        refine hk2 w7 ?_
        have h1 := hs.b6 hi (u 6 i - u 6 i / u 5 1)
        have h2 := h1.r7 (up2 u 6 i (u 6 i - u 6 i / u 5 1) 5 2 + u 6 i / u 5 1)
        rw [e7, e6, e5, h1.rr7]
        exact h2
  · rw [if_neg hd] at h
    refine ⟨1, ⟨fun g => absurd g (by decide), fun _ => ⟨fun _ => h ww hw, fun g => absurd ?_ g⟩⟩⟩
    rw [hw.rr6, Int32.le_iff_toInt_le]
    rw [Int32.le_iff_toInt_le] at hd
    have e0 : (0 : Int32).toInt = 0 := rfl
    have e1 : (1 : Int32).toInt = 1 := rfl
    omega
end MDRAG
