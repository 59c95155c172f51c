/-! THE PURE SIDE: the column -/
def TOT (w : Dt) : Int := sumI (fun p => sumI (fun v => (w (p + 22) v).toInt) 3) 20
/-- the column: temperatures up to M, all vapours and ices up to B -/
abbrev IC (M B : Int) (w : Dt) : Prop := ∃ _ : (0 ≤ (w 1 3).toInt ∧ (w 1 3).toInt ≤ 9), ∃ _ : (∀ k, k < 10 → 0 ≤ (w 2 k).toInt ∧ (w 2 k).toInt ≤ M), ∃ _ : (∀ p v, p < 20 → v < 3 → 0 ≤ (w (p + 22) v).toInt), ∃ _ : (TOT w = (w 1 7).toInt), ∃ _ : (TOT w ≤ B), (sum32 (w 2) 10 = w 1 5 - w 1 4 + w 1 6)
theorem IC.co {M B : Int} {w : Dt} (h : IC M B w) : 0 ≤ (w 1 3).toInt ∧ (w 1 3).toInt ≤ 9 := ex1 h
theorem IC.te {M B : Int} {w : Dt} (h : IC M B w) : ∀ k, k < 10 → 0 ≤ (w 2 k).toInt ∧ (w 2 k).toInt ≤ M := ex1 (ex2 h)
theorem IC.va {M B : Int} {w : Dt} (h : IC M B w) : ∀ p v, p < 20 → v < 3 → 0 ≤ (w (p + 22) v).toInt := ex1 (ex2 (ex2 h))
theorem IC.tot {M B : Int} {w : Dt} (h : IC M B w) : TOT w = (w 1 7).toInt := ex1 (ex2 (ex2 (ex2 h)))
theorem IC.bnd {M B : Int} {w : Dt} (h : IC M B w) : TOT w ≤ B := ex1 (ex2 (ex2 (ex2 (ex2 h))))
theorem IC.deg {M B : Int} {w : Dt} (h : IC M B w) : sum32 (w 2) 10 = w 1 5 - w 1 4 + w 1 6 := ex2 (ex2 (ex2 (ex2 (ex2 h))))
theorem IC.le {M B : Int} {w : Dt} (h : IC M B w) {p v : Nat} (hp : p < 20) (hv : v < 3) : 0 ≤ (w (p + 22) v).toInt ∧ (w (p + 22) v).toInt ≤ B := by
  have h1 := fun p hp => sumI_le (f := fun v => (w (p + 22) v).toInt) 3 (fun v hv => h.va p v hp hv)
  have h2 := (sumI_le (f := fun p => sumI (fun v => (w (p + 22) v).toInt) 3) 20 (fun p hp => (h1 p hp).1)).2 p hp
  have h3 := (h1 p hp).2 v hv
  have h4 := h.bnd
  unfold TOT at h4
  exact ⟨h.va p v hp hv, by omega⟩
theorem IC.cg {M B : Int} {w v : Dt} (h : IC M B w) (hv : ∀ p k, ((1 ≤ p ∧ p ≤ 2) ∨ 22 ≤ p) → dm p k → v p k = w p k) : IC M B v := by
  have hT : TOT v = TOT w := sumI_cg 20 (fun p hp => sumI_cg 3 (fun k hk => by rw [hv (p + 22) k (by omega) (by unfold dm; omega)]))
  refine ⟨?_, fun k hk => ?_, fun p k hp hk => ?_, ?_, ?_, ?_⟩
  · rw [hv 1 3 (by omega) (by unfold dm; omega)]
    exact h.co
  · rw [hv 2 k (by omega) (by unfold dm; omega)]
    exact h.te k hk
  · rw [hv (p + 22) k (by omega) (by unfold dm; omega)]
    exact h.va p k hp hk
  · rw [hT, hv 1 7 (by omega) (by unfold dm; omega)]
    exact h.tot
  · rw [hT]
    exact h.bnd
  · rw [sum32_cg 10 (fun k hk => hv 2 k (by omega) (by unfold dm; omega)), hv 1 5 (by omega) (by unfold dm; omega), hv 1 4 (by omega) (by unfold dm; omega), hv 1 6 (by omega) (by unfold dm; omega)]
    exact h.deg
theorem IC.mono {M B M' B' : Int} {w : Dt} (h : IC M B w) (hM : M ≤ M') (hB : B ≤ B') : IC M' B' w :=
  ⟨h.co, fun k hk => ⟨(h.te k hk).1, by have := (h.te k hk).2; omega⟩, h.va, h.tot, by have := h.bnd; omega, h.deg⟩
/-- vapour or ice goes from one row to another -/
theorem IC.mv {M B : Int} {w : Dt} (h : IC M B w) {p p' v : Nat} (hp : p < 20) (hp' : p' < 20) (hne : p ≠ p') (hv : v < 3) {x : Int32} (h1 : x.toInt ≤ (w (p + 22) v).toInt) (h2 : -(w (p' + 22) v).toInt ≤ x.toInt) (hB : B ≤ 1000000000) : IC M B (tr w (p + 22) v (p' + 22) v x) := by
  have g1 := h.le hp hv
  have g2 := h.le hp' hv
  have e1 : (w (p + 22) v - x).toInt = (w (p + 22) v).toInt - x.toInt := ti_sub (by omega) (by omega)
  have e2 : (w (p' + 22) v + x).toInt = (w (p' + 22) v).toInt + x.toInt := ti_add (by omega) (by omega)
  have f1 : tr w (p + 22) v (p' + 22) v x (p + 22) v = w (p + 22) v - x := tr_from (by omega)
  have f2 : tr w (p + 22) v (p' + 22) v x (p' + 22) v = w (p' + 22) v + x := tr_to (by omega)
  have s1 : sumI (fun v' => (tr w (p + 22) v (p' + 22) v x (p + 22) v').toInt) 3 = sumI (fun v' => (w (p + 22) v').toInt) 3 - x.toInt := by
    rw [sumI_1 (g := fun v' => (w (p + 22) v').toInt) (i := v) 3 hv (fun k hk hn => by rw [tr_at (by omega) (by omega)])]
    rw [f1, e1]
    omega
  have s2 : sumI (fun v' => (tr w (p + 22) v (p' + 22) v x (p' + 22) v').toInt) 3 = sumI (fun v' => (w (p' + 22) v').toInt) 3 + x.toInt := by
    rw [sumI_1 (g := fun v' => (w (p' + 22) v').toInt) (i := v) 3 hv (fun k hk hn => by rw [tr_at (by omega) (by omega)])]
    rw [f2, e2]
    omega
  have hT : TOT (tr w (p + 22) v (p' + 22) v x) = TOT w := by
    unfold TOT
    rw [sumI_2 (g := fun p => sumI (fun v => (w (p + 22) v).toInt) 3) (i := p) (i' := p') 20 hp hp' hne (fun k hk hn hn' => sumI_cg 3 (fun k' hk' => by rw [tr_at (by omega) (by omega)])), s1, s2]
    omega
  have n1 : tr w (p + 22) v (p' + 22) v x 1 = w 1 := tr_ne (by omega) (by omega)
  have n2 : tr w (p + 22) v (p' + 22) v x 2 = w 2 := tr_ne (by omega) (by omega)
  refine ⟨by rw [n1]; exact h.co, fun k hk => by rw [n2]; exact h.te k hk, fun q k hq hk => ?_, by rw [hT, n1]; exact h.tot, by rw [hT]; exact h.bnd, by rw [n1, n2]; exact h.deg⟩
  by_cases z1 : q = p ∧ k = v
  · rw [z1.1, z1.2, f1, e1]
    omega
  · by_cases z2 : q = p' ∧ k = v
    · rw [z2.1, z2.2, f2, e2]
      omega
    · rw [tr_at (by omega) (by omega)]
      exact h.va q k hq hk
theorem TOT_12 {w w' : Dt} (h : ∀ p, 22 ≤ p → w' p = w p) : TOT w' = TOT w := sumI_cg 20 (fun p _ => by rw [h (p + 22) (by omega)])
/-- degrees go from one level to another -/
theorem IC.tmv {M B : Int} {w : Dt} (h : IC M B w) {k k' : Nat} (hk : k < 10) (hk' : k' < 10) (hne : k ≠ k') {x : Int32} (hM : M ≤ 1000000000) (h0 : 0 ≤ x.toInt) (h1 : x.toInt ≤ (w 2 k).toInt) (h2 : (w 2 k').toInt + x.toInt ≤ M) : IC M B (tr w 2 k 2 k' x) := by
  have g1 := h.te k hk
  have g2 := h.te k' hk'
  have e1 : (w 2 k - x).toInt = (w 2 k).toInt - x.toInt := ti_sub (by omega) (by omega)
  have e2 : (w 2 k' + x).toInt = (w 2 k').toInt + x.toInt := ti_add (by omega) (by omega)
  have f1 : tr w 2 k 2 k' x 2 k = w 2 k - x := tr_from (by omega)
  have f2 : tr w 2 k 2 k' x 2 k' = w 2 k' + x := tr_to (by omega)
  have n1 : tr w 2 k 2 k' x 1 = w 1 := tr_ne (by omega) (by omega)
  have hT : TOT (tr w 2 k 2 k' x) = TOT w := TOT_12 fun p hp => tr_ne (by omega) (by omega)
  refine ⟨by rw [n1]; exact h.co, fun q hq => ?_, fun q v hq hv => by rw [tr_at (by omega) (by omega)]; exact h.va q v hq hv, by rw [hT, n1]; exact h.tot, by rw [hT]; exact h.bnd, ?_⟩
  · by_cases z1 : q = k
    · rw [z1, f1, e1]
      omega
    · by_cases z2 : q = k'
      · rw [z2, f2, e2]
        omega
      · rw [tr_at (by omega) (by omega)]
        exact h.te q hq
  · rw [n1, sum32_2 (g := w 2) (i := k) (i' := k') 10 hk hk' hne (fun q hq hn hn' => tr_at (by omega) (by omega)), f1, f2, h.deg]
    grind
/-- what freezes in a level -/
def frz (w : Dt) (k v : Nat) : Int32 :=
  if 0 ≤ w (k + 22) v - fHel v * (if 0 < w 2 k - fFre v then w 2 k - fFre v else 0) then w (k + 22) v - fHel v * (if 0 < w 2 k - fFre v then w 2 k - fFre v else 0)
  else -(if w (k + 32) v < -(w (k + 22) v - fHel v * (if 0 < w 2 k - fFre v then w 2 k - fFre v else 0)) then w (k + 32) v else -(w (k + 22) v - fHel v * (if 0 < w 2 k - fFre v then w 2 k - fFre v else 0)))
theorem fre_ok : ∀ v : Fin 3, (fFre v.1).toInt = 120 + 60 * v.1 ∧ 40 ≤ (fHel v.1).toInt ∧ (fHel v.1).toInt ≤ 90 ∧ fFre v.1 = 120 + 60 * nI v.1 := by decide +kernel
theorem frz_ok {M B : Int} {w : Dt} (h : IC M B w) (hM : M ≤ 1000000) (hB : B ≤ 20000000) {k v : Nat} (hk : k < 10) (hv : v < 3) :
    (frz w k v).toInt ≤ (w (k + 22) v).toInt ∧ -(w (k + 32) v).toInt ≤ (frz w k v).toInt ∧
    ∀ m : Int32, (0 ≤ ((if 0 < fHel v * ((w 2 k - 120) - 60 * nI v) then fHel v * ((w 2 k - 120) - 60 * nI v) else 0) - w (k + 22) v) → m = (if w (k + 32) v < ((if 0 < fHel v * ((w 2 k - 120) - 60 * nI v) then fHel v * ((w 2 k - 120) - 60 * nI v) else 0) - w (k + 22) v) then w (k + 32) v else ((if 0 < fHel v * ((w 2 k - 120) - 60 * nI v) then fHel v * ((w 2 k - 120) - 60 * nI v) else 0) - w (k + 22) v))) →
      (¬ 0 ≤ ((if 0 < fHel v * ((w 2 k - 120) - 60 * nI v) then fHel v * ((w 2 k - 120) - 60 * nI v) else 0) - w (k + 22) v) → m = ((if 0 < fHel v * ((w 2 k - 120) - 60 * nI v) then fHel v * ((w 2 k - 120) - 60 * nI v) else 0) - w (k + 22) v)) → m = -(frz w k v) := by
  obtain ⟨c1, c2, c3, c4⟩ := fre_ok ⟨v, hv⟩
  dsimp only at c1 c2 c3 c4
  have g1 := h.te k hk
  have g2 := h.le (p := k) (by omega) hv
  have g3 := h.le (p := k + 10) (by omega) hv
  have z0 : (0 : Int32).toInt = 0 := rfl
  have e1 : (w 2 k - fFre v).toInt = (w 2 k).toInt - (fFre v).toInt := ti_sub (by omega) (by omega)
  have em : (w 2 k - 120) - 60 * nI v = w 2 k - fFre v := by rw [c4]; grind
  have e2 : (fHel v * (w 2 k - fFre v)).toInt = (fHel v).toInt * (w 2 k - fFre v).toInt := by
    have b1 : -900000 ≤ (w 2 k - fFre v).toInt ∧ (w 2 k - fFre v).toInt ≤ 1000000 := by omega
    have b2 : (fHel v).toInt * (w 2 k - fFre v).toInt ≤ 90 * 1000000 := by
      rcases Int.le_total 0 (w 2 k - fFre v).toInt with q | q
      · exact Int.mul_le_mul c3 b1.2 q (by omega)
      · have := Int.mul_nonneg (a := (fHel v).toInt) (b := -(w 2 k - fFre v).toInt) (by omega) (by omega)
        rw [Int.mul_neg] at this
        omega
    have b3 : -(90 * 1000000) ≤ (fHel v).toInt * (w 2 k - fFre v).toInt := by
      rcases Int.le_total 0 (w 2 k - fFre v).toInt with q | q
      · have := Int.mul_nonneg (a := (fHel v).toInt) (b := (w 2 k - fFre v).toInt) (by omega) (by omega)
        omega
      · have := Int.mul_le_mul (a := (fHel v).toInt) (b := -(w 2 k - fFre v).toInt) (c := 90) (d := 1000000) c3 (by omega) (by omega) (by omega)
        rw [Int.mul_neg] at this
        omega
    exact ti_mul (by omega) (by omega)
  rw [em]
  have hheld : ∃ H : Int32, 0 ≤ H.toInt ∧ H.toInt ≤ 90000000 ∧ fHel v * (if 0 < w 2 k - fFre v then w 2 k - fFre v else 0) = H ∧ (if 0 < fHel v * (w 2 k - fFre v) then fHel v * (w 2 k - fFre v) else 0) = H := by
    by_cases hp : 0 < w 2 k - fFre v
    · have hp' := hp
      rw [Int32.lt_iff_toInt_lt, z0] at hp'
      have b1 : 0 < (fHel v).toInt * (w 2 k - fFre v).toInt := Int.mul_pos (by omega) hp'
      have b2 : (fHel v).toInt * (w 2 k - fFre v).toInt ≤ 90 * 1000000 := Int.mul_le_mul c3 (by omega) (by omega) (by omega)
      refine ⟨fHel v * (w 2 k - fFre v), by omega, by omega, by rw [if_pos hp], if_pos ?_⟩
      rw [Int32.lt_iff_toInt_lt, z0, e2]
      exact b1
    · have hp' := hp
      rw [Int32.lt_iff_toInt_lt, z0] at hp'
      have b1 := Int.mul_nonneg (a := (fHel v).toInt) (b := -(w 2 k - fFre v).toInt) (by omega) (by omega)
      rw [Int.mul_neg] at b1
      refine ⟨0, by decide, by decide, ?_, if_neg ?_⟩
      · rw [if_neg hp]
        grind
      · rw [Int32.lt_iff_toInt_lt, z0, e2]
        omega
  obtain ⟨H, H1, H2, H3, H4⟩ := hheld
  unfold frz
  rw [H3, H4]
  have a1 : (w (k + 22) v - H).toInt = (w (k + 22) v).toInt - H.toInt := ti_sub (by omega) (by omega)
  have a2 : (H - w (k + 22) v).toInt = H.toInt - (w (k + 22) v).toInt := ti_sub (by omega) (by omega)
  have a3 : -(w (k + 22) v - H) = H - w (k + 22) v := by grind
  rw [a3]
  have a4 : k + 32 = k + 10 + 22 := by omega
  rw [a4]
  have a5 : (-(w (k + 10 + 22) v)).toInt = -(w (k + 10 + 22) v).toInt := ti_neg (by omega)
  have a6 : (-(H - w (k + 22) v)).toInt = -(H - w (k + 22) v).toInt := ti_neg (by omega)
  by_cases q1 : 0 ≤ w (k + 22) v - H
  · have q1' := q1
    rw [Int32.le_iff_toInt_le, z0, a1] at q1'
    rw [if_pos q1]
    refine ⟨by omega, by omega, fun m m1 m2 => ?_⟩
    by_cases q2 : 0 ≤ H - w (k + 22) v
    · have q2' := q2
      rw [Int32.le_iff_toInt_le, z0, a2] at q2'
      have q3 : H - w (k + 22) v = 0 := ti_eq (by rw [a2, z0]; omega)
      have q4 : ¬ w (k + 10 + 22) v < H - w (k + 22) v := by
        rw [Int32.lt_iff_toInt_lt, a2]
        omega
      rw [m1 q2, if_neg q4]
      exact a3.symm
    · rw [m2 q2]
      exact a3.symm
  · have q1' := q1
    rw [Int32.le_iff_toInt_le, z0, a1] at q1'
    have q2 : 0 ≤ H - w (k + 22) v := by
      rw [Int32.le_iff_toInt_le, z0, a2]
      omega
    rw [if_neg q1]
    by_cases q3 : w (k + 10 + 22) v < H - w (k + 22) v
    · have q3' := q3
      rw [Int32.lt_iff_toInt_lt, a2] at q3'
      rw [if_pos q3, a5]
      refine ⟨by omega, by omega, fun m m1 m2 => ?_⟩
      rw [m1 q2]
      grind
    · have q3' := q3
      rw [Int32.lt_iff_toInt_lt, a2] at q3'
      rw [if_neg q3, a6]
      refine ⟨by omega, by omega, fun m m1 m2 => ?_⟩
      rw [m1 q2]
      grind
