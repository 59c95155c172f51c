/-! THE CLASS: a world is made -/
def adW (q n1 n2 n3 n4 n5 n6 n7 n8 n9 n10 n11 n12 n13 n14 n15 n16 n17 n18 n19 n20 n21 : Nat) (f1 f2 : Nat → Nat) : Nat → Nat := fun i => match i with
  | 0 => q
  | 1 => n1
  | 2 => n2
  | 3 => n3
  | 4 => n4
  | 5 => n5
  | 6 => n6
  | 7 => n7
  | 8 => n8
  | 9 => n9
  | 10 => n10
  | 11 => n11
  | 12 => n12
  | 13 => n13
  | 14 => n14
  | 15 => n15
  | 16 => n16
  | 17 => n17
  | 18 => n18
  | 19 => n19
  | 20 => n20
  | 21 => n21
  | i => if i < 32 then f1 (i - 22) else f2 (i - 32)
def cw0 : Dt := fun i k => match i with
  | 1 => (match k with | 3 => 2 | 5 => 1900 | _ => 0)
  | 2 => tW 10 k
  | _ => 0
def rkW : Nat → Nat := fun i => match i with
  | 0 => 0 | 1 => 1 | 2 => 2 | 3 => 3 | 4 => 5
  | 5 => 7
  | 6 => 8
  | 7 => 9
  | 8 => 10
  | 9 => 11
  | 10 => 12
  | 11 => 13
  | 12 => 14
  | 13 => 15
  | 14 => 16
  | 15 => 17
  | 16 => 18
  | 17 => 19
  | 18 => 20
  | 19 => 21
  | 20 => 22
  | 21 => 23
  | i => if i < 32 then 4 else 6
def loW (q n1 n2 n3 n4 n5 n6 n7 n8 n9 n10 n11 n12 n13 n14 n15 n16 n17 n18 n19 n20 n21 : Nat) : Nat → Nat := fun r => match r with
  | 0 => q
  | 1 => n1
  | 2 => n2
  | 3 => n3
  | 4 => (n3 + 1)
  | 5 => n4
  | 6 => (n4 + 1)
  | 7 => n5
  | 8 => n6
  | 9 => n7
  | 10 => n8
  | 11 => n9
  | 12 => n10
  | 13 => n11
  | 14 => n12
  | 15 => n13
  | 16 => n14
  | 17 => n15
  | 18 => n16
  | 19 => n17
  | 20 => n18
  | 21 => n19
  | 22 => n20
  | 23 => n21
  | _ => n21 + 1
def ordW (q n1 n2 n3 n4 n5 n6 n7 n8 n9 n10 n11 n12 n13 n14 n15 n16 n17 n18 n19 n20 n21 : Nat) (f1 f2 : Nat → Nat) : Prop := q < n1 ∧ n1 < n2 ∧ n2 < n3 ∧ (∀ j, j < 10 → n3 < f1 j ∧ f1 j < n4 ∧ n4 < f2 j ∧ f2 j < n5) ∧ n3 < n4 ∧ n4 < n5 ∧ n5 < n6 ∧ n6 < n7 ∧ n7 < n8 ∧ n8 < n9 ∧ n9 < n10 ∧ n10 < n11 ∧ n11 < n12 ∧ n12 < n13 ∧ n13 < n14 ∧ n14 < n15 ∧ n15 < n16 ∧ n16 < n17 ∧ n17 < n18 ∧ n18 < n19 ∧ n19 < n20 ∧ n20 < n21 ∧ (∀ i j, i < 10 → j < 10 → f1 i = f1 j → i = j) ∧ (∀ i j, i < 10 → j < 10 → f2 i = f2 j → i = j)
theorem rkW_inj : ∀ i j : Fin 22, rkW i.1 = rkW j.1 → i = j := by decide +kernel
theorem rkW_lo : ∀ i : Fin 22, rkW i.1 ≠ 4 ∧ rkW i.1 ≠ 6 := by decide +kernel
theorem loW_mono {q n1 n2 n3 n4 n5 n6 n7 n8 n9 n10 n11 n12 n13 n14 n15 n16 n17 n18 n19 n20 n21 : Nat} {f1 f2 : Nat → Nat} (h : ordW q n1 n2 n3 n4 n5 n6 n7 n8 n9 n10 n11 n12 n13 n14 n15 n16 n17 n18 n19 n20 n21 f1 f2) : ∀ r, r < 24 → loW q n1 n2 n3 n4 n5 n6 n7 n8 n9 n10 n11 n12 n13 n14 n15 n16 n17 n18 n19 n20 n21 r ≤ loW q n1 n2 n3 n4 n5 n6 n7 n8 n9 n10 n11 n12 n13 n14 n15 n16 n17 n18 n19 n20 n21 (r + 1) := by
  obtain ⟨c0, c1, c2, c3, c4, c5, c6, c7, c8, c9, c10, c11, c12, c13, c14, c15, c16, c17, c18, c19, c20, c21, i1, i2⟩ := h
  intro r hr
  match r, hr with
  | 0, _ => show q ≤ n1; omega
  | 1, _ => show n1 ≤ n2; omega
  | 2, _ => show n2 ≤ n3; omega
  | 3, _ => show n3 ≤ (n3 + 1); omega
  | 4, _ => show (n3 + 1) ≤ n4; omega
  | 5, _ => show n4 ≤ (n4 + 1); omega
  | 6, _ => show (n4 + 1) ≤ n5; omega
  | 7, _ => show n5 ≤ n6; omega
  | 8, _ => show n6 ≤ n7; omega
  | 9, _ => show n7 ≤ n8; omega
  | 10, _ => show n8 ≤ n9; omega
  | 11, _ => show n9 ≤ n10; omega
  | 12, _ => show n10 ≤ n11; omega
  | 13, _ => show n11 ≤ n12; omega
  | 14, _ => show n12 ≤ n13; omega
  | 15, _ => show n13 ≤ n14; omega
  | 16, _ => show n14 ≤ n15; omega
  | 17, _ => show n15 ≤ n16; omega
  | 18, _ => show n16 ≤ n17; omega
  | 19, _ => show n17 ≤ n18; omega
  | 20, _ => show n18 ≤ n19; omega
  | 21, _ => show n19 ≤ n20; omega
  | 22, _ => show n20 ≤ n21; omega
  | 23, _ => show n21 ≤ (n21 + 1); omega
  | k + 24, hr => omega
theorem loW_le {q n1 n2 n3 n4 n5 n6 n7 n8 n9 n10 n11 n12 n13 n14 n15 n16 n17 n18 n19 n20 n21 : Nat} {f1 f2 : Nat → Nat} (h : ordW q n1 n2 n3 n4 n5 n6 n7 n8 n9 n10 n11 n12 n13 n14 n15 n16 n17 n18 n19 n20 n21 f1 f2) : ∀ d r, r + d ≤ 24 → loW q n1 n2 n3 n4 n5 n6 n7 n8 n9 n10 n11 n12 n13 n14 n15 n16 n17 n18 n19 n20 n21 r ≤ loW q n1 n2 n3 n4 n5 n6 n7 n8 n9 n10 n11 n12 n13 n14 n15 n16 n17 n18 n19 n20 n21 (r + d)
  | 0, r, _ => Nat.le_refl _
  | d + 1, r, hd => Nat.le_trans (loW_le h d r (by omega)) (loW_mono h (r + d) (by omega))
theorem adW_in {q n1 n2 n3 n4 n5 n6 n7 n8 n9 n10 n11 n12 n13 n14 n15 n16 n17 n18 n19 n20 n21 : Nat} {f1 f2 : Nat → Nat} (h : ordW q n1 n2 n3 n4 n5 n6 n7 n8 n9 n10 n11 n12 n13 n14 n15 n16 n17 n18 n19 n20 n21 f1 f2) : ∀ i, i < 42 → rkW i < 24 ∧ loW q n1 n2 n3 n4 n5 n6 n7 n8 n9 n10 n11 n12 n13 n14 n15 n16 n17 n18 n19 n20 n21 (rkW i) ≤ adW q n1 n2 n3 n4 n5 n6 n7 n8 n9 n10 n11 n12 n13 n14 n15 n16 n17 n18 n19 n20 n21 f1 f2 i ∧ adW q n1 n2 n3 n4 n5 n6 n7 n8 n9 n10 n11 n12 n13 n14 n15 n16 n17 n18 n19 n20 n21 f1 f2 i < loW q n1 n2 n3 n4 n5 n6 n7 n8 n9 n10 n11 n12 n13 n14 n15 n16 n17 n18 n19 n20 n21 (rkW i + 1) := by
  obtain ⟨c0, c1, c2, c3, c4, c5, c6, c7, c8, c9, c10, c11, c12, c13, c14, c15, c16, c17, c18, c19, c20, c21, i1, i2⟩ := h
  intro i hi
  match i, hi with
  | 0, _ => exact ⟨by decide, Nat.le_refl _, c0⟩
  | 1, _ => exact ⟨by decide, Nat.le_refl _, show n1 < n2 by omega⟩
  | 2, _ => exact ⟨by decide, Nat.le_refl _, show n2 < n3 by omega⟩
  | 3, _ => exact ⟨by decide, Nat.le_refl _, show n3 < (n3 + 1) by omega⟩
  | 4, _ => exact ⟨by decide, Nat.le_refl _, show n4 < (n4 + 1) by omega⟩
  | 5, _ => exact ⟨by decide, Nat.le_refl _, show n5 < n6 by omega⟩
  | 6, _ => exact ⟨by decide, Nat.le_refl _, show n6 < n7 by omega⟩
  | 7, _ => exact ⟨by decide, Nat.le_refl _, show n7 < n8 by omega⟩
  | 8, _ => exact ⟨by decide, Nat.le_refl _, show n8 < n9 by omega⟩
  | 9, _ => exact ⟨by decide, Nat.le_refl _, show n9 < n10 by omega⟩
  | 10, _ => exact ⟨by decide, Nat.le_refl _, show n10 < n11 by omega⟩
  | 11, _ => exact ⟨by decide, Nat.le_refl _, show n11 < n12 by omega⟩
  | 12, _ => exact ⟨by decide, Nat.le_refl _, show n12 < n13 by omega⟩
  | 13, _ => exact ⟨by decide, Nat.le_refl _, show n13 < n14 by omega⟩
  | 14, _ => exact ⟨by decide, Nat.le_refl _, show n14 < n15 by omega⟩
  | 15, _ => exact ⟨by decide, Nat.le_refl _, show n15 < n16 by omega⟩
  | 16, _ => exact ⟨by decide, Nat.le_refl _, show n16 < n17 by omega⟩
  | 17, _ => exact ⟨by decide, Nat.le_refl _, show n17 < n18 by omega⟩
  | 18, _ => exact ⟨by decide, Nat.le_refl _, show n18 < n19 by omega⟩
  | 19, _ => exact ⟨by decide, Nat.le_refl _, show n19 < n20 by omega⟩
  | 20, _ => exact ⟨by decide, Nat.le_refl _, show n20 < n21 by omega⟩
  | 21, _ => exact ⟨by decide, Nat.le_refl _, show n21 < (n21 + 1) by omega⟩
  | i + 22, hi =>
    by_cases h1 : i + 22 < 32
    · have e1 : rkW (i + 22) = 4 := by show (if i + 22 < 32 then 4 else 6) = 4; rw [if_pos h1]
      have e2 : adW q n1 n2 n3 n4 n5 n6 n7 n8 n9 n10 n11 n12 n13 n14 n15 n16 n17 n18 n19 n20 n21 f1 f2 (i + 22) = f1 i := by show (if i + 22 < 32 then f1 (i + 22 - 22) else f2 (i + 22 - 32)) = _; rw [if_pos h1]; rfl
      have := c3 i (by omega)
      rw [e1, e2]
      exact ⟨by decide, show n3 + 1 ≤ f1 i by omega, show f1 i < n4 by omega⟩
    · have e1 : rkW (i + 22) = 6 := by show (if i + 22 < 32 then 4 else 6) = 6; rw [if_neg h1]
      have e2 : adW q n1 n2 n3 n4 n5 n6 n7 n8 n9 n10 n11 n12 n13 n14 n15 n16 n17 n18 n19 n20 n21 f1 f2 (i + 22) = f2 (i + 22 - 32) := by show (if i + 22 < 32 then f1 (i + 22 - 22) else f2 (i + 22 - 32)) = _; rw [if_neg h1]
      have := c3 (i + 22 - 32) (by omega)
      rw [e1, e2]
      exact ⟨by decide, show n4 + 1 ≤ f2 (i + 22 - 32) by omega, show f2 (i + 22 - 32) < n5 by omega⟩
theorem adW_inj {q n1 n2 n3 n4 n5 n6 n7 n8 n9 n10 n11 n12 n13 n14 n15 n16 n17 n18 n19 n20 n21 : Nat} {f1 f2 : Nat → Nat} (h : ordW q n1 n2 n3 n4 n5 n6 n7 n8 n9 n10 n11 n12 n13 n14 n15 n16 n17 n18 n19 n20 n21 f1 f2) {i j : Nat} (hi : i < 42) (hj : j < 42) (e : adW q n1 n2 n3 n4 n5 n6 n7 n8 n9 n10 n11 n12 n13 n14 n15 n16 n17 n18 n19 n20 n21 f1 f2 i = adW q n1 n2 n3 n4 n5 n6 n7 n8 n9 n10 n11 n12 n13 n14 n15 n16 n17 n18 n19 n20 n21 f1 f2 j) : i = j := by
  have a := adW_in h i hi
  have b := adW_in h j hj
  have hr : rkW i = rkW j := by
    rcases Nat.lt_trichotomy (rkW i) (rkW j) with g | g | g
    · have := loW_le h (rkW j - (rkW i + 1)) (rkW i + 1) (by omega)
      rw [show rkW i + 1 + (rkW j - (rkW i + 1)) = rkW j by omega] at this
      omega
    · exact g
    · have := loW_le h (rkW i - (rkW j + 1)) (rkW j + 1) (by omega)
      rw [show rkW j + 1 + (rkW i - (rkW j + 1)) = rkW i by omega] at this
      omega
  obtain ⟨c0, c1, c2, c3, c4, c5, c6, c7, c8, c9, c10, c11, c12, c13, c14, c15, c16, c17, c18, c19, c20, c21, i1, i2⟩ := h
  have hrow : ∀ k, 22 ≤ k → rkW k = if k < 32 then 4 else 6 := fun k hk => by
    obtain ⟨m, rfl⟩ := Nat.exists_eq_add_of_le' hk
    rfl
  have had : ∀ k, 22 ≤ k → adW q n1 n2 n3 n4 n5 n6 n7 n8 n9 n10 n11 n12 n13 n14 n15 n16 n17 n18 n19 n20 n21 f1 f2 k = if k < 32 then f1 (k - 22) else f2 (k - 32) := fun k hk => by
    obtain ⟨m, rfl⟩ := Nat.exists_eq_add_of_le' hk
    rfl
  by_cases g1 : i < 22 <;> by_cases g2 : j < 22
  · exact congrArg Fin.val (rkW_inj ⟨i, g1⟩ ⟨j, g2⟩ hr)
  · have := rkW_lo ⟨i, g1⟩
    rw [hrow j (by omega)] at hr
    by_cases g3 : j < 32
    · rw [if_pos g3] at hr; exact absurd hr this.1
    · rw [if_neg g3] at hr; exact absurd hr this.2
  · have := rkW_lo ⟨j, g2⟩
    rw [hrow i (by omega)] at hr
    by_cases g3 : i < 32
    · rw [if_pos g3] at hr; exact absurd hr.symm this.1
    · rw [if_neg g3] at hr; exact absurd hr.symm this.2
  · rw [hrow i (by omega), hrow j (by omega)] at hr
    rw [had i (by omega), had j (by omega)] at e
    by_cases g3 : i < 32 <;> by_cases g4 : j < 32
    · rw [if_pos g3, if_pos g4] at e
      have := i1 _ _ (by omega) (by omega) e
      omega
    · rw [if_pos g3, if_neg g4] at hr; omega
    · rw [if_neg g3, if_pos g4] at hr; omega
    · rw [if_neg g3, if_neg g4] at e
      have := i2 _ _ (by omega) (by omega) e
      omega
theorem mkW {D : va_G} {tc : Nat → ClassId} {A : Nat → Prop} {H : Heap} {q n1 n2 n3 n4 n5 n6 n7 n8 n9 n10 n11 n12 n13 n14 n15 n16 n17 n18 n19 n20 n21 : Nat} {f1 f2 : Nat → Nat} (h : ordW q n1 n2 n3 n4 n5 n6 n7 n8 n9 n10 n11 n12 n13 n14 n15 n16 n17 n18 n19 n20 n21 f1 f2) (hA : ∀ x, q ≤ x → A x) (y0 : va_at D vwCl (q, .inr (11, [.ref n1, .ref n5, .ref n7, .ref n15, .ref n19, .int 0])) H) (y1 : va_at D vwCl (n1, .inr (5, [.ref n2, .ref n3, .ref n4, .int 2, .int 0, .int 1900, .int 0, .int 0])) H) (y2 : va_at D vwCl (n2, s_in tc (.inr (0, 10, none)) (tW 10)) H) (y3 : va_at D vwCl (n3, .inl (tc 5, 10, .inr (.inr (.inr (.inr (fun j => if j < 10 then some (f1 j) else none)))))) H) (y4 : va_at D vwCl (n4, .inl (tc 5, 10, .inr (.inr (.inr (.inr (fun j => if j < 10 then some (f2 j) else none)))))) H) (y5 : va_at D vwCl (n5, .inr (4, [.ref n6, .int 0, .int 0, .int 0])) H) (y6 : va_at D vwCl (n6, s_in tc (.inr (0, 12, none)) (fun _ => 0)) H) (y7 : va_at D vwCl (n7, .inr (10, [.int 0, .ref n8, .ref n9, .ref n10, .ref n11, .ref n12, .ref n13, .ref n14])) H) (y8 : va_at D vwCl (n8, s_in tc (.inr (0, 12, none)) (fun _ => 0)) H) (y9 : va_at D vwCl (n9, s_in tc (.inr (0, 12, none)) (fun _ => 0)) H) (y10 : va_at D vwCl (n10, s_in tc (.inr (0, 12, none)) (fun _ => 0)) H) (y11 : va_at D vwCl (n11, s_in tc (.inr (0, 12, none)) (fun _ => 0)) H) (y12 : va_at D vwCl (n12, s_in tc (.inr (2, 12, none)) (fun _ => 0)) H) (y13 : va_at D vwCl (n13, s_in tc (.inr (1, 12, none)) (fun _ => 0)) H) (y14 : va_at D vwCl (n14, s_in tc (.inr (0, 12, none)) (fun _ => 0)) H) (y15 : va_at D vwCl (n15, .inr (9, [.int 0, .ref n16, .ref n17, .ref n18])) H) (y16 : va_at D vwCl (n16, s_in tc (.inr (0, 8, none)) (fun _ => 0)) H) (y17 : va_at D vwCl (n17, s_in tc (.inr (0, 8, none)) (fun _ => 0)) H) (y18 : va_at D vwCl (n18, s_in tc (.inr (0, 8, none)) (fun _ => 0)) H) (y19 : va_at D vwCl (n19, .inr (7, [.int 0, .ref n20, .ref n21])) H) (y20 : va_at D vwCl (n20, s_in tc (.inr (2, 60, none)) (fun _ => 0)) H) (y21 : va_at D vwCl (n21, s_in tc (.inr (0, 60, none)) (fun _ => 0)) H) (r1 : ∀ j, j < 10 → va_at D vwCl (f1 j, s_in tc (.inr (0, 3, none)) (fun _ => 0)) H) (r2 : ∀ j, j < 10 → va_at D vwCl (f2 j, s_in tc (.inr (0, 3, none)) (fun _ => 0)) H) : Blk D tc A (shW (adW q n1 n2 n3 n4 n5 n6 n7 n8 n9 n10 n11 n12 n13 n14 n15 n16 n17 n18 n19 n20 n21 f1 f2)) (adW q n1 n2 n3 n4 n5 n6 n7 n8 n9 n10 n11 n12 n13 n14 n15 n16 n17 n18 n19 n20 n21 f1 f2) cw0 H := by
  have hdom : ∀ i c, shW (adW q n1 n2 n3 n4 n5 n6 n7 n8 n9 n10 n11 n12 n13 n14 n15 n16 n17 n18 n19 n20 n21 f1 f2) i = some c → i < 42 := fun i c hc => by
    by_cases g : i < 22
    · omega
    · obtain ⟨m, rfl⟩ := Nat.exists_eq_add_of_le' (show 22 ≤ i by omega)
      have hc : (if m + 22 < 42 then (some (.inr (0, 3, none)) : Option Sc) else none) = some c := hc
      by_cases g2 : m + 22 < 42
      · exact g2
      · rw [if_neg g2] at hc; cases hc
  refine ⟨fun i c hs => ?_, fun i j c d hi hj e => adW_inj h (hdom i c hi) (hdom j d hj) e⟩
  obtain ⟨c0, c1, c2, c3, c4, c5, c6, c7, c8, c9, c10, c11, c12, c13, c14, c15, c16, c17, c18, c19, c20, c21, i1, i2⟩ := h
  match i, hs with
  | 0, hs => cases hs; exact ⟨y0, hA _ (Nat.le_refl _)⟩
  | 1, hs => cases hs; exact ⟨y1, hA _ (show q ≤ n1 by omega)⟩
  | 2, hs => cases hs; exact ⟨y2, hA _ (show q ≤ n2 by omega)⟩
  | 3, hs =>
    cases hs
    refine ⟨?_, hA _ (show q ≤ n3 by omega)⟩
    have e : (fun k => if k < 10 then some (adW q n1 n2 n3 n4 n5 n6 n7 n8 n9 n10 n11 n12 n13 n14 n15 n16 n17 n18 n19 n20 n21 f1 f2 (k + 22)) else none) = fun j => if j < 10 then some (f1 j) else none := by
      funext k
      by_cases g : k < 10
      · rw [if_pos g, if_pos g]
        show some (if k + 22 < 32 then f1 (k + 22 - 22) else f2 (k + 22 - 32)) = _
        rw [if_pos (by omega)]
        congr 2
      · rw [if_neg g, if_neg g]
    show va_at D vwCl (n3, .inl (tc 5, 10, .inr (.inr (.inr (.inr (fun k => if k < 10 then some (adW q n1 n2 n3 n4 n5 n6 n7 n8 n9 n10 n11 n12 n13 n14 n15 n16 n17 n18 n19 n20 n21 f1 f2 (k + 22)) else none)))))) H
    rw [e]
    exact y3
  | 4, hs =>
    cases hs
    refine ⟨?_, hA _ (show q ≤ n4 by omega)⟩
    have e : (fun k => if k < 10 then some (adW q n1 n2 n3 n4 n5 n6 n7 n8 n9 n10 n11 n12 n13 n14 n15 n16 n17 n18 n19 n20 n21 f1 f2 (k + 32)) else none) = fun j => if j < 10 then some (f2 j) else none := by
      funext k
      by_cases g : k < 10
      · rw [if_pos g, if_pos g]
        show some (if k + 32 < 32 then f1 (k + 32 - 22) else f2 (k + 32 - 32)) = _
        rw [if_neg (by omega)]
        congr 2
      · rw [if_neg g, if_neg g]
    show va_at D vwCl (n4, .inl (tc 5, 10, .inr (.inr (.inr (.inr (fun k => if k < 10 then some (adW q n1 n2 n3 n4 n5 n6 n7 n8 n9 n10 n11 n12 n13 n14 n15 n16 n17 n18 n19 n20 n21 f1 f2 (k + 32)) else none)))))) H
    rw [e]
    exact y4
  | 5, hs => cases hs; exact ⟨y5, hA _ (show q ≤ n5 by omega)⟩
  | 6, hs => cases hs; exact ⟨y6, hA _ (show q ≤ n6 by omega)⟩
  | 7, hs => cases hs; exact ⟨y7, hA _ (show q ≤ n7 by omega)⟩
  | 8, hs => cases hs; exact ⟨y8, hA _ (show q ≤ n8 by omega)⟩
  | 9, hs => cases hs; exact ⟨y9, hA _ (show q ≤ n9 by omega)⟩
  | 10, hs => cases hs; exact ⟨y10, hA _ (show q ≤ n10 by omega)⟩
  | 11, hs => cases hs; exact ⟨y11, hA _ (show q ≤ n11 by omega)⟩
  | 12, hs => cases hs; exact ⟨y12, hA _ (show q ≤ n12 by omega)⟩
  | 13, hs => cases hs; exact ⟨y13, hA _ (show q ≤ n13 by omega)⟩
  | 14, hs => cases hs; exact ⟨y14, hA _ (show q ≤ n14 by omega)⟩
  | 15, hs => cases hs; exact ⟨y15, hA _ (show q ≤ n15 by omega)⟩
  | 16, hs => cases hs; exact ⟨y16, hA _ (show q ≤ n16 by omega)⟩
  | 17, hs => cases hs; exact ⟨y17, hA _ (show q ≤ n17 by omega)⟩
  | 18, hs => cases hs; exact ⟨y18, hA _ (show q ≤ n18 by omega)⟩
  | 19, hs => cases hs; exact ⟨y19, hA _ (show q ≤ n19 by omega)⟩
  | 20, hs => cases hs; exact ⟨y20, hA _ (show q ≤ n20 by omega)⟩
  | 21, hs => cases hs; exact ⟨y21, hA _ (show q ≤ n21 by omega)⟩
  | i + 22, hs =>
    have hs : (if i + 22 < 42 then (some (.inr (0, 3, none)) : Option Sc) else none) = some c := hs
    by_cases g2 : i + 22 < 42
    · rw [if_pos g2] at hs
      cases hs
      by_cases g : i + 22 < 32
      · have e2 : adW q n1 n2 n3 n4 n5 n6 n7 n8 n9 n10 n11 n12 n13 n14 n15 n16 n17 n18 n19 n20 n21 f1 f2 (i + 22) = f1 i := by show (if i + 22 < 32 then f1 (i + 22 - 22) else f2 (i + 22 - 32)) = _; rw [if_pos g]; rfl
        rw [e2]
        exact ⟨r1 i (by omega), hA _ (by have := c3 i (by omega); omega)⟩
      · have e2 : adW q n1 n2 n3 n4 n5 n6 n7 n8 n9 n10 n11 n12 n13 n14 n15 n16 n17 n18 n19 n20 n21 f1 f2 (i + 22) = f2 (i + 22 - 32) := by show (if i + 22 < 32 then f1 (i + 22 - 22) else f2 (i + 22 - 32)) = _; rw [if_neg g]
        rw [e2]
        exact ⟨r2 _ (by omega), hA _ (by have := c3 (i + 22 - 32) (by omega); omega)⟩
    · rw [if_neg g2] at hs; cases hs
theorem mkR {D : va_G} {tc : Nat → ClassId} {H : Heap} {z q n1 n2 n3 n4 n5 n6 n7 n8 n9 n10 n11 n12 n13 n14 n15 n16 n17 n18 n19 n20 n21 : Nat} {f1 f2 : Nat → Nat} (hb : Blk D tc (fun x => q ≤ x) (shW (adW q n1 n2 n3 n4 n5 n6 n7 n8 n9 n10 n11 n12 n13 n14 n15 n16 n17 n18 n19 n20 n21 f1 f2)) (adW q n1 n2 n3 n4 n5 n6 n7 n8 n9 n10 n11 n12 n13 n14 n15 n16 n17 n18 n19 n20 n21 f1 f2) cw0 H) (h : ordW q n1 n2 n3 n4 n5 n6 n7 n8 n9 n10 n11 n12 n13 n14 n15 n16 n17 n18 n19 n20 n21 f1 f2) (hz : z ≤ n1) : Blk D tc (fun x => x = q ∨ z ≤ x) (shW (adW q n1 n2 n3 n4 n5 n6 n7 n8 n9 n10 n11 n12 n13 n14 n15 n16 n17 n18 n19 n20 n21 f1 f2)) (adW q n1 n2 n3 n4 n5 n6 n7 n8 n9 n10 n11 n12 n13 n14 n15 n16 n17 n18 n19 n20 n21 f1 f2) cw0 H := by
  have hmin : ∀ i, i < 42 → i ≠ 0 → n1 ≤ adW q n1 n2 n3 n4 n5 n6 n7 n8 n9 n10 n11 n12 n13 n14 n15 n16 n17 n18 n19 n20 n21 f1 f2 i := fun i hi h0 => by
    obtain ⟨c0, c1, c2, c3, c4, c5, c6, c7, c8, c9, c10, c11, c12, c13, c14, c15, c16, c17, c18, c19, c20, c21, i1, i2⟩ := h
    match i, hi, h0 with
    | 0, _, h0 => exact absurd rfl h0
    | 1, _, _ => show n1 ≤ n1; omega
    | 2, _, _ => show n1 ≤ n2; omega
    | 3, _, _ => show n1 ≤ n3; omega
    | 4, _, _ => show n1 ≤ n4; omega
    | 5, _, _ => show n1 ≤ n5; omega
    | 6, _, _ => show n1 ≤ n6; omega
    | 7, _, _ => show n1 ≤ n7; omega
    | 8, _, _ => show n1 ≤ n8; omega
    | 9, _, _ => show n1 ≤ n9; omega
    | 10, _, _ => show n1 ≤ n10; omega
    | 11, _, _ => show n1 ≤ n11; omega
    | 12, _, _ => show n1 ≤ n12; omega
    | 13, _, _ => show n1 ≤ n13; omega
    | 14, _, _ => show n1 ≤ n14; omega
    | 15, _, _ => show n1 ≤ n15; omega
    | 16, _, _ => show n1 ≤ n16; omega
    | 17, _, _ => show n1 ≤ n17; omega
    | 18, _, _ => show n1 ≤ n18; omega
    | 19, _, _ => show n1 ≤ n19; omega
    | 20, _, _ => show n1 ≤ n20; omega
    | 21, _, _ => show n1 ≤ n21; omega
    | i + 22, hi, _ =>
      by_cases g : i + 22 < 32
      · have e2 : adW q n1 n2 n3 n4 n5 n6 n7 n8 n9 n10 n11 n12 n13 n14 n15 n16 n17 n18 n19 n20 n21 f1 f2 (i + 22) = f1 i := by show (if i + 22 < 32 then f1 (i + 22 - 22) else f2 (i + 22 - 32)) = _; rw [if_pos g]; rfl
        rw [e2]
        have := c3 i (by omega)
        omega
      · have e2 : adW q n1 n2 n3 n4 n5 n6 n7 n8 n9 n10 n11 n12 n13 n14 n15 n16 n17 n18 n19 n20 n21 f1 f2 (i + 22) = f2 (i + 22 - 32) := by show (if i + 22 < 32 then f1 (i + 22 - 22) else f2 (i + 22 - 32)) = _; rw [if_neg g]
        rw [e2]
        have := c3 (i + 22 - 32) (by omega)
        omega
  refine hb.mono fun i c hc _ => ?_
  by_cases h0 : i = 0
  · subst h0
    exact Or.inl rfl
  · have hi : i < 42 := by
      by_cases g : i < 22
      · omega
      · obtain ⟨m, rfl⟩ := Nat.exists_eq_add_of_le' (show 22 ≤ i by omega)
        have hc : (if m + 22 < 42 then (some (.inr (0, 3, none)) : Option Sc) else none) = some c := hc
        by_cases g2 : m + 22 < 42
        · exact g2
        · rw [if_neg g2] at hc; cases hc
    exact Or.inr (Nat.le_trans hz (hmin i hi h0))
abbrev rm_k7  : Room := { frames := 2, cells := 44, slots := 450, locals := 41 }
set_option maxHeartbeats 4000000 in
theorem c_k7 (l : Launch) (D : va_G) (tc : Nat → ClassId) (h0 : Nat) (sa : Nat → Nat) (H0 : Heap) (q : Nat) (hat : va_at D vwCl (q, .inr (11, [.null, .null, .null, .null, .null, .int 0])) H0) (ha0 : h0 ≤ q) (hh0 : ∀ x, H0.size ≤ x → h0 ≤ x) : MB (S := (Nat → Nat)) l yX7_init cX7_init 1 (Option.none : Option FieldType) (rm_k7 ) (fun x : Nat => x = q ∨ H0.size ≤ x) [.ref q] D tc h0 sa H0 (fun _ => True) (fun ad H1 => ad 0 = q ∧ Blk D tc (fun x : Nat => x = q ∨ H0.size ≤ x) (shW ad) ad cw0 H1) (fun _ => none) := by
  refine MB.of RX7 [(0, .ref q)] (by decide +kernel) rfl (Nat.le_of_ble_eq_true rfl) rfl ?_
  intro p e s m below meth c ls X hr hin hT hH hS hl
  subst hH
  have hx := X.1
  have hb := X.2.1
  have hown := X.2.2.2.1
  have hU := X.2.2.2.2.1.1
  have hA0 : ∀ x : Nat, (x = q ∨ s.heap.size ≤ x) → h0 ≤ x := fun x h => h.elim (fun e => e ▸ ha0) (hh0 x)
  have hS0 : s.heap.size ≤ s.heap.size := Nat.le_refl _
  have hql := hat.lt
  refine lv_aload_n hx hb dX7_init_0 rfl (lv_at hl 0 rfl) ?_
  refine W.objInit hx hb hown (hU.use mo_X7_1.1) (hU.use mo_X7_1.2.1) (hU.use mo_X7_1.2.2) rfl (hl.1.trans X.2.2.1.symm) rfl dX7_init_1 (Nat.le_of_ble_eq_true rfl) (Nat.le_of_ble_eq_true rfl) ?_
  refine W.eq (g2 := F0 m 4 ls []) rfl ?_
  refine lv_aload_n hx hb dX7_init_4 rfl (lv_at hl 0 rfl) ?_
  refine x_new (A := (fun x : Nat => x = q ∨ s.heap.size ≤ x)) X nw_X7_7 (fs := [.null, .null, .null, .int 0, .int 0, .int 0, .int 0, .int 0]) (fun j hj => by rcases (show j = 0 ∨ j = 1 ∨ j = 2 ∨ j = 3 ∨ j = 4 ∨ j = 5 ∨ j = 6 ∨ j = 7 by omega) with e | e | e | e | e | e | e | e <;> subst e <;> rfl) hS (fun x h => Or.inr h) ⟨Nat.le_of_ble_eq_true rfl, Nat.le_of_ble_eq_true rfl⟩ dX7_init_5 (fun n1 H hqn1 rw9 hAq hz9 hqz o1 hS => ?_)
  have ln1 := Nat.lt_of_lt_of_le hat.lt hqn1
  have hat := hat.kept (o1 q hat.lt)
  have sn1 := Nat.le_trans hS0 hqn1
  have hS0 := hS.1
  refine lv_dup hx hb dX7_init_8 rfl ?_
  refine g_after (st0 := .ref n1 :: [.ref n1, .ref q]) (rest := [.ref n1, .ref q]) (g_I X m_X7_9 (c_k1 l D tc h0 sa _ n1 rw9 (hh0 _ sn1) (fun x h => hh0 x (by omega))) hT hS hA0 dX7_init_9 hl.1 rfl rfl ⟨Nat.le_of_ble_eq_true rfl, Nat.le_of_ble_eq_true rfl⟩ (Nat.le_of_ble_eq_true rfl) ⟨Nat.le_of_ble_eq_true rfl, Nat.le_of_ble_eq_true rfl⟩) hS (fun x h => h.elim (fun e => Or.inr (e ▸ sn1)) (fun h => Or.inr (by omega))) (fun u => [.ref n1, .ref q]) (fun _ => rfl) (fun u H locs hu hP9 hz8 hk9 hS => ?_)
  have hat := hat.kept (hk9 q hat.lt (fun e => by have := hat.lt; omega))
  obtain ⟨n2, n3, n4, f1, f2, zn2, ln2, ln3, ln4, oF, if1, if2, y1, y2, y3, y4, r1, r2⟩ := hP9
  have lf1 : ∀ j, j < 10 → q < f1 j := fun j hj => by have := oF j hj; omega
  have lf2 : ∀ j, j < 10 → q < f2 j := fun j hj => by have := oF j hj; omega
  have hS0 := hS.1
  refine x_putF (A := (fun x : Nat => x = q ∨ s.heap.size ≤ x)) X hin dX7_init_12 f_X7_10 rfl rfl hat (Or.inl rfl) hS (Nat.le_of_ble_eq_true rfl) rfl rfl (fun H locs hat oq hz hS => ?_)
  have y1 := y1.kept (oq n1 (fun e => by omega))
  have y2 := y2.kept (oq n2 (fun e => by omega))
  have y3 := y3.kept (oq n3 (fun e => by omega))
  have y4 := y4.kept (oq n4 (fun e => by omega))
  have r1 := fun j hj => (r1 j hj).kept (oq (f1 j) (fun e => by have := lf1 j hj; omega))
  have r2 := fun j hj => (r2 j hj).kept (oq (f2 j) (fun e => by have := lf2 j hj; omega))
  have hS0 := hS.1
  refine lv_aload_n hx hb dX7_init_15 rfl (lv_at hl 0 rfl) ?_
  refine x_new (A := (fun x : Nat => x = q ∨ s.heap.size ≤ x)) X nw_X7_16 (fs := [.null, .int 0, .int 0, .int 0]) (fun j hj => by rcases (show j = 0 ∨ j = 1 ∨ j = 2 ∨ j = 3 by omega) with e | e | e | e <;> subst e <;> rfl) hS (fun x h => Or.inr h) ⟨Nat.le_of_ble_eq_true rfl, Nat.le_of_ble_eq_true rfl⟩ dX7_init_16 (fun n5 H hqn5 rw9 hAq hz9 hqz o1 hS => ?_)
  have ln5 := Nat.lt_of_lt_of_le y4.lt hqn5
  have bf1n5 := fun j hj => Nat.lt_of_lt_of_le (r1 j hj).lt hqn5
  have bf2n5 := fun j hj => Nat.lt_of_lt_of_le (r2 j hj).lt hqn5
  have hat := hat.kept (o1 q hat.lt)
  have y1 := y1.kept (o1 n1 y1.lt)
  have y2 := y2.kept (o1 n2 y2.lt)
  have y3 := y3.kept (o1 n3 y3.lt)
  have y4 := y4.kept (o1 n4 y4.lt)
  have r1 := fun j hj => (r1 j hj).kept (o1 (f1 j) (r1 j hj).lt)
  have r2 := fun j hj => (r2 j hj).kept (o1 (f2 j) (r2 j hj).lt)
  have sn5 := Nat.le_trans hS0 hqn5
  have hS0 := hS.1
  refine lv_dup hx hb dX7_init_19 rfl ?_
  refine g_after (st0 := .ref n5 :: [.ref n5, .ref q]) (rest := [.ref n5, .ref q]) (g_IN X m_X7_18 (c_k0 l D tc h0 sa _ n5 rw9 (hh0 _ sn5) (fun x h => hh0 x (by omega))) hT hS hA0 dX7_init_20 hl.1 rfl rfl ⟨Nat.le_of_ble_eq_true rfl, Nat.le_of_ble_eq_true rfl⟩ (Nat.le_of_ble_eq_true rfl) ⟨Nat.le_of_ble_eq_true rfl, Nat.le_of_ble_eq_true rfl⟩) hS (fun x h => h.elim (fun e => Or.inr (e ▸ sn5)) (fun h => Or.inr (by omega))) (fun u => [.ref n5, .ref q]) (fun _ => rfl) (fun u H locs hu hP9 hz8 hk9 hS => ?_)
  have hat := hat.kept (hk9 q hat.lt (fun e => by have := hat.lt; omega))
  have y1 := y1.kept (hk9 n1 y1.lt (fun e => by have := y1.lt; omega))
  have y2 := y2.kept (hk9 n2 y2.lt (fun e => by have := y2.lt; omega))
  have y3 := y3.kept (hk9 n3 y3.lt (fun e => by have := y3.lt; omega))
  have y4 := y4.kept (hk9 n4 y4.lt (fun e => by have := y4.lt; omega))
  have r1 := fun j hj => (r1 j hj).kept (hk9 (f1 j) (r1 j hj).lt (fun e => by have := (r1 j hj).lt; have := bf1n5 j hj; omega))
  have r2 := fun j hj => (r2 j hj).kept (hk9 (f2 j) (r2 j hj).lt (fun e => by have := (r2 j hj).lt; have := bf2n5 j hj; omega))
  obtain ⟨n6, zn6, ln6, y5, y6⟩ := hP9
  have hS0 := hS.1
  refine x_putF (A := (fun x : Nat => x = q ∨ s.heap.size ≤ x)) X hin dX7_init_23 f_X7_19 rfl rfl hat (Or.inl rfl) hS (Nat.le_of_ble_eq_true rfl) rfl rfl (fun H locs hat oq hz hS => ?_)
  have y1 := y1.kept (oq n1 (fun e => by omega))
  have y2 := y2.kept (oq n2 (fun e => by omega))
  have y3 := y3.kept (oq n3 (fun e => by omega))
  have y4 := y4.kept (oq n4 (fun e => by omega))
  have y5 := y5.kept (oq n5 (fun e => by omega))
  have y6 := y6.kept (oq n6 (fun e => by omega))
  have r1 := fun j hj => (r1 j hj).kept (oq (f1 j) (fun e => by have := lf1 j hj; omega))
  have r2 := fun j hj => (r2 j hj).kept (oq (f2 j) (fun e => by have := lf2 j hj; omega))
  have hS0 := hS.1
  refine lv_aload_n hx hb dX7_init_26 rfl (lv_at hl 0 rfl) ?_
  refine x_new (A := (fun x : Nat => x = q ∨ s.heap.size ≤ x)) X nw_X7_23 (fs := [.int 0, .null, .null, .null, .null, .null, .null, .null]) (fun j hj => by rcases (show j = 0 ∨ j = 1 ∨ j = 2 ∨ j = 3 ∨ j = 4 ∨ j = 5 ∨ j = 6 ∨ j = 7 by omega) with e | e | e | e | e | e | e | e <;> subst e <;> rfl) hS (fun x h => Or.inr h) ⟨Nat.le_of_ble_eq_true rfl, Nat.le_of_ble_eq_true rfl⟩ dX7_init_27 (fun n7 H hqn7 rw9 hAq hz9 hqz o1 hS => ?_)
  have ln7 := Nat.lt_of_lt_of_le y6.lt hqn7
  have bf1n7 := fun j hj => Nat.lt_of_lt_of_le (r1 j hj).lt hqn7
  have bf2n7 := fun j hj => Nat.lt_of_lt_of_le (r2 j hj).lt hqn7
  have hat := hat.kept (o1 q hat.lt)
  have y1 := y1.kept (o1 n1 y1.lt)
  have y2 := y2.kept (o1 n2 y2.lt)
  have y3 := y3.kept (o1 n3 y3.lt)
  have y4 := y4.kept (o1 n4 y4.lt)
  have y5 := y5.kept (o1 n5 y5.lt)
  have y6 := y6.kept (o1 n6 y6.lt)
  have r1 := fun j hj => (r1 j hj).kept (o1 (f1 j) (r1 j hj).lt)
  have r2 := fun j hj => (r2 j hj).kept (o1 (f2 j) (r2 j hj).lt)
  have sn7 := Nat.le_trans hS0 hqn7
  have hS0 := hS.1
  refine lv_dup hx hb dX7_init_30 rfl ?_
  refine g_after (st0 := .ref n7 :: [.ref n7, .ref q]) (rest := [.ref n7, .ref q]) (g_IN X m_X7_25 (c_k6 l D tc h0 sa _ n7 rw9 (hh0 _ sn7) (fun x h => hh0 x (by omega))) hT hS hA0 dX7_init_31 hl.1 rfl rfl ⟨Nat.le_of_ble_eq_true rfl, Nat.le_of_ble_eq_true rfl⟩ (Nat.le_of_ble_eq_true rfl) ⟨Nat.le_of_ble_eq_true rfl, Nat.le_of_ble_eq_true rfl⟩) hS (fun x h => h.elim (fun e => Or.inr (e ▸ sn7)) (fun h => Or.inr (by omega))) (fun u => [.ref n7, .ref q]) (fun _ => rfl) (fun u H locs hu hP9 hz8 hk9 hS => ?_)
  have hat := hat.kept (hk9 q hat.lt (fun e => by have := hat.lt; omega))
  have y1 := y1.kept (hk9 n1 y1.lt (fun e => by have := y1.lt; omega))
  have y2 := y2.kept (hk9 n2 y2.lt (fun e => by have := y2.lt; omega))
  have y3 := y3.kept (hk9 n3 y3.lt (fun e => by have := y3.lt; omega))
  have y4 := y4.kept (hk9 n4 y4.lt (fun e => by have := y4.lt; omega))
  have y5 := y5.kept (hk9 n5 y5.lt (fun e => by have := y5.lt; omega))
  have y6 := y6.kept (hk9 n6 y6.lt (fun e => by have := y6.lt; omega))
  have r1 := fun j hj => (r1 j hj).kept (hk9 (f1 j) (r1 j hj).lt (fun e => by have := (r1 j hj).lt; have := bf1n7 j hj; omega))
  have r2 := fun j hj => (r2 j hj).kept (hk9 (f2 j) (r2 j hj).lt (fun e => by have := (r2 j hj).lt; have := bf2n7 j hj; omega))
  obtain ⟨n8, n9, n10, n11, n12, n13, n14, zn8, ln8, ln9, ln10, ln11, ln12, ln13, ln14, y7, y8, y9, y10, y11, y12, y13, y14⟩ := hP9
  have hS0 := hS.1
  refine x_putF (A := (fun x : Nat => x = q ∨ s.heap.size ≤ x)) X hin dX7_init_34 f_X7_26 rfl rfl hat (Or.inl rfl) hS (Nat.le_of_ble_eq_true rfl) rfl rfl (fun H locs hat oq hz hS => ?_)
  have y1 := y1.kept (oq n1 (fun e => by omega))
  have y2 := y2.kept (oq n2 (fun e => by omega))
  have y3 := y3.kept (oq n3 (fun e => by omega))
  have y4 := y4.kept (oq n4 (fun e => by omega))
  have y5 := y5.kept (oq n5 (fun e => by omega))
  have y6 := y6.kept (oq n6 (fun e => by omega))
  have y7 := y7.kept (oq n7 (fun e => by omega))
  have y8 := y8.kept (oq n8 (fun e => by omega))
  have y9 := y9.kept (oq n9 (fun e => by omega))
  have y10 := y10.kept (oq n10 (fun e => by omega))
  have y11 := y11.kept (oq n11 (fun e => by omega))
  have y12 := y12.kept (oq n12 (fun e => by omega))
  have y13 := y13.kept (oq n13 (fun e => by omega))
  have y14 := y14.kept (oq n14 (fun e => by omega))
  have r1 := fun j hj => (r1 j hj).kept (oq (f1 j) (fun e => by have := lf1 j hj; omega))
  have r2 := fun j hj => (r2 j hj).kept (oq (f2 j) (fun e => by have := lf2 j hj; omega))
  have hS0 := hS.1
  refine lv_aload_n hx hb dX7_init_37 rfl (lv_at hl 0 rfl) ?_
  refine x_new (A := (fun x : Nat => x = q ∨ s.heap.size ≤ x)) X nw_X7_30 (fs := [.int 0, .null, .null, .null]) (fun j hj => by rcases (show j = 0 ∨ j = 1 ∨ j = 2 ∨ j = 3 by omega) with e | e | e | e <;> subst e <;> rfl) hS (fun x h => Or.inr h) ⟨Nat.le_of_ble_eq_true rfl, Nat.le_of_ble_eq_true rfl⟩ dX7_init_38 (fun n15 H hqn15 rw9 hAq hz9 hqz o1 hS => ?_)
  have ln15 := Nat.lt_of_lt_of_le y14.lt hqn15
  have bf1n15 := fun j hj => Nat.lt_of_lt_of_le (r1 j hj).lt hqn15
  have bf2n15 := fun j hj => Nat.lt_of_lt_of_le (r2 j hj).lt hqn15
  have hat := hat.kept (o1 q hat.lt)
  have y1 := y1.kept (o1 n1 y1.lt)
  have y2 := y2.kept (o1 n2 y2.lt)
  have y3 := y3.kept (o1 n3 y3.lt)
  have y4 := y4.kept (o1 n4 y4.lt)
  have y5 := y5.kept (o1 n5 y5.lt)
  have y6 := y6.kept (o1 n6 y6.lt)
  have y7 := y7.kept (o1 n7 y7.lt)
  have y8 := y8.kept (o1 n8 y8.lt)
  have y9 := y9.kept (o1 n9 y9.lt)
  have y10 := y10.kept (o1 n10 y10.lt)
  have y11 := y11.kept (o1 n11 y11.lt)
  have y12 := y12.kept (o1 n12 y12.lt)
  have y13 := y13.kept (o1 n13 y13.lt)
  have y14 := y14.kept (o1 n14 y14.lt)
  have r1 := fun j hj => (r1 j hj).kept (o1 (f1 j) (r1 j hj).lt)
  have r2 := fun j hj => (r2 j hj).kept (o1 (f2 j) (r2 j hj).lt)
  have sn15 := Nat.le_trans hS0 hqn15
  have hS0 := hS.1
  refine lv_dup hx hb dX7_init_41 rfl ?_
  refine g_after (st0 := .ref n15 :: [.ref n15, .ref q]) (rest := [.ref n15, .ref q]) (g_IN X m_X7_32 (c_k5 l D tc h0 sa _ n15 rw9 (hh0 _ sn15) (fun x h => hh0 x (by omega))) hT hS hA0 dX7_init_42 hl.1 rfl rfl ⟨Nat.le_of_ble_eq_true rfl, Nat.le_of_ble_eq_true rfl⟩ (Nat.le_of_ble_eq_true rfl) ⟨Nat.le_of_ble_eq_true rfl, Nat.le_of_ble_eq_true rfl⟩) hS (fun x h => h.elim (fun e => Or.inr (e ▸ sn15)) (fun h => Or.inr (by omega))) (fun u => [.ref n15, .ref q]) (fun _ => rfl) (fun u H locs hu hP9 hz8 hk9 hS => ?_)
  have hat := hat.kept (hk9 q hat.lt (fun e => by have := hat.lt; omega))
  have y1 := y1.kept (hk9 n1 y1.lt (fun e => by have := y1.lt; omega))
  have y2 := y2.kept (hk9 n2 y2.lt (fun e => by have := y2.lt; omega))
  have y3 := y3.kept (hk9 n3 y3.lt (fun e => by have := y3.lt; omega))
  have y4 := y4.kept (hk9 n4 y4.lt (fun e => by have := y4.lt; omega))
  have y5 := y5.kept (hk9 n5 y5.lt (fun e => by have := y5.lt; omega))
  have y6 := y6.kept (hk9 n6 y6.lt (fun e => by have := y6.lt; omega))
  have y7 := y7.kept (hk9 n7 y7.lt (fun e => by have := y7.lt; omega))
  have y8 := y8.kept (hk9 n8 y8.lt (fun e => by have := y8.lt; omega))
  have y9 := y9.kept (hk9 n9 y9.lt (fun e => by have := y9.lt; omega))
  have y10 := y10.kept (hk9 n10 y10.lt (fun e => by have := y10.lt; omega))
  have y11 := y11.kept (hk9 n11 y11.lt (fun e => by have := y11.lt; omega))
  have y12 := y12.kept (hk9 n12 y12.lt (fun e => by have := y12.lt; omega))
  have y13 := y13.kept (hk9 n13 y13.lt (fun e => by have := y13.lt; omega))
  have y14 := y14.kept (hk9 n14 y14.lt (fun e => by have := y14.lt; omega))
  have r1 := fun j hj => (r1 j hj).kept (hk9 (f1 j) (r1 j hj).lt (fun e => by have := (r1 j hj).lt; have := bf1n15 j hj; omega))
  have r2 := fun j hj => (r2 j hj).kept (hk9 (f2 j) (r2 j hj).lt (fun e => by have := (r2 j hj).lt; have := bf2n15 j hj; omega))
  obtain ⟨n16, n17, n18, zn16, ln16, ln17, ln18, y15, y16, y17, y18⟩ := hP9
  have hS0 := hS.1
  refine x_putF (A := (fun x : Nat => x = q ∨ s.heap.size ≤ x)) X hin dX7_init_45 f_X7_33 rfl rfl hat (Or.inl rfl) hS (Nat.le_of_ble_eq_true rfl) rfl rfl (fun H locs hat oq hz hS => ?_)
  have y1 := y1.kept (oq n1 (fun e => by omega))
  have y2 := y2.kept (oq n2 (fun e => by omega))
  have y3 := y3.kept (oq n3 (fun e => by omega))
  have y4 := y4.kept (oq n4 (fun e => by omega))
  have y5 := y5.kept (oq n5 (fun e => by omega))
  have y6 := y6.kept (oq n6 (fun e => by omega))
  have y7 := y7.kept (oq n7 (fun e => by omega))
  have y8 := y8.kept (oq n8 (fun e => by omega))
  have y9 := y9.kept (oq n9 (fun e => by omega))
  have y10 := y10.kept (oq n10 (fun e => by omega))
  have y11 := y11.kept (oq n11 (fun e => by omega))
  have y12 := y12.kept (oq n12 (fun e => by omega))
  have y13 := y13.kept (oq n13 (fun e => by omega))
  have y14 := y14.kept (oq n14 (fun e => by omega))
  have y15 := y15.kept (oq n15 (fun e => by omega))
  have y16 := y16.kept (oq n16 (fun e => by omega))
  have y17 := y17.kept (oq n17 (fun e => by omega))
  have y18 := y18.kept (oq n18 (fun e => by omega))
  have r1 := fun j hj => (r1 j hj).kept (oq (f1 j) (fun e => by have := lf1 j hj; omega))
  have r2 := fun j hj => (r2 j hj).kept (oq (f2 j) (fun e => by have := lf2 j hj; omega))
  have hS0 := hS.1
  refine lv_aload_n hx hb dX7_init_48 rfl (lv_at hl 0 rfl) ?_
  refine x_new (A := (fun x : Nat => x = q ∨ s.heap.size ≤ x)) X nw_X7_37 (fs := [.int 0, .null, .null]) (fun j hj => by rcases (show j = 0 ∨ j = 1 ∨ j = 2 by omega) with e | e | e <;> subst e <;> rfl) hS (fun x h => Or.inr h) ⟨Nat.le_of_ble_eq_true rfl, Nat.le_of_ble_eq_true rfl⟩ dX7_init_49 (fun n19 H hqn19 rw9 hAq hz9 hqz o1 hS => ?_)
  have ln19 := Nat.lt_of_lt_of_le y18.lt hqn19
  have bf1n19 := fun j hj => Nat.lt_of_lt_of_le (r1 j hj).lt hqn19
  have bf2n19 := fun j hj => Nat.lt_of_lt_of_le (r2 j hj).lt hqn19
  have hat := hat.kept (o1 q hat.lt)
  have y1 := y1.kept (o1 n1 y1.lt)
  have y2 := y2.kept (o1 n2 y2.lt)
  have y3 := y3.kept (o1 n3 y3.lt)
  have y4 := y4.kept (o1 n4 y4.lt)
  have y5 := y5.kept (o1 n5 y5.lt)
  have y6 := y6.kept (o1 n6 y6.lt)
  have y7 := y7.kept (o1 n7 y7.lt)
  have y8 := y8.kept (o1 n8 y8.lt)
  have y9 := y9.kept (o1 n9 y9.lt)
  have y10 := y10.kept (o1 n10 y10.lt)
  have y11 := y11.kept (o1 n11 y11.lt)
  have y12 := y12.kept (o1 n12 y12.lt)
  have y13 := y13.kept (o1 n13 y13.lt)
  have y14 := y14.kept (o1 n14 y14.lt)
  have y15 := y15.kept (o1 n15 y15.lt)
  have y16 := y16.kept (o1 n16 y16.lt)
  have y17 := y17.kept (o1 n17 y17.lt)
  have y18 := y18.kept (o1 n18 y18.lt)
  have r1 := fun j hj => (r1 j hj).kept (o1 (f1 j) (r1 j hj).lt)
  have r2 := fun j hj => (r2 j hj).kept (o1 (f2 j) (r2 j hj).lt)
  have sn19 := Nat.le_trans hS0 hqn19
  have hS0 := hS.1
  refine lv_dup hx hb dX7_init_52 rfl ?_
  refine g_after (st0 := .ref n19 :: [.ref n19, .ref q]) (rest := [.ref n19, .ref q]) (g_IN X m_X7_39 (c_k3 l D tc h0 sa _ n19 rw9 (hh0 _ sn19) (fun x h => hh0 x (by omega))) hT hS hA0 dX7_init_53 hl.1 rfl rfl ⟨Nat.le_of_ble_eq_true rfl, Nat.le_of_ble_eq_true rfl⟩ (Nat.le_of_ble_eq_true rfl) ⟨Nat.le_of_ble_eq_true rfl, Nat.le_of_ble_eq_true rfl⟩) hS (fun x h => h.elim (fun e => Or.inr (e ▸ sn19)) (fun h => Or.inr (by omega))) (fun u => [.ref n19, .ref q]) (fun _ => rfl) (fun u H locs hu hP9 hz8 hk9 hS => ?_)
  have hat := hat.kept (hk9 q hat.lt (fun e => by have := hat.lt; omega))
  have y1 := y1.kept (hk9 n1 y1.lt (fun e => by have := y1.lt; omega))
  have y2 := y2.kept (hk9 n2 y2.lt (fun e => by have := y2.lt; omega))
  have y3 := y3.kept (hk9 n3 y3.lt (fun e => by have := y3.lt; omega))
  have y4 := y4.kept (hk9 n4 y4.lt (fun e => by have := y4.lt; omega))
  have y5 := y5.kept (hk9 n5 y5.lt (fun e => by have := y5.lt; omega))
  have y6 := y6.kept (hk9 n6 y6.lt (fun e => by have := y6.lt; omega))
  have y7 := y7.kept (hk9 n7 y7.lt (fun e => by have := y7.lt; omega))
  have y8 := y8.kept (hk9 n8 y8.lt (fun e => by have := y8.lt; omega))
  have y9 := y9.kept (hk9 n9 y9.lt (fun e => by have := y9.lt; omega))
  have y10 := y10.kept (hk9 n10 y10.lt (fun e => by have := y10.lt; omega))
  have y11 := y11.kept (hk9 n11 y11.lt (fun e => by have := y11.lt; omega))
  have y12 := y12.kept (hk9 n12 y12.lt (fun e => by have := y12.lt; omega))
  have y13 := y13.kept (hk9 n13 y13.lt (fun e => by have := y13.lt; omega))
  have y14 := y14.kept (hk9 n14 y14.lt (fun e => by have := y14.lt; omega))
  have y15 := y15.kept (hk9 n15 y15.lt (fun e => by have := y15.lt; omega))
  have y16 := y16.kept (hk9 n16 y16.lt (fun e => by have := y16.lt; omega))
  have y17 := y17.kept (hk9 n17 y17.lt (fun e => by have := y17.lt; omega))
  have y18 := y18.kept (hk9 n18 y18.lt (fun e => by have := y18.lt; omega))
  have r1 := fun j hj => (r1 j hj).kept (hk9 (f1 j) (r1 j hj).lt (fun e => by have := (r1 j hj).lt; have := bf1n19 j hj; omega))
  have r2 := fun j hj => (r2 j hj).kept (hk9 (f2 j) (r2 j hj).lt (fun e => by have := (r2 j hj).lt; have := bf2n19 j hj; omega))
  obtain ⟨n20, n21, zn20, ln20, ln21, y19, y20, y21⟩ := hP9
  have hS0 := hS.1
  refine x_putF (A := (fun x : Nat => x = q ∨ s.heap.size ≤ x)) X hin dX7_init_56 f_X7_40 rfl rfl hat (Or.inl rfl) hS (Nat.le_of_ble_eq_true rfl) rfl rfl (fun H locs hat oq hz hS => ?_)
  have y1 := y1.kept (oq n1 (fun e => by omega))
  have y2 := y2.kept (oq n2 (fun e => by omega))
  have y3 := y3.kept (oq n3 (fun e => by omega))
  have y4 := y4.kept (oq n4 (fun e => by omega))
  have y5 := y5.kept (oq n5 (fun e => by omega))
  have y6 := y6.kept (oq n6 (fun e => by omega))
  have y7 := y7.kept (oq n7 (fun e => by omega))
  have y8 := y8.kept (oq n8 (fun e => by omega))
  have y9 := y9.kept (oq n9 (fun e => by omega))
  have y10 := y10.kept (oq n10 (fun e => by omega))
  have y11 := y11.kept (oq n11 (fun e => by omega))
  have y12 := y12.kept (oq n12 (fun e => by omega))
  have y13 := y13.kept (oq n13 (fun e => by omega))
  have y14 := y14.kept (oq n14 (fun e => by omega))
  have y15 := y15.kept (oq n15 (fun e => by omega))
  have y16 := y16.kept (oq n16 (fun e => by omega))
  have y17 := y17.kept (oq n17 (fun e => by omega))
  have y18 := y18.kept (oq n18 (fun e => by omega))
  have y19 := y19.kept (oq n19 (fun e => by omega))
  have y20 := y20.kept (oq n20 (fun e => by omega))
  have y21 := y21.kept (oq n21 (fun e => by omega))
  have r1 := fun j hj => (r1 j hj).kept (oq (f1 j) (fun e => by have := lf1 j hj; omega))
  have r2 := fun j hj => (r2 j hj).kept (oq (f2 j) (fun e => by have := lf2 j hj; omega))
  have hS0 := hS.1
  have hord : ordW q n1 n2 n3 n4 n5 n6 n7 n8 n9 n10 n11 n12 n13 n14 n15 n16 n17 n18 n19 n20 n21 f1 f2 := ⟨ln1, ln2, ln3, fun j hj => ⟨(oF j hj).1, (oF j hj).2.1, (oF j hj).2.2, bf2n5 j hj⟩, ln4, ln5, ln6, ln7, ln8, ln9, ln10, ln11, ln12, ln13, ln14, ln15, ln16, ln17, ln18, ln19, ln20, ln21, if1, if2⟩
  exact e_v X hr dX7_init_59 hS (adW q n1 n2 n3 n4 n5 n6 n7 n8 n9 n10 n11 n12 n13 n14 n15 n16 n17 n18 n19 n20 n21 f1 f2) rfl trivial ⟨rfl, mkR (mkW hord (A := fun x => q ≤ x) (fun x h => h) hat y1 y2 y3 y4 y5 y6 y7 y8 y9 y10 y11 y12 y13 y14 y15 y16 y17 y18 y19 y20 y21 r1 r2) hord sn1⟩ ⟨Nat.le_of_ble_eq_true rfl, Nat.le_of_ble_eq_true rfl⟩
