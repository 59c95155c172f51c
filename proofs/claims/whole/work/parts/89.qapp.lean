/-! THE PURE SIDE: a world copied in the model -/
/-- the data of w with other counts -/
def cutw (w : Dt) (i j l : Nat) : Dt := fun p k => if p = 7 ∧ k = 0 then nI i else if p = 15 ∧ k = 0 then nI j else if p = 19 ∧ k = 0 then nI l else w p k
theorem cutw_7 (w : Dt) (i j l : Nat) : cutw w i j l 7 0 = nI i := if_pos ⟨rfl, rfl⟩
theorem cutw_15 (w : Dt) (i j l : Nat) : cutw w i j l 15 0 = nI j := (if_neg (by omega)).trans (if_pos ⟨rfl, rfl⟩)
theorem cutw_19 (w : Dt) (i j l : Nat) : cutw w i j l 19 0 = nI l := (if_neg (by omega)).trans ((if_neg (by omega)).trans (if_pos ⟨rfl, rfl⟩))
theorem cutw_o {w : Dt} {i j l p k : Nat} (h : ¬ ((p = 7 ∨ p = 15 ∨ p = 19) ∧ k = 0)) : cutw w i j l p k = w p k := (if_neg (by omega)).trans ((if_neg (by omega)).trans (if_neg (by omega)))
section MCPY
variable {ow0 n0 : Nat → Nat} {rr0 : Nat → Nat → Nat} {ww0 : Dt} {b a : Nat}
theorem GK.appS {ow t n : Nat → Nat} {rr : Nat → Nat → Nat} {ww w : Dt} {C : Nat} (h : GK ow0 n0 rr0 ww0 b a ow t n rr ww w) (hn : n (rr a 8) = C) (hC : C < 12) {q : Nat} (hq : t q = 0) {t' n' : Nat → Nat} {rr' : Nat → Nat → Nat} {ww' w' : Dt} (et : t' = va_up t q 3) (en : n' = va_up n (rr a 8) (C + 1)) (er : rr' = va_up rr (rr a 8) (va_up (rr (rr a 8)) C q))
    (hw : ∀ c, c ≠ rr a 8 → c ≠ q → ww' c = ww c) (hw1 : w' 7 0 = nI (C + 1)) (hw2 : ∀ p k, ¬ (p = 7 ∧ k = 0) → ¬ (8 ≤ p ∧ p < 15 ∧ k = C) → w' p k = w p k) (hd : (∀ p, 8 ≤ p → p < 15 → p ≠ 12 → w' p C = gx p (ww' q (p - 8))) ∧ (w' 13 C = 1 → w' 12 C = ww' q 4) ∧ (w' 13 C = 0 → ww' q 4 = 45)) :
    GK ow0 n0 rr0 ww0 b a (va_up ow q (b + 30 + C)) t' n' rr' ww' w' := by
  have hqo : ow q = 0 := Decidable.byContradiction fun z => h.fr q z hq
  have hLo := h.wr.o8
  have hb := h.hb
  have hLq : rr a 8 ≠ q := fun z => by rw [z] at hLo; omega
  have hkeep : ∀ cc, cc ≠ rr a 8 → cc ≠ q → va_up ow q (b + 30 + C) cc = ow cc ∧ n' cc = n cc ∧ rr' cc = rr cc ∧ ww' cc = ww cc := fun cc h1 h2 =>
    ⟨vup_ne h2, by rw [en, vup_ne h1], by rw [er, vup_ne h1], hw cc h1 h2⟩
  have hoL : va_up ow q (b + 30 + C) (rr a 8) = ow (rr a 8) := vup_ne hLq
  have hoq : va_up ow q (b + 30 + C) q = b + 30 + C := vup_eq _ _ _
  refine h.gap (L := rr a 8) (q := q) (by omega) hq hkeep hoL (Or.inr (by omega)) (fun cc hcc => ?_) ?_
  · rw [et]
    by_cases z : cc = q
    · rw [z, vup_eq]
      decide
    · rw [vup_ne z]
      rw [vup_ne z] at hcc
      exact h.fr cc hcc
  · exact h.wr.appS hb hqo (by omega) hkeep hoL (by rw [en, vup_eq, hn]) (by rw [er, vup_eq, hn]) (by rw [hoq, hn]) (by rw [hw1, hn]) (by rw [hn]; exact hw2) (by rw [hn]; exact hd)
theorem GK.appC {ow t n : Nat → Nat} {rr : Nat → Nat → Nat} {ww w : Dt} {C : Nat} (h : GK ow0 n0 rr0 ww0 b a ow t n rr ww w) (hn : n (rr a 9) = C) (hC : C < 8) {q : Nat} (hq : t q = 0) {t' n' : Nat → Nat} {rr' : Nat → Nat → Nat} {ww' w' : Dt} (et : t' = va_up t q 23) (en : n' = va_up n (rr a 9) (C + 1)) (er : rr' = va_up rr (rr a 9) (va_up (rr (rr a 9)) C q))
    (hw : ∀ c, c ≠ rr a 9 → c ≠ q → ww' c = ww c) (hw1 : w' 15 0 = nI (C + 1)) (hw2 : ∀ p k, ¬ (p = 15 ∧ k = 0) → ¬ (16 ≤ p ∧ p < 19 ∧ k = C) → w' p k = w p k) (hd : ∀ p, 16 ≤ p → p < 19 → w' p C = ww' q (RI p C)) :
    GK ow0 n0 rr0 ww0 b a (va_up ow q (b + 60 + C)) t' n' rr' ww' w' := by
  have hqo : ow q = 0 := Decidable.byContradiction fun z => h.fr q z hq
  have hLo := h.wr.o9
  have hb := h.hb
  have hLq : rr a 9 ≠ q := fun z => by rw [z] at hLo; omega
  have hkeep : ∀ cc, cc ≠ rr a 9 → cc ≠ q → va_up ow q (b + 60 + C) cc = ow cc ∧ n' cc = n cc ∧ rr' cc = rr cc ∧ ww' cc = ww cc := fun cc h1 h2 =>
    ⟨vup_ne h2, by rw [en, vup_ne h1], by rw [er, vup_ne h1], hw cc h1 h2⟩
  have hoL : va_up ow q (b + 60 + C) (rr a 9) = ow (rr a 9) := vup_ne hLq
  have hoq : va_up ow q (b + 60 + C) q = b + 60 + C := vup_eq _ _ _
  refine h.gap (L := rr a 9) (q := q) (by omega) hq hkeep hoL (Or.inr (by omega)) (fun cc hcc => ?_) ?_
  · rw [et]
    by_cases z : cc = q
    · rw [z, vup_eq]
      decide
    · rw [vup_ne z]
      rw [vup_ne z] at hcc
      exact h.fr cc hcc
  · exact h.wr.appC hb hqo (by omega) hkeep hoL (by rw [en, vup_eq, hn]) (by rw [er, vup_eq, hn]) (by rw [hoq, hn]) (by rw [hw1, hn]) (by rw [hn]; exact hw2) (by rw [hn]; exact hd)
/-- all notes at once, the rows being shared -/
theorem GK.bulk {ow t n : Nat → Nat} {rr : Nat → Nat → Nat} {ww w : Dt} (h : GK ow0 n0 rr0 ww0 b a ow t n rr ww w) (hn0 : n (rr a 10) = 0) {N : Nat} {g : Nat → Nat} (hN : N ≤ 60) (hg : ∀ k, k < N → ow (g k) = 9) {n' : Nat → Nat} {rr' : Nat → Nat → Nat} {ww' w' : Dt} (en : n' = va_up n (rr a 10) N) (er : rr' = va_up rr (rr a 10) g)
    (hw : ∀ c, c ≠ rr a 10 → ww' c = ww c) (hw1 : w' 19 0 = nI N) (hw2 : ∀ p k, ¬ (p = 19 ∧ k = 0) → w' p k = w p k) (hd : ∀ p k, 20 ≤ p → p < 22 → k < N → w p k = ww (g k) (p - 20)) : GK ow0 n0 rr0 ww0 b a ow t n' rr' ww' w' := by
  have hb := h.hb
  have hLo := h.wr.o10
  have W := h.wr
  have hk : ∀ c, ow c ≠ b + 8 → n' c = n c ∧ rr' c = rr c ∧ ww' c = ww c := fun c hc => by
    have hcL : c ≠ rr a 10 := fun z => hc (by rw [z]; exact hLo)
    exact ⟨by rw [en, vup_ne hcL], by rw [er, vup_ne hcL], hw c hcL⟩
  have ra : rr' a = rr a := (hk a (by rw [W.oa]; omega)).2.1
  have r1 : rr' (rr a 1) = rr (rr a 1) := (hk _ (by rw [W.o1]; omega)).2.1
  have r2 : rr' (rr a 2) = rr (rr a 2) := (hk _ (by rw [W.o2]; omega)).2.1
  have r8 := hk (rr a 8) (by rw [W.o8]; omega)
  have r9 := hk (rr a 9) (by rw [W.o9]; omega)
  have nL : n' (rr a 10) = N := by rw [en, vup_eq]
  have rL : rr' (rr a 10) = g := by rw [er, vup_eq]
  have hC := W.nC
  have hS := W.nS
  have hRA : ∀ p k, ¬ (19 ≤ p ∧ p < 22) → RA rr' a p k = RA rr a p k := fun p k hp => by
    unfold RA
    rw [ra, r8.2.1, r9.2.1, r1, r2]
    by_cases q1 : p < 19
    · rw [if_pos q1, if_pos q1]
    · rw [if_neg q1, if_neg q1, if_neg (show ¬ p < 22 by omega), if_neg (show ¬ p < 22 by omega)]
  refine ⟨hb, ?_, h.fr, fun c h0 h1 => ?_, h.nw⟩
  · refine ⟨W.oa, by rw [ra]; exact W.o0, by rw [ra]; exact W.o1, by rw [ra]; exact W.o2, by rw [ra]; exact W.o5, by rw [ra]; exact W.o8, by rw [ra]; exact W.o9, by rw [ra]; exact W.o10, by rw [ra, r1]; exact W.ov, by rw [ra, r2]; exact W.oi, by rw [ra, r8.1, r8.2.1]; exact W.os, by rw [ra, r9.1, r9.2.1]; exact W.osc, by rw [ra, nL, rL]; exact hg, by rw [ra, r8.1]; exact W.nC, by rw [ra, r9.1]; exact W.nS, by rw [ra, nL]; exact hN, by rw [ra, r8.1, hw2 7 0 (by omega)]; exact W.cC, by rw [ra, r9.1, hw2 15 0 (by omega)]; exact W.cS, by rw [ra, nL]; exact hw1, fun p k hl => ?_, ?_, ?_⟩
    · rw [ra, r8.1, r9.1, nL] at hl
      by_cases z : 20 ≤ p ∧ p < 22
      · rw [gx_n (by omega), RA_nt (by omega) z.2, RI_nt z.1 z.2, ra, rL, hw2 p k (by omega)]
        have hkN : k < N := by rcases hl with z' | z' | z' | z' | z' | z' | z' | z' | z' <;> omega
        have e9 := hg k hkN
        rw [hw (g k) (fun z2 => by rw [z2, hLo] at e9; omega)]
        exact hd p k z.1 z.2 hkN
      · have hl0 : lv (n (rr a 8)) (n (rr a 9)) (n (rr a 10)) p k := by
          rcases hl with z' | z' | z' | z' | z' | z' | z' | z' | z'
          · exact Or.inl z'
          · exact Or.inr (Or.inl z')
          · exact Or.inr (Or.inr (Or.inl z'))
          · exact Or.inr (Or.inr (Or.inr (Or.inl z')))
          · exact Or.inr (Or.inr (Or.inr (Or.inr (Or.inl z'))))
          · exact Or.inr (Or.inr (Or.inr (Or.inr (Or.inr (Or.inl z')))))
          · exact Or.inr (Or.inr (Or.inr (Or.inr (Or.inr (Or.inr (Or.inl z'))))))
          · omega
          · exact Or.inr (Or.inr (Or.inr (Or.inr (Or.inr (Or.inr (Or.inr (Or.inr z')))))))
        have hp19 : ¬ (19 ≤ p ∧ p < 22) := fun q => by rcases hl0 with z' | z' | z' | z' | z' | z' | z' | z' | z' <;> omega
        rw [hRA p k hp19, hw2 p k (by omega), W.da p k hl0]
        rcases W.own hl0 with ⟨q0, e1⟩ | ⟨q1, q2, e1⟩
        · have : oc p k ≠ 8 ∧ 0 < oc p k := by
            rcases hl0 with ⟨rfl, rfl⟩ | ⟨rfl, z'⟩ | ⟨rfl, z'⟩ | ⟨rfl, z'⟩ | ⟨rfl, z'⟩ | ⟨z1, z2, z3, z4⟩ | ⟨z1, z2, z3⟩ | ⟨z1, z2, z3⟩ | ⟨z1, z2, z3⟩
            · decide
            · exact ⟨by show 1 ≠ 8; decide, by show 0 < 1; decide⟩
            · exact ⟨by show 2 ≠ 8; decide, by show 0 < 2; decide⟩
            · exact ⟨by show 1 ≠ 8; decide, by show 0 < 1; decide⟩
            · exact ⟨by show 5 ≠ 8; decide, by show 0 < 5; decide⟩
            · rw [oc_st z1 z2]; omega
            · rw [oc_sc (by omega) z2]; omega
            · omega
            · rw [oc_v z1]; omega
          rw [(hk _ (by rw [e1]; omega)).2.2]
        · omega
    · rw [ra, r8.1, r8.2.1]
      intro k hk'
      have e := W.os k hk'
      rw [hw2 13 k (by omega), hw2 12 k (by omega), (hk _ (by rw [e]; omega)).2.2]
      exact W.nm k hk'
    · rw [ra, r8.1, r8.2.1]
      intro k hk'
      have e := W.os k hk'
      rw [hw2 13 k (by omega), (hk _ (by rw [e]; omega)).2.2]
      exact W.ng k hk'
  · obtain ⟨g1, g2, g3, g4⟩ := h.ko c h0 h1
    have hcL : c ≠ rr a 10 := fun z => by
      rw [z] at g1
      rw [z, ← g1, hLo] at h1
      omega
    exact ⟨g1, by rw [en, vup_ne hcL, g2], by rw [er, vup_ne hcL, g3], by rw [hw c hcL, g4]⟩
end MCPY
