/-! THE PURE SIDE: the store grows -/
/-- the world at a while the store grows: ow0, n0, rr0, ww0 is the store at first -/
abbrev GK (ow0 n0 : Nat → Nat) (rr0 : Nat → Nat → Nat) (ww0 : Dt) (b a : Nat) (ow t n : Nat → Nat) (rr : Nat → Nat → Nat) (ww w : Dt) : Prop := ∃ _ : (1000 ≤ b), ∃ _ : (WR ow n rr ww b a w), ∃ _ : (∀ c, ow c ≠ 0 → t c ≠ 0), ∃ _ : (∀ c, ow0 c ≠ 0 → ¬ (b < ow0 c ∧ ow0 c < b + 100) → ow c = ow0 c ∧ n c = n0 c ∧ rr c = rr0 c ∧ ww c = ww0 c), (∀ c, ow c = ow0 c ∨ ow c = 9 ∨ (b < ow c ∧ ow c < b + 100))
theorem GK.hb {ow0 n0 : Nat → Nat} {rr0 : Nat → Nat → Nat} {ww0 : Dt} {b a : Nat} {ow t n : Nat → Nat} {rr : Nat → Nat → Nat} {ww w : Dt} (h : GK ow0 n0 rr0 ww0 b a ow t n rr ww w) : 1000 ≤ b := ex1 h
theorem GK.wr {ow0 n0 : Nat → Nat} {rr0 : Nat → Nat → Nat} {ww0 : Dt} {b a : Nat} {ow t n : Nat → Nat} {rr : Nat → Nat → Nat} {ww w : Dt} (h : GK ow0 n0 rr0 ww0 b a ow t n rr ww w) : WR ow n rr ww b a w := ex1 (ex2 h)
theorem GK.fr {ow0 n0 : Nat → Nat} {rr0 : Nat → Nat → Nat} {ww0 : Dt} {b a : Nat} {ow t n : Nat → Nat} {rr : Nat → Nat → Nat} {ww w : Dt} (h : GK ow0 n0 rr0 ww0 b a ow t n rr ww w) : ∀ c, ow c ≠ 0 → t c ≠ 0 := ex1 (ex2 (ex2 h))
theorem GK.ko {ow0 n0 : Nat → Nat} {rr0 : Nat → Nat → Nat} {ww0 : Dt} {b a : Nat} {ow t n : Nat → Nat} {rr : Nat → Nat → Nat} {ww w : Dt} (h : GK ow0 n0 rr0 ww0 b a ow t n rr ww w) : ∀ c, ow0 c ≠ 0 → ¬ (b < ow0 c ∧ ow0 c < b + 100) → ow c = ow0 c ∧ n c = n0 c ∧ rr c = rr0 c ∧ ww c = ww0 c := ex1 (ex2 (ex2 (ex2 h)))
theorem GK.nw {ow0 n0 : Nat → Nat} {rr0 : Nat → Nat → Nat} {ww0 : Dt} {b a : Nat} {ow t n : Nat → Nat} {rr : Nat → Nat → Nat} {ww w : Dt} (h : GK ow0 n0 rr0 ww0 b a ow t n rr ww w) : ∀ c, ow c = ow0 c ∨ ow c = 9 ∨ (b < ow c ∧ ow c < b + 100) := ex2 (ex2 (ex2 (ex2 h)))
section NSGK
variable {ow0 n0 : Nat → Nat} {rr0 : Nat → Nat → Nat} {ww0 : Dt} {b a : Nat} {ow t n : Nat → Nat} {rr : Nat → Nat → Nat} {ww w : Dt}
theorem GK.wk (h : GK ow0 n0 rr0 ww0 b a ow t n rr ww w) : WK ow n rr ww b a ww w := WK.rfl0 h.hb h.wr
theorem GK.st (h : GK ow0 n0 rr0 ww0 b a ow t n rr ww w) {ww' w' : Dt} (hs : WK ow n rr ww b a ww' w') : GK ow0 n0 rr0 ww0 b a ow t n rr ww' w' := by
  refine ⟨h.hb, hs.2.1, h.fr, fun c h0 h1 => ?_, h.nw⟩
  obtain ⟨g1, g2, g3, g4⟩ := h.ko c h0 h1
  exact ⟨g1, g2, g3, (hs.2.2 c (by rw [g1]; exact h1)).trans g4⟩
theorem GK.start (hb : 1000 ≤ b) (hw : WR ow n rr ww b a w) (hf : ∀ c, ow c ≠ 0 → t c ≠ 0) : GK ow n rr ww b a ow t n rr ww w := ⟨hb, hw, hf, fun _ _ _ => ⟨rfl, rfl, rfl, rfl⟩, fun c => Or.inl rfl⟩
/-- lists cut off at one place: the rest as before -/
theorem GK.gap (h : GK ow0 n0 rr0 ww0 b a ow t n rr ww w) {L q : Nat} {ow' t' n' : Nat → Nat} {rr' : Nat → Nat → Nat} {ww' w' : Dt} (hL : b < ow L ∧ ow L < b + 100) (hq : t q = 0) (hk : ∀ c, c ≠ L → c ≠ q → ow' c = ow c ∧ n' c = n c ∧ rr' c = rr c ∧ ww' c = ww c) (hoL : ow' L = ow L) (hoq : ow' q = 9 ∨ (b < ow' q ∧ ow' q < b + 100)) (hfr : ∀ c, ow' c ≠ 0 → t' c ≠ 0) (hw : WR ow' n' rr' ww' b a w') : GK ow0 n0 rr0 ww0 b a ow' t' n' rr' ww' w' := by
  have hqo : ow q = 0 := Decidable.byContradiction fun z => h.fr q z hq
  refine ⟨h.hb, hw, hfr, fun c h0 h1 => ?_, fun c => ?_⟩
  · obtain ⟨g1, g2, g3, g4⟩ := h.ko c h0 h1
    have hcL : c ≠ L := fun z => by subst z; rw [g1] at hL; exact h1 hL
    have hcq : c ≠ q := fun z => by subst z; rw [g1] at hqo; exact h0 hqo
    obtain ⟨k1, k2, k3, k4⟩ := hk c hcL hcq
    exact ⟨k1.trans g1, k2.trans g2, k3.trans g3, k4.trans g4⟩
  · by_cases hcq : c = q
    · subst hcq
      exact Or.inr hoq
    · by_cases hcL : c = L
      · subst hcL
        rw [hoL]
        exact h.nw c
      · rw [(hk c hcL hcq).1]
        exact h.nw c
end NSGK
theorem vup_eq {α : Type} (f : Nat → α) (i : Nat) (x : α) : va_up f i x i = x := by simp [va_up]
theorem vup_ne {α : Type} {f : Nat → α} {i j : Nat} {x : α} (h : j ≠ i) : va_up f i x j = f j := by simp [va_up, h]
/-- a note more -/
theorem WR.appN {ow n : Nat → Nat} {rr : Nat → Nat → Nat} {ww : Dt} {b a : Nat} {w : Dt} (h : WR ow n rr ww b a w) (hb : 1000 ≤ b) {q : Nat} (hq : ow q = 0) {ow' n' : Nat → Nat} {rr' : Nat → Nat → Nat} {ww' w' : Dt} (hN : n (rr a 10) < 60)
    (hk : ∀ c, c ≠ rr a 10 → c ≠ q → ow' c = ow c ∧ n' c = n c ∧ rr' c = rr c ∧ ww' c = ww c) (hoL : ow' (rr a 10) = ow (rr a 10)) (hnL : n' (rr a 10) = n (rr a 10) + 1) (hrL : rr' (rr a 10) = va_up (rr (rr a 10)) (n (rr a 10)) q) (hoq : ow' q = 9)
    (hw1 : w' 19 0 = nI (n (rr a 10) + 1)) (hw2 : ∀ p k, ¬ (p = 19 ∧ k = 0) → ¬ (20 ≤ p ∧ p < 22 ∧ k = n (rr a 10)) → w' p k = w p k)
    (hd : ∀ p, 20 ≤ p → p < 22 → w' p (n (rr a 10)) = ww' q (RI p (n (rr a 10)))) : WR ow' n' rr' ww' b a w' := by
  have oL := h.o10
  have ne : ∀ c, ow c ≠ 0 → c ≠ q := fun c hc z => hc (by rw [z]; exact hq)
  have hg := fun c (h1 : ow c ≠ 0) (h2 : ow c ≠ b + 8) => hk c (fun z => h2 (by rw [z]; exact oL)) (ne c h1)
  have ha := hg a (by rw [h.oa]; omega) (by rw [h.oa]; omega)
  have hr : rr' a = rr a := ha.2.2.1
  have h0 := hg (rr a 0) (by rw [h.o0]; omega) (by rw [h.o0]; omega)
  have h1 := hg (rr a 1) (by rw [h.o1]; omega) (by rw [h.o1]; omega)
  have h2 := hg (rr a 2) (by rw [h.o2]; omega) (by rw [h.o2]; omega)
  have h5 := hg (rr a 5) (by rw [h.o5]; omega) (by rw [h.o5]; omega)
  have h8 := hg (rr a 8) (by rw [h.o8]; omega) (by rw [h.o8]; omega)
  have h9 := hg (rr a 9) (by rw [h.o9]; omega) (by rw [h.o9]; omega)
  have g1 := h.nC
  have g2 := h.nS
  have hv : ∀ k, k < 10 → ow' (rr (rr a 1) k) = ow (rr (rr a 1) k) := fun k hk' => (hg _ (by rw [h.ov k hk']; omega) (by rw [h.ov k hk']; omega)).1
  have hi : ∀ k, k < 10 → ow' (rr (rr a 2) k) = ow (rr (rr a 2) k) := fun k hk' => (hg _ (by rw [h.oi k hk']; omega) (by rw [h.oi k hk']; omega)).1
  have hs : ∀ k, k < n (rr a 8) → ow' (rr (rr a 8) k) = ow (rr (rr a 8) k) ∧ ww' (rr (rr a 8) k) = ww (rr (rr a 8) k) := fun k hk' => by
    have := hg (rr (rr a 8) k) (by rw [h.os k hk']; omega) (by rw [h.os k hk']; omega)
    exact ⟨this.1, this.2.2.2⟩
  have hc : ∀ k, k < n (rr a 9) → ow' (rr (rr a 9) k) = ow (rr (rr a 9) k) := fun k hk' => (hg _ (by rw [h.osc k hk']; omega) (by rw [h.osc k hk']; omega)).1
  have hn : ∀ k, k < n (rr a 10) → ow' (rr (rr a 10) k) = ow (rr (rr a 10) k) := fun k hk' => (hg _ (by rw [h.on k hk']; omega) (by rw [h.on k hk']; omega)).1
  have hRA : ∀ p k, ¬ (p = 7 ∨ p = 15 ∨ p = 19) → ¬ (20 ≤ p ∧ p < 22 ∧ n (rr a 10) ≤ k) → RA rr' a p k = RA rr a p k := fun p k hp7 hpk => by
    by_cases hz : 20 ≤ p ∧ p < 22
    · rw [RA_nt (by omega) hz.2, RA_nt (by omega) hz.2, hr, hrL, vup_ne (by omega)]
    · unfold RA
      rw [hr, h1.2.2.1, h2.2.2.1, h8.2.2.1, h9.2.2.1]
      by_cases q1 : p < 19
      · rw [if_pos q1, if_pos q1]
      · rw [if_neg q1, if_neg q1, if_neg (show ¬ p < 22 by omega), if_neg (show ¬ p < 22 by omega)]
  refine ⟨?_, ?_, ?_, ?_, ?_, ?_, ?_, ?_, ?_, ?_, ?_, ?_, ?_, ?_, ?_, ?_, ?_, ?_, ?_, ?_, ?_, ?_⟩ <;> (try rw [hr])
  · rw [ha.1, h.oa]
  · rw [h0.1, h.o0]
  · rw [h1.1, h.o1]
  · rw [h2.1, h.o2]
  · rw [h5.1, h.o5]
  · rw [h8.1, h.o8]
  · rw [h9.1, h.o9]
  · rw [hoL, h.o10]
  · intro k hk'
    rw [h1.2.2.1, hv k hk', h.ov k hk']
  · intro k hk'
    rw [h2.2.2.1, hi k hk', h.oi k hk']
  · rw [h8.2.1, h8.2.2.1]
    intro k hk'
    rw [(hs k hk').1, h.os k hk']
  · rw [h9.2.1, h9.2.2.1]
    intro k hk'
    rw [hc k hk', h.osc k hk']
  · rw [hnL, hrL]
    intro k hk'
    by_cases z : k = n (rr a 10)
    · subst z
      rw [vup_eq, hoq]
    · rw [vup_ne z]
      have hk' : k < n (rr a 10) := by omega
      rw [hn k hk', h.on k hk']
  · rw [h8.2.1]
    exact h.nC
  · rw [h9.2.1]
    exact h.nS
  · rw [hnL]
    omega
  · rw [h8.2.1, hw2 7 0 (by omega) (by omega)]
    exact h.cC
  · rw [h9.2.1, hw2 15 0 (by omega) (by omega)]
    exact h.cS
  · rw [hnL, hw1]
  · intro p k hl
    rw [h8.2.1, h9.2.1, hnL] at hl
    have hold : lv (n (rr a 8)) (n (rr a 9)) (n (rr a 10)) p k → w' p k = gx p (ww' (RA rr' a p k) (RI p k)) := fun hl0 => by
      have hnot : ¬ (20 ≤ p ∧ p < 22 ∧ n (rr a 10) ≤ k) := fun z => by
        rcases hl0 with z' | z' | z' | z' | z' | z' | z' | z' | z' <;> omega
      rw [hRA p k (fun z => by rcases hl0 with z' | z' | z' | z' | z' | z' | z' | z' | z' <;> omega) hnot, hw2 p k (fun z => by rcases hl0 with z' | z' | z' | z' | z' | z' | z' | z' | z' <;> omega) (fun z => hnot (by omega)), h.da p k hl0]
      rcases h.own hl0 with ⟨q0, e1⟩ | ⟨q1, q2, e1⟩
      · have : oc p k ≠ 8 ∧ 0 < oc p k := by
          rcases hl0 with ⟨rfl, rfl⟩ | ⟨rfl, z'⟩ | ⟨rfl, z'⟩ | ⟨rfl, z'⟩ | ⟨rfl, z'⟩ | ⟨z1, z2, z3, z4⟩ | ⟨z1, z2, z3⟩ | ⟨z1, z2, z3⟩ | ⟨z1, z2, z3⟩
          · decide
          · exact ⟨by show 1 ≠ 8; decide, by show 0 < 1; decide⟩
          · exact ⟨by show 2 ≠ 8; decide, by show 0 < 2; decide⟩
          · exact ⟨by show 1 ≠ 8; decide, by show 0 < 1; decide⟩
          · exact ⟨by show 5 ≠ 8; decide, by show 0 < 5; decide⟩
          · rw [oc_st z1 z2]; omega
          · rw [oc_sc (by omega) z2]; omega
          · omega
          · rw [oc_v z1]; omega
        rw [(hg _ (by rw [e1]; omega) (by rw [e1]; omega)).2.2.2]
      · rw [(hg _ (by rw [e1]; omega) (by rw [e1]; omega)).2.2.2]
    by_cases z : 20 ≤ p ∧ p < 22 ∧ k = n (rr a 10)
    · obtain ⟨z1, z2, z3⟩ := z
      subst z3
      rw [RA_nt (by omega) z2, hr, hrL, vup_eq, gx_n (by omega)]
      exact hd p z1 z2
    · exact hold (by
        rcases hl with z' | z' | z' | z' | z' | z' | z' | z' | z'
        · exact Or.inl z'
        · exact Or.inr (Or.inl z')
        · exact Or.inr (Or.inr (Or.inl z'))
        · exact Or.inr (Or.inr (Or.inr (Or.inl z')))
        · exact Or.inr (Or.inr (Or.inr (Or.inr (Or.inl z'))))
        · exact Or.inr (Or.inr (Or.inr (Or.inr (Or.inr (Or.inl (by omega))))))
        · exact Or.inr (Or.inr (Or.inr (Or.inr (Or.inr (Or.inr (Or.inl (by omega)))))))
        · exact Or.inr (Or.inr (Or.inr (Or.inr (Or.inr (Or.inr (Or.inr (Or.inl (by omega))))))))
        · exact Or.inr (Or.inr (Or.inr (Or.inr (Or.inr (Or.inr (Or.inr (Or.inr z'))))))))
  · rw [h8.2.1, h8.2.2.1]
    intro k hk'
    rw [(hs k hk').2, hw2 13 k (by omega) (by omega), hw2 12 k (by omega) (by omega)]
    exact h.nm k hk'
  · rw [h8.2.1, h8.2.2.1]
    intro k hk'
    rw [(hs k hk').2, hw2 13 k (by omega) (by omega)]
    exact h.ng k hk'
/-- a scar more -/
theorem WR.appC {ow n : Nat → Nat} {rr : Nat → Nat → Nat} {ww : Dt} {b a : Nat} {w : Dt} (h : WR ow n rr ww b a w) (hb : 1000 ≤ b) {q : Nat} (hq : ow q = 0) {ow' n' : Nat → Nat} {rr' : Nat → Nat → Nat} {ww' w' : Dt} (hN : n (rr a 9) < 8)
    (hk : ∀ c, c ≠ rr a 9 → c ≠ q → ow' c = ow c ∧ n' c = n c ∧ rr' c = rr c ∧ ww' c = ww c) (hoL : ow' (rr a 9) = ow (rr a 9)) (hnL : n' (rr a 9) = n (rr a 9) + 1) (hrL : rr' (rr a 9) = va_up (rr (rr a 9)) (n (rr a 9)) q) (hoq : ow' q = b + 60 + n (rr a 9))
    (hw1 : w' 15 0 = nI (n (rr a 9) + 1)) (hw2 : ∀ p k, ¬ (p = 15 ∧ k = 0) → ¬ (16 ≤ p ∧ p < 19 ∧ k = n (rr a 9)) → w' p k = w p k)
    (hd : ∀ p, 16 ≤ p → p < 19 → w' p (n (rr a 9)) = ww' q (RI p (n (rr a 9)))) : WR ow' n' rr' ww' b a w' := by
  have oL := h.o9
  have ne : ∀ c, ow c ≠ 0 → c ≠ q := fun c hc z => hc (by rw [z]; exact hq)
  have hg := fun c (h1 : ow c ≠ 0) (h2 : ow c ≠ b + 7) => hk c (fun z => h2 (by rw [z]; exact oL)) (ne c h1)
  have ha := hg a (by rw [h.oa]; omega) (by rw [h.oa]; omega)
  have hr : rr' a = rr a := ha.2.2.1
  have h0 := hg (rr a 0) (by rw [h.o0]; omega) (by rw [h.o0]; omega)
  have h1 := hg (rr a 1) (by rw [h.o1]; omega) (by rw [h.o1]; omega)
  have h2 := hg (rr a 2) (by rw [h.o2]; omega) (by rw [h.o2]; omega)
  have h5 := hg (rr a 5) (by rw [h.o5]; omega) (by rw [h.o5]; omega)
  have h8 := hg (rr a 8) (by rw [h.o8]; omega) (by rw [h.o8]; omega)
  have h10 := hg (rr a 10) (by rw [h.o10]; omega) (by rw [h.o10]; omega)
  have g1 := h.nC
  have g2 := h.nS
  have hv : ∀ k, k < 10 → ow' (rr (rr a 1) k) = ow (rr (rr a 1) k) := fun k hk' => (hg _ (by rw [h.ov k hk']; omega) (by rw [h.ov k hk']; omega)).1
  have hi : ∀ k, k < 10 → ow' (rr (rr a 2) k) = ow (rr (rr a 2) k) := fun k hk' => (hg _ (by rw [h.oi k hk']; omega) (by rw [h.oi k hk']; omega)).1
  have hs : ∀ k, k < n (rr a 8) → ow' (rr (rr a 8) k) = ow (rr (rr a 8) k) ∧ ww' (rr (rr a 8) k) = ww (rr (rr a 8) k) := fun k hk' => by
    have := hg (rr (rr a 8) k) (by rw [h.os k hk']; omega) (by rw [h.os k hk']; omega)
    exact ⟨this.1, this.2.2.2⟩
  have hc : ∀ k, k < n (rr a 9) → ow' (rr (rr a 9) k) = ow (rr (rr a 9) k) := fun k hk' => (hg _ (by rw [h.osc k hk']; omega) (by rw [h.osc k hk']; omega)).1
  have hn : ∀ k, k < n (rr a 10) → ow' (rr (rr a 10) k) = ow (rr (rr a 10) k) := fun k hk' => (hg _ (by rw [h.on k hk']; omega) (by rw [h.on k hk']; omega)).1
  have hRA : ∀ p k, ¬ (p = 7 ∨ p = 15 ∨ p = 19) → ¬ (16 ≤ p ∧ p < 19 ∧ n (rr a 9) ≤ k) → RA rr' a p k = RA rr a p k := fun p k hp7 hpk => by
    by_cases hz : 16 ≤ p ∧ p < 19
    · rw [RA_sc (by omega) hz.2, RA_sc (by omega) hz.2, hr, hrL, vup_ne (by omega)]
    · unfold RA
      rw [hr, h1.2.2.1, h2.2.2.1, h8.2.2.1, h10.2.2.1]
      by_cases q1 : p < 15
      · rw [if_pos q1, if_pos q1]
      · rw [if_neg q1, if_neg q1, if_neg (show ¬ p < 19 by omega), if_neg (show ¬ p < 19 by omega)]
  refine ⟨?_, ?_, ?_, ?_, ?_, ?_, ?_, ?_, ?_, ?_, ?_, ?_, ?_, ?_, ?_, ?_, ?_, ?_, ?_, ?_, ?_, ?_⟩ <;> (try rw [hr])
  · rw [ha.1, h.oa]
  · rw [h0.1, h.o0]
  · rw [h1.1, h.o1]
  · rw [h2.1, h.o2]
  · rw [h5.1, h.o5]
  · rw [h8.1, h.o8]
  · rw [hoL, h.o9]
  · rw [h10.1, h.o10]
  · intro k hk'
    rw [h1.2.2.1, hv k hk', h.ov k hk']
  · intro k hk'
    rw [h2.2.2.1, hi k hk', h.oi k hk']
  · rw [h8.2.1, h8.2.2.1]
    intro k hk'
    rw [(hs k hk').1, h.os k hk']
  · rw [hnL, hrL]
    intro k hk'
    by_cases z : k = n (rr a 9)
    · subst z
      rw [vup_eq, hoq]
    · rw [vup_ne z]
      have hk' : k < n (rr a 9) := by omega
      rw [hc k hk', h.osc k hk']
  · rw [h10.2.1, h10.2.2.1]
    intro k hk'
    rw [hn k hk', h.on k hk']
  · rw [h8.2.1]
    exact h.nC
  · rw [hnL]
    omega
  · rw [h10.2.1]
    exact h.nN
  · rw [h8.2.1, hw2 7 0 (by omega) (by omega)]
    exact h.cC
  · rw [hnL, hw1]
  · rw [h10.2.1, hw2 19 0 (by omega) (by omega)]
    exact h.cN
  · intro p k hl
    rw [h8.2.1, h10.2.1, hnL] at hl
    have hold : lv (n (rr a 8)) (n (rr a 9)) (n (rr a 10)) p k → w' p k = gx p (ww' (RA rr' a p k) (RI p k)) := fun hl0 => by
      have hnot : ¬ (16 ≤ p ∧ p < 19 ∧ n (rr a 9) ≤ k) := fun z => by
        rcases hl0 with z' | z' | z' | z' | z' | z' | z' | z' | z' <;> omega
      rw [hRA p k (fun z => by rcases hl0 with z' | z' | z' | z' | z' | z' | z' | z' | z' <;> omega) hnot, hw2 p k (fun z => by rcases hl0 with z' | z' | z' | z' | z' | z' | z' | z' | z' <;> omega) (fun z => hnot (by omega)), h.da p k hl0]
      rcases h.own hl0 with ⟨q0, e1⟩ | ⟨q1, q2, e1⟩
      · have : oc p k ≠ 7 ∧ 0 < oc p k := by
          rcases hl0 with ⟨rfl, rfl⟩ | ⟨rfl, z'⟩ | ⟨rfl, z'⟩ | ⟨rfl, z'⟩ | ⟨rfl, z'⟩ | ⟨z1, z2, z3, z4⟩ | ⟨z1, z2, z3⟩ | ⟨z1, z2, z3⟩ | ⟨z1, z2, z3⟩
          · decide
          · exact ⟨by show 1 ≠ 7; decide, by show 0 < 1; decide⟩
          · exact ⟨by show 2 ≠ 7; decide, by show 0 < 2; decide⟩
          · exact ⟨by show 1 ≠ 7; decide, by show 0 < 1; decide⟩
          · exact ⟨by show 5 ≠ 7; decide, by show 0 < 5; decide⟩
          · rw [oc_st z1 z2]; omega
          · rw [oc_sc (by omega) z2]; omega
          · omega
          · rw [oc_v z1]; omega
        rw [(hg _ (by rw [e1]; omega) (by rw [e1]; omega)).2.2.2]
      · rw [(hg _ (by rw [e1]; omega) (by rw [e1]; omega)).2.2.2]
    by_cases z : 16 ≤ p ∧ p < 19 ∧ k = n (rr a 9)
    · obtain ⟨z1, z2, z3⟩ := z
      subst z3
      rw [RA_sc (by omega) z2, hr, hrL, vup_eq, gx_n (by omega)]
      exact hd p z1 z2
    · exact hold (by
        rcases hl with z' | z' | z' | z' | z' | z' | z' | z' | z'
        · exact Or.inl z'
        · exact Or.inr (Or.inl z')
        · exact Or.inr (Or.inr (Or.inl z'))
        · exact Or.inr (Or.inr (Or.inr (Or.inl z')))
        · exact Or.inr (Or.inr (Or.inr (Or.inr (Or.inl z'))))
        · exact Or.inr (Or.inr (Or.inr (Or.inr (Or.inr (Or.inl (by omega))))))
        · exact Or.inr (Or.inr (Or.inr (Or.inr (Or.inr (Or.inr (Or.inl (by omega)))))))
        · exact Or.inr (Or.inr (Or.inr (Or.inr (Or.inr (Or.inr (Or.inr (Or.inl (by omega))))))))
        · exact Or.inr (Or.inr (Or.inr (Or.inr (Or.inr (Or.inr (Or.inr (Or.inr z'))))))))
  · rw [h8.2.1, h8.2.2.1]
    intro k hk'
    rw [(hs k hk').2, hw2 13 k (by omega) (by omega), hw2 12 k (by omega) (by omega)]
    exact h.nm k hk'
  · rw [h8.2.1, h8.2.2.1]
    intro k hk'
    rw [(hs k hk').2, hw2 13 k (by omega) (by omega)]
    exact h.ng k hk'
/-- a storm more -/
theorem WR.appS {ow n : Nat → Nat} {rr : Nat → Nat → Nat} {ww : Dt} {b a : Nat} {w : Dt} (h : WR ow n rr ww b a w) (hb : 1000 ≤ b) {q : Nat} (hq : ow q = 0) {ow' n' : Nat → Nat} {rr' : Nat → Nat → Nat} {ww' w' : Dt} (hN : n (rr a 8) < 12)
    (hk : ∀ c, c ≠ rr a 8 → c ≠ q → ow' c = ow c ∧ n' c = n c ∧ rr' c = rr c ∧ ww' c = ww c) (hoL : ow' (rr a 8) = ow (rr a 8)) (hnL : n' (rr a 8) = n (rr a 8) + 1) (hrL : rr' (rr a 8) = va_up (rr (rr a 8)) (n (rr a 8)) q) (hoq : ow' q = b + 30 + n (rr a 8))
    (hw1 : w' 7 0 = nI (n (rr a 8) + 1)) (hw2 : ∀ p k, ¬ (p = 7 ∧ k = 0) → ¬ (8 ≤ p ∧ p < 15 ∧ k = n (rr a 8)) → w' p k = w p k)
    (hd : (∀ p, 8 ≤ p → p < 15 → p ≠ 12 → w' p (n (rr a 8)) = gx p (ww' q (p - 8))) ∧ (w' 13 (n (rr a 8)) = 1 → w' 12 (n (rr a 8)) = ww' q 4) ∧ (w' 13 (n (rr a 8)) = 0 → ww' q 4 = 45)) : WR ow' n' rr' ww' b a w' := by
  have oL := h.o8
  have ne : ∀ c, ow c ≠ 0 → c ≠ q := fun c hc z => hc (by rw [z]; exact hq)
  have hg := fun c (h1 : ow c ≠ 0) (h2 : ow c ≠ b + 6) => hk c (fun z => h2 (by rw [z]; exact oL)) (ne c h1)
  have ha := hg a (by rw [h.oa]; omega) (by rw [h.oa]; omega)
  have hr : rr' a = rr a := ha.2.2.1
  have h0 := hg (rr a 0) (by rw [h.o0]; omega) (by rw [h.o0]; omega)
  have h1 := hg (rr a 1) (by rw [h.o1]; omega) (by rw [h.o1]; omega)
  have h2 := hg (rr a 2) (by rw [h.o2]; omega) (by rw [h.o2]; omega)
  have h5 := hg (rr a 5) (by rw [h.o5]; omega) (by rw [h.o5]; omega)
  have h9 := hg (rr a 9) (by rw [h.o9]; omega) (by rw [h.o9]; omega)
  have h10 := hg (rr a 10) (by rw [h.o10]; omega) (by rw [h.o10]; omega)
  have g1 := h.nC
  have g2 := h.nS
  have hv : ∀ k, k < 10 → ow' (rr (rr a 1) k) = ow (rr (rr a 1) k) := fun k hk' => (hg _ (by rw [h.ov k hk']; omega) (by rw [h.ov k hk']; omega)).1
  have hi : ∀ k, k < 10 → ow' (rr (rr a 2) k) = ow (rr (rr a 2) k) := fun k hk' => (hg _ (by rw [h.oi k hk']; omega) (by rw [h.oi k hk']; omega)).1
  have hs : ∀ k, k < n (rr a 8) → ow' (rr (rr a 8) k) = ow (rr (rr a 8) k) ∧ ww' (rr (rr a 8) k) = ww (rr (rr a 8) k) := fun k hk' => by
    have := hg (rr (rr a 8) k) (by rw [h.os k hk']; omega) (by rw [h.os k hk']; omega)
    exact ⟨this.1, this.2.2.2⟩
  have hc : ∀ k, k < n (rr a 9) → ow' (rr (rr a 9) k) = ow (rr (rr a 9) k) := fun k hk' => (hg _ (by rw [h.osc k hk']; omega) (by rw [h.osc k hk']; omega)).1
  have hn : ∀ k, k < n (rr a 10) → ow' (rr (rr a 10) k) = ow (rr (rr a 10) k) := fun k hk' => (hg _ (by rw [h.on k hk']; omega) (by rw [h.on k hk']; omega)).1
  have hRA : ∀ p k, ¬ (p = 7 ∨ p = 15 ∨ p = 19) → ¬ (8 ≤ p ∧ p < 15 ∧ n (rr a 8) ≤ k) → RA rr' a p k = RA rr a p k := fun p k hp7 hpk => by
    by_cases hz : 8 ≤ p ∧ p < 15
    · rw [RA_st (by omega) hz.2, RA_st (by omega) hz.2, hr, hrL, vup_ne (by omega)]
    · unfold RA
      rw [hr, h1.2.2.1, h2.2.2.1, h9.2.2.1, h10.2.2.1]
      by_cases q1 : p < 7
      · rw [if_pos q1, if_pos q1]
      · rw [if_neg q1, if_neg q1, if_neg (show ¬ p < 15 by omega), if_neg (show ¬ p < 15 by omega)]
  refine ⟨?_, ?_, ?_, ?_, ?_, ?_, ?_, ?_, ?_, ?_, ?_, ?_, ?_, ?_, ?_, ?_, ?_, ?_, ?_, ?_, ?_, ?_⟩ <;> (try rw [hr])
  · rw [ha.1, h.oa]
  · rw [h0.1, h.o0]
  · rw [h1.1, h.o1]
  · rw [h2.1, h.o2]
  · rw [h5.1, h.o5]
  · rw [hoL, h.o8]
  · rw [h9.1, h.o9]
  · rw [h10.1, h.o10]
  · intro k hk'
    rw [h1.2.2.1, hv k hk', h.ov k hk']
  · intro k hk'
    rw [h2.2.2.1, hi k hk', h.oi k hk']
  · rw [hnL, hrL]
    intro k hk'
    by_cases z : k = n (rr a 8)
    · subst z
      rw [vup_eq, hoq]
    · rw [vup_ne z]
      have hk' : k < n (rr a 8) := by omega
      rw [(hs k hk').1, h.os k hk']
  · rw [h9.2.1, h9.2.2.1]
    intro k hk'
    rw [hc k hk', h.osc k hk']
  · rw [h10.2.1, h10.2.2.1]
    intro k hk'
    rw [hn k hk', h.on k hk']
  · rw [hnL]
    omega
  · rw [h9.2.1]
    exact h.nS
  · rw [h10.2.1]
    exact h.nN
  · rw [hnL, hw1]
  · rw [h9.2.1, hw2 15 0 (by omega) (by omega)]
    exact h.cS
  · rw [h10.2.1, hw2 19 0 (by omega) (by omega)]
    exact h.cN
  · intro p k hl
    rw [h9.2.1, h10.2.1, hnL] at hl
    have hold : lv (n (rr a 8)) (n (rr a 9)) (n (rr a 10)) p k → w' p k = gx p (ww' (RA rr' a p k) (RI p k)) := fun hl0 => by
      have hnot : ¬ (8 ≤ p ∧ p < 15 ∧ n (rr a 8) ≤ k) := fun z => by
        rcases hl0 with z' | z' | z' | z' | z' | z' | z' | z' | z' <;> omega
      rw [hRA p k (fun z => by rcases hl0 with z' | z' | z' | z' | z' | z' | z' | z' | z' <;> omega) hnot, hw2 p k (fun z => by rcases hl0 with z' | z' | z' | z' | z' | z' | z' | z' | z' <;> omega) (fun z => hnot (by omega)), h.da p k hl0]
      rcases h.own hl0 with ⟨q0, e1⟩ | ⟨q1, q2, e1⟩
      · have : oc p k ≠ 6 ∧ 0 < oc p k := by
          rcases hl0 with ⟨rfl, rfl⟩ | ⟨rfl, z'⟩ | ⟨rfl, z'⟩ | ⟨rfl, z'⟩ | ⟨rfl, z'⟩ | ⟨z1, z2, z3, z4⟩ | ⟨z1, z2, z3⟩ | ⟨z1, z2, z3⟩ | ⟨z1, z2, z3⟩
          · decide
          · exact ⟨by show 1 ≠ 6; decide, by show 0 < 1; decide⟩
          · exact ⟨by show 2 ≠ 6; decide, by show 0 < 2; decide⟩
          · exact ⟨by show 1 ≠ 6; decide, by show 0 < 1; decide⟩
          · exact ⟨by show 5 ≠ 6; decide, by show 0 < 5; decide⟩
          · rw [oc_st z1 z2]; omega
          · rw [oc_sc (by omega) z2]; omega
          · omega
          · rw [oc_v z1]; omega
        rw [(hg _ (by rw [e1]; omega) (by rw [e1]; omega)).2.2.2]
      · rw [(hg _ (by rw [e1]; omega) (by rw [e1]; omega)).2.2.2]
    by_cases z : 8 ≤ p ∧ p < 15 ∧ k = n (rr a 8)
    · obtain ⟨z1, z2, z3⟩ := z
      subst z3
      rw [RA_st (by omega) z2, RI_st z1 z2, hr, hrL, vup_eq]
      exact hd.1 p z1 z2 (by rcases hl with z' | z' | z' | z' | z' | z' | z' | z' | z' <;> omega)
    · exact hold (by
        rcases hl with z' | z' | z' | z' | z' | z' | z' | z' | z'
        · exact Or.inl z'
        · exact Or.inr (Or.inl z')
        · exact Or.inr (Or.inr (Or.inl z'))
        · exact Or.inr (Or.inr (Or.inr (Or.inl z')))
        · exact Or.inr (Or.inr (Or.inr (Or.inr (Or.inl z'))))
        · exact Or.inr (Or.inr (Or.inr (Or.inr (Or.inr (Or.inl (by omega))))))
        · exact Or.inr (Or.inr (Or.inr (Or.inr (Or.inr (Or.inr (Or.inl (by omega)))))))
        · exact Or.inr (Or.inr (Or.inr (Or.inr (Or.inr (Or.inr (Or.inr (Or.inl (by omega))))))))
        · exact Or.inr (Or.inr (Or.inr (Or.inr (Or.inr (Or.inr (Or.inr (Or.inr z'))))))))
  · rw [hnL, hrL]
    intro k hk'
    by_cases z : k = n (rr a 8)
    · subst z
      rw [vup_eq]
      exact hd.2.1
    · have hk2 : k < n (rr a 8) := by omega
      rw [vup_ne z, (hs k hk2).2, hw2 13 k (by omega) (by omega), hw2 12 k (by omega) (by omega)]
      exact h.nm k hk2
  · rw [hnL, hrL]
    intro k hk'
    by_cases z : k = n (rr a 8)
    · subst z
      rw [vup_eq]
      exact hd.2.2
    · have hk2 : k < n (rr a 8) := by omega
      rw [vup_ne z, (hs k hk2).2, hw2 13 k (by omega) (by omega)]
      exact h.ng k hk2
