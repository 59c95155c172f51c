/-! THE PURE SIDE: what the small calls read and write -/
theorem q_r5 (a b c d x : Int32) : a - b + c - d + x = a + (x - d) - b + c := by grind
theorem q_r4 (a b c x : Int32) : a + (b - c + x) = a + b + (x - c) := by grind
theorem q_r6 (a b c d x : Int32) : a + (b - c + (c - x) - d + (d + x)) = a + b := by grind
theorem q_r1 (x : Int32) : x + 1 - 1 = x := by grind
theorem q_r2 (c x : Int32) : c - x + x = c := by grind
theorem q_r3 (x : Int32) : (1 : Int32) - (1 - x) = x := by grind
section RDS
variable {ow : Nat → Nat} {j : Nat} {r w : Dt} {sums : Nat → Int64} {ns : Nat} {sw : Nat → Dt} {np : Nat} {pw : Nat → Dt} {nf : Nat} {fw : Nat → Dt} {q : Nat} {t n : Nat → Nat} {rr : Nat → Nat → Nat} {ww : Dt}
theorem RF.ne (h : RF ow j r w sums ns sw np pw nf fw q t n rr ww) {c : Nat} (hc : ow c ≠ 1) : c ≠ q := fun z => hc (by rw [z]; exact h.oq)
theorem RF.k (h : RF ow j r w sums ns sw np pw nf fw q t n rr ww) : WK ow n rr ww 1000 (rr q 1) ww w := WK.rfl0 (Nat.le_refl _) h.wr
theorem RF.g (h : RF ow j r w sums ns sw np pw nf fw q t n rr ww) : GK ow n rr ww 1000 (rr q 1) ow t n rr ww w := GK.start (Nat.le_refl _) h.wr h.fr
theorem RF.sn (h : RF ow j r w sums ns sw np pw nf fw q t n rr ww) : ∃ D rk N, IS w (n (rr (rr q 1) 8)) D rk ∧ IN w N ∧ n (rr (rr q 1) 10) = N := by
  obtain ⟨C, D, rk, N, h1, h2⟩ := h.iv.sn
  have e : n (rr (rr q 1) 8) = C := nI_inj (by have := h.wr.nC; omega) (by have := h1.hC; omega) (h.wr.cC.symm.trans h1.cC)
  have e2 : n (rr (rr q 1) 10) = N := nI_inj (by have := h.wr.nN; omega) (by have := h2.hN; omega) (h.wr.cN.symm.trans h2.cN)
  rw [e]
  exact ⟨D, rk, N, h1, h2, e2⟩
theorem RF.storms (h : RF ow j r w sums ns sw np pw nf fw q t n rr ww) : rr q 1 ≠ q ∧ n (rr (rr q 1) 8) ≤ 12 ∧ w 7 0 = nI (n (rr (rr q 1) 8)) ∧ ∀ i, i < n (rr (rr q 1) 8) → rr (rr (rr q 1) 8) i ≠ q ∧ w 8 i = ww (rr (rr (rr q 1) 8) i) 0 ∧ w 9 i = ww (rr (rr (rr q 1) 8) i) 1 ∧ w 10 i = ww (rr (rr (rr q 1) 8) i) 2 ∧ w 11 i = ww (rr (rr (rr q 1) 8) i) 3 ∧ (w 13 i = 1 → w 12 i = ww (rr (rr (rr q 1) 8) i) 4) ∧ ((w 13 i = 1 ∧ ww (rr (rr (rr q 1) 8) i) 5 = 0) ∨ (w 13 i = 0 ∧ ww (rr (rr (rr q 1) 8) i) 5 = 1)) := by
  obtain ⟨D, rk, N, h1, h2, h3⟩ := h.sn
  have hC := h1.hC
  refine ⟨h.ne (by rw [h.wr.oa]; omega), h.wr.nC, h.wr.cC, fun i hi => ⟨h.ne (by rw [h.wr.os i hi]; omega), (h.k.rs (p := 8) (by omega) (by omega) hi).symm, (h.k.rs (p := 9) (by omega) (by omega) hi).symm, (h.k.rs (p := 10) (by omega) (by omega) hi).symm, (h.k.rs (p := 11) (by omega) (by omega) hi).symm, h.wr.nm i hi, ?_⟩⟩
  have e := h.k.rg hi
  rcases h1.th i (by omega) with z | z
  · refine Or.inr ⟨z, ?_⟩
    rw [← q_r3 (ww (rr (rr (rr q 1) 8) i) 5), ← e, z]
    rfl
  · exact Or.inl ⟨z, (h.k.rg0 hi).mpr z⟩
theorem rf_T : R_T RELF := fun j r w sums ns sw np pw nf fw spw q t n rr ww hR w2 h2 => by
  obtain ⟨ow, h⟩ := hR
  exact ⟨ow, (h.thr h2).mono⟩
theorem rf_t : R_rd RELF (fun w n rr ww q => rr (rr q 1) 0 ≠ q ∧ ∀ k, k < 10 → w 2 k = ww (rr (rr q 1) 0) k) := fun j r w sums ns sw np pw nf fw spw q t n rr ww hR => by
  obtain ⟨ow, h⟩ := hR
  exact ⟨h.ne (by rw [h.wr.o0]; omega), fun k hk => (h.k.rt hk).symm⟩
theorem rf_v : R_rd RELF (fun w n rr ww q => ∀ k, k < 10 → rr (rr (rr q 1) 1) k ≠ q ∧ ∀ v, v < 3 → w (k + 22) v = ww (rr (rr (rr q 1) 1) k) v) := fun j r w sums ns sw np pw nf fw spw q t n rr ww hR k hk => by
  obtain ⟨ow, h⟩ := hR
  exact ⟨h.ne (by rw [h.wr.ov k hk]; omega), fun v hv => (h.k.rv hk hv).symm⟩
theorem rf_i : R_rd RELF (fun w n rr ww q => ∀ k, k < 10 → rr (rr (rr q 1) 2) k ≠ q ∧ ∀ v, v < 3 → w (k + 32) v = ww (rr (rr (rr q 1) 2) k) v) := fun j r w sums ns sw np pw nf fw spw q t n rr ww hR k hk => by
  obtain ⟨ow, h⟩ := hR
  exact ⟨h.ne (by rw [h.wr.oi k hk]; omega), fun v hv => (h.k.ri hk hv).symm⟩
theorem rf_b : R_rd RELF (fun w n rr ww q => rr (rr q 1) 5 ≠ q ∧ ∀ k, k < 12 → w 6 k = ww (rr (rr q 1) 5) k) := fun j r w sums ns sw np pw nf fw spw q t n rr ww hR => by
  obtain ⟨ow, h⟩ := hR
  exact ⟨h.ne (by rw [h.wr.o5]; omega), fun k hk => (h.k.rb hk).symm⟩
theorem rf_14 : R_rd RELF (fun w n rr ww q => rr q 1 ≠ q ∧ w 1 4 = ww (rr q 1) 4) := fun j r w sums ns sw np pw nf fw spw q t n rr ww hR => by
  obtain ⟨ow, h⟩ := hR
  exact ⟨h.ne (by rw [h.wr.oa]; omega), h.k.rr4.symm⟩
theorem rf_13 : R_rd RELF (fun w n rr ww q => rr q 1 ≠ q ∧ w 1 3 = ww (rr q 1) 3) := fun j r w sums ns sw np pw nf fw spw q t n rr ww hR => by
  obtain ⟨ow, h⟩ := hR
  exact ⟨h.ne (by rw [h.wr.oa]; omega), h.k.rr3.symm⟩
theorem rf_51 : R_rd RELF (fun w n rr ww q => rr q 1 ≠ q ∧ w 5 1 = ww (rr q 1) 6) := fun j r w sums ns sw np pw nf fw spw q t n rr ww hR => by
  obtain ⟨ow, h⟩ := hR
  exact ⟨h.ne (by rw [h.wr.oa]; omega), h.k.rr6.symm⟩
theorem rf_52 : R_rd RELF (fun w n rr ww q => rr q 1 ≠ q ∧ w 5 2 = ww (rr q 1) 7) := fun j r w sums ns sw np pw nf fw spw q t n rr ww hR => by
  obtain ⟨ow, h⟩ := hR
  exact ⟨h.ne (by rw [h.wr.oa]; omega), h.k.rr7.symm⟩
theorem rf_sc : R_rd RELF (fun w n rr ww q => n (rr (rr q 1) 9) ≤ 8 ∧ w 15 0 = nI (n (rr (rr q 1) 9)) ∧ ∀ i, i < n (rr (rr q 1) 9) → rr (rr (rr q 1) 9) i ≠ q ∧ w 16 i = ww (rr (rr (rr q 1) 9) i) 0 ∧ w 17 i = ww (rr (rr (rr q 1) 9) i) 2 ∧ w 18 i = ww (rr (rr (rr q 1) 9) i) 1) := fun j r w sums ns sw np pw nf fw spw q t n rr ww hR => by
  obtain ⟨ow, h⟩ := hR
  exact ⟨h.wr.nS, h.wr.cS, fun i hi => ⟨h.ne (by rw [h.wr.osc i hi]; omega), (h.k.rc (p := 16) (Or.inl ⟨rfl, rfl⟩) hi).symm, (h.k.rc (p := 17) (Or.inr (Or.inl ⟨rfl, rfl⟩)) hi).symm, (h.k.rc (p := 18) (Or.inr (Or.inr ⟨rfl, rfl⟩)) hi).symm⟩⟩
theorem rf_nt : R_rd RELF (fun w n rr ww q => n (rr (rr q 1) 10) ≤ 60 ∧ w 19 0 = nI (n (rr (rr q 1) 10)) ∧ ∀ i, i < n (rr (rr q 1) 10) → rr (rr (rr q 1) 10) i ≠ q ∧ w 20 i = ww (rr (rr (rr q 1) 10) i) 0 ∧ w 21 i = ww (rr (rr (rr q 1) 10) i) 1 ∧ chr9 (w 20 i) = w 20 i) := fun j r w sums ns sw np pw nf fw spw q t n rr ww hR => by
  obtain ⟨ow, h⟩ := hR
  obtain ⟨D, rk, N, h1, h2, h3⟩ := h.sn
  exact ⟨h.wr.nN, h.wr.cN, fun i hi => ⟨h.ne (by rw [h.wr.on i hi]; omega), (h.k.rn (p := 20) (Or.inl ⟨rfl, rfl⟩) hi).symm, (h.k.rn (p := 21) (Or.inr ⟨rfl, rfl⟩) hi).symm, h2.ln i (by have := h.wr.nN; omega)⟩⟩
theorem rf_un : R_rd RELF (fun w n rr ww q => ∀ c : Int32, 65 ≤ c.toInt → ∀ i i', i < n (rr (rr q 1) 8) → i' < n (rr (rr q 1) 8) → (¬ w 13 i = 0 ∧ w 12 i = c) → (¬ w 13 i' = 0 ∧ w 12 i' = c) → i = i') := fun j r w sums ns sw np pw nf fw spw q t n rr ww hR c hc i i' hi hi' a1 a2 => by
  obtain ⟨ow, h⟩ := hR
  obtain ⟨D, rk, N, h1, h2, h3⟩ := h.sn
  have hC := h1.hC
  refine h1.na i i' hi hi' ((h1.th i (by omega)).resolve_left a1.1) ((h1.th i' (by omega)).resolve_left a2.1) (a1.2.trans a2.2.symm) (fun z => ?_)
  rw [a1.2] at z
  rw [z] at hc
  exact absurd hc (by decide)
/-- a write of ints in the world -/
theorem RF.w1 (h : RF ow j r w sums ns sw np pw nf fw q t n rr ww) {ww' w' w2 : Dt} (hs : WK ow n rr ww 1000 (rr q 1) ww' w') (hi : INVj (j + 1) w') (h2 : ∀ x y, ¬ (x = q ∧ y = 0) → w2 x y = ww' x y) : RF ow (j + 1) r w' sums ns sw np pw nf fw q t n rr w2 :=
  (h.mono.world (h.g.st hs) hi).thr h2
theorem rf_core (j : Nat) (r w : Dt) (sums : Nat → Int64) (ns : Nat) (sw : Nat → Dt) (np : Nat) (pw : Nat → Dt) (nf : Nat) (fw : Nat → Dt) (spw : Dt) (q : Nat) (t n : Nat → Nat) (rr : Nat → Nat → Nat) (ww : Dt) (hR : RELF j r w sums ns sw np pw nf fw spw q t n rr ww) (x : Int32) (h0 : 0 ≤ x.toInt) (h9 : x.toInt ≤ 9) (w2 : Dt) (h2 : ∀ a k, ¬ (a = q ∧ k = 0) → w2 a k = up2 ww (rr q 1) 3 x a k) : RELF (j + 1) r (up2 w 1 3 x) sums ns sw np pw nf fw spw q t n rr w2 := by
  obtain ⟨ow, h⟩ := hR
  refine ⟨ow, h.w1 (h.k.r3 x) ?_ h2⟩
  have hv := h.iv.mono
  have e : ∀ p k, ¬ (p = 1 ∧ k = 3) → up2 w 1 3 x p k = w p k := fun p k hp => up2_no hp
  obtain ⟨C, hC⟩ := hv.sn
  obtain ⟨S, hS⟩ := hv.sk
  have ic := hv.ic
  refine ⟨⟨by rw [up2_eq]; exact ⟨h0, h9⟩, by rw [up2_ne (show (2 : Nat) ≠ 1 by omega)]; exact ic.te, fun p v hp hv' => by rw [e _ _ (by omega)]; exact ic.va p v hp hv', ?_, ?_, ?_⟩, hv.ib.cg (fun p k a b _ => e p k (by omega)), ⟨C, hC.cg (fun p k a b c _ => e p k (by omega))⟩, ⟨S, hS.cg (fun p k a b _ => e p k (by omega))⟩, by rw [e 0 5 (by omega)]; exact hv.tu⟩
  · rw [TOT_12 (fun p hp => up2_ne (by omega)), e 1 7 (by omega)]
    exact ic.tot
  · rw [TOT_12 (fun p hp => up2_ne (by omega))]
    exact ic.bnd
  · rw [up2_ne (show (2 : Nat) ≠ 1 by omega), e 1 5 (by omega), e 1 4 (by omega), e 1 6 (by omega)]
    exact ic.deg
theorem rf_drag (j : Nat) (r w : Dt) (sums : Nat → Int64) (ns : Nat) (sw : Nat → Dt) (np : Nat) (pw : Nat → Dt) (nf : Nat) (fw : Nat → Dt) (spw : Dt) (q : Nat) (t n : Nat → Nat) (rr : Nat → Nat → Nat) (ww : Dt) (hR : RELF j r w sums ns sw np pw nf fw spw q t n rr ww) (x : Int32) (h0 : 0 ≤ x.toInt) (h9 : x.toInt ≤ 50) (w2 : Dt) (h2 : ∀ a k, ¬ (a = q ∧ k = 0) → w2 a k = up2 ww (rr q 1) 6 x a k) : RELF (j + 1) r (up2 w 5 1 x) sums ns sw np pw nf fw spw q t n rr w2 := by
  obtain ⟨ow, h⟩ := hR
  refine ⟨ow, h.w1 (h.k.r6 x) ?_ h2⟩
  have hv := h.iv.mono
  have e : ∀ p k, ¬ (p = 5 ∧ k = 1) → up2 w 5 1 x p k = w p k := fun p k hp => up2_no hp
  obtain ⟨C, hC⟩ := hv.sn
  obtain ⟨S, hS⟩ := hv.sk
  refine ⟨hv.ic.cg (fun p k a _ => e p k (by omega)), ⟨?_, by rw [up2_eq]; exact ⟨h0, h9⟩, ?_⟩, ⟨C, hC.cg (fun p k a b c _ => e p k (by omega))⟩, ⟨S, hS.cg (fun p k a b _ => e p k (by omega))⟩, by rw [e 0 5 (by omega)]; exact hv.tu⟩
  · rw [up2_ne (show (6 : Nat) ≠ 5 by omega)]
    exact hv.ib.tu
  · rw [up2_ne (show (6 : Nat) ≠ 5 by omega), e 5 2 (by omega), e 5 3 (by omega)]
    exact hv.ib.bal
theorem rf_temp (j : Nat) (r w : Dt) (sums : Nat → Int64) (ns : Nat) (sw : Nat → Dt) (np : Nat) (pw : Nat → Dt) (nf : Nat) (fw : Nat → Dt) (spw : Dt) (q : Nat) (t n : Nat → Nat) (rr : Nat → Nat → Nat) (ww : Dt) (hR : RELF j r w sums ns sw np pw nf fw spw q t n rr ww) (x : Int32) (y : Nat) (hy : y < 10) (h0 : 50 ≤ x.toInt) (h9 : x.toInt ≤ 999) (w2 : Dt) (h2 : ∀ a k, ¬ (a = q ∧ k = 0) → w2 a k = up2 ww (rr (rr q 1) 0) y x a k) : RELF (j + 1) r (up2 (up2 w 2 y x) 1 5 ((up2 w 2 y x) 1 5 + (x - w 2 y))) sums ns sw np pw nf fw spw q t n rr w2 := by
  obtain ⟨ow, h⟩ := hR
  refine ⟨ow, h.w1 ((h.k.t hy x).told (Or.inl ⟨rfl, by omega⟩) _) ?_ h2⟩
  have hv := h.iv.mono
  have e : ∀ p k, ¬ (p = 2 ∧ k = y) → ¬ (p = 1 ∧ k = 5) → up2 (up2 w 2 y x) 1 5 ((up2 w 2 y x) 1 5 + (x - w 2 y)) p k = w p k := fun p k hp hp' => by rw [up2_no hp', up2_no hp]
  have e2 : up2 (up2 w 2 y x) 1 5 ((up2 w 2 y x) 1 5 + (x - w 2 y)) 2 y = x := by rw [up2_nr (by omega), up2_eq]
  have e5 : up2 (up2 w 2 y x) 1 5 ((up2 w 2 y x) 1 5 + (x - w 2 y)) 1 5 = w 1 5 + (x - w 2 y) := by rw [up2_eq, up2_nr (by omega)]
  obtain ⟨C, hC⟩ := hv.sn
  obtain ⟨S, hS⟩ := hv.sk
  have ic := hv.ic
  have hT : TOT (up2 (up2 w 2 y x) 1 5 ((up2 w 2 y x) 1 5 + (x - w 2 y))) = TOT w := TOT_12 (fun p hp => by rw [up2_ne (by omega), up2_ne (by omega)])
  refine ⟨⟨by rw [e 1 3 (by omega) (by omega)]; exact ic.co, fun k hk => ?_, fun p v hp hv' => by rw [e _ _ (by omega) (by omega)]; exact ic.va p v hp hv', ?_, ?_, ?_⟩, hv.ib.cg (fun p k a b _ => e p k (by omega) (by omega)), ⟨C, hC.cg (fun p k a b c _ => e p k (by omega) (by omega))⟩, ⟨S, hS.cg (fun p k a b _ => e p k (by omega) (by omega))⟩, by rw [e 0 5 (by omega) (by omega)]; exact hv.tu⟩
  · by_cases z : k = y
    · rw [z, e2]
      omega
    · rw [e 2 k (by omega) (by omega)]
      exact ic.te k hk
  · rw [hT, e 1 7 (by omega) (by omega)]
    exact ic.tot
  · rw [hT]
    exact ic.bnd
  · rw [sum32_1 (g := w 2) (i := y) 10 hy (fun k hk hn => e 2 k (by omega) (by omega)), e2, e5, e 1 4 (by omega) (by omega), e 1 6 (by omega) (by omega), ic.deg]
    exact q_r5 _ _ _ _ _
theorem rf_vap (j : Nat) (r w : Dt) (sums : Nat → Int64) (ns : Nat) (sw : Nat → Dt) (np : Nat) (pw : Nat → Dt) (nf : Nat) (fw : Nat → Dt) (spw : Dt) (q : Nat) (t n : Nat → Nat) (rr : Nat → Nat → Nat) (ww : Dt) (hj : j < 512) (hR : RELF j r w sums ns sw np pw nf fw spw q t n rr ww) (x : Int32) (k v : Nat) (hk : k < 10) (hv3 : v < 3) (h0 : 0 ≤ x.toInt) (h9 : x.toInt ≤ 20000) (w2 : Dt) (h2 : ∀ a i, ¬ (a = q ∧ i = 0) → w2 a i = up2 ww (rr (rr (rr q 1) 1) k) v x a i) : RELF (j + 1) r (up2 (up2 w (k + 22) v x) 1 7 ((up2 w (k + 22) v x) 1 7 + (x - w (k + 22) v))) sums ns sw np pw nf fw spw q t n rr w2 := by
  obtain ⟨ow, h⟩ := hR
  refine ⟨ow, h.w1 ((h.k.v hk hv3 x).told (Or.inl ⟨rfl, by omega⟩) _) ?_ h2⟩
  have hv := h.iv.mono
  have ic0 := h.iv.ic
  have e : ∀ p i, ¬ (p = k + 22 ∧ i = v) → ¬ (p = 1 ∧ i = 7) → up2 (up2 w (k + 22) v x) 1 7 ((up2 w (k + 22) v x) 1 7 + (x - w (k + 22) v)) p i = w p i := fun p i hp hp' => by rw [up2_no hp', up2_no hp]
  have e2 : up2 (up2 w (k + 22) v x) 1 7 ((up2 w (k + 22) v x) 1 7 + (x - w (k + 22) v)) (k + 22) v = x := by rw [up2_nr (by omega), up2_eq]
  have e7 : up2 (up2 w (k + 22) v x) 1 7 ((up2 w (k + 22) v x) 1 7 + (x - w (k + 22) v)) 1 7 = w 1 7 + (x - w (k + 22) v) := by rw [up2_eq, up2_nr (by omega)]
  obtain ⟨C, hC⟩ := hv.sn
  obtain ⟨S, hS⟩ := hv.sk
  have g := ic0.le (p := k) (by omega) hv3
  have hb := ic0.bnd
  have ht := ic0.tot
  have hTn : 0 ≤ TOT w := (sumI_le (f := fun p => sumI (fun v => (w (p + 22) v).toInt) 3) 20 (fun p hp => (sumI_le (f := fun v => (w (p + 22) v).toInt) 3 (fun v hv => ic0.va p v hp hv)).1)).1
  have hle : (w (k + 22) v).toInt ≤ TOT w := by
    have h1 := (sumI_le (f := fun v => (w (k + 22) v).toInt) 3 (fun v hv => ic0.va k v (by omega) hv)).2 v hv3
    have h2 := (sumI_le (f := fun p => sumI (fun v => (w (p + 22) v).toInt) 3) 20 (fun p hp => (sumI_le (f := fun v => (w (p + 22) v).toInt) 3 (fun v hv => ic0.va p v hp hv)).1)).2 k (by omega)
    unfold TOT
    exact Int.le_trans h1 h2
  have hT : TOT (up2 (up2 w (k + 22) v x) 1 7 ((up2 w (k + 22) v x) 1 7 + (x - w (k + 22) v))) = TOT w - (w (k + 22) v).toInt + x.toInt := by
    unfold TOT
    rw [sumI_1 (g := fun p => sumI (fun v => (w (p + 22) v).toInt) 3) (i := k) 20 (by omega) (fun p hp hn => sumI_cg 3 (fun i hi => by rw [e (p + 22) i (by omega) (by omega)]))]
    rw [sumI_1 (f := fun v' => (up2 (up2 w (k + 22) v x) 1 7 ((up2 w (k + 22) v x) 1 7 + (x - w (k + 22) v)) (k + 22) v').toInt) (g := fun v' => (w (k + 22) v').toInt) (i := v) 3 hv3 (fun i hi hn => by rw [e (k + 22) i (by omega) (by omega)])]
    rw [e2]
    omega
  have e1 : (x - w (k + 22) v).toInt = x.toInt - (w (k + 22) v).toInt := ti_sub (by omega) (by omega)
  refine ⟨⟨by rw [e 1 3 (by omega) (by omega)]; exact hv.ic.co, fun i hi => by rw [e 2 i (by omega) (by omega)]; exact hv.ic.te i hi, fun p i hp hi => ?_, ?_, ?_, ?_⟩, hv.ib.cg (fun p k a b _ => e p k (by omega) (by omega)), ⟨C, hC.cg (fun p k a b c _ => e p k (by omega) (by omega))⟩, ⟨S, hS.cg (fun p k a b _ => e p k (by omega) (by omega))⟩, by rw [e 0 5 (by omega) (by omega)]; exact hv.tu⟩
  · by_cases z : p = k ∧ i = v
    · rw [z.1, z.2, e2]
      exact h0
    · rw [e (p + 22) i (by omega) (by omega)]
      exact ic0.va p i hp hi
  · rw [hT, e7, ti_add (by rw [e1]; omega) (by rw [e1]; omega), e1, ← ht]
    omega
  · rw [hT]
    omega
  · rw [sum32_cg 10 (fun i hi => e 2 i (by omega) (by omega)), e 1 5 (by omega) (by omega), e 1 4 (by omega) (by omega), e 1 6 (by omega) (by omega)]
    exact hv.ic.deg
theorem rf_turng (j : Nat) (r w : Dt) (sums : Nat → Int64) (ns : Nat) (sw : Nat → Dt) (np : Nat) (pw : Nat → Dt) (nf : Nat) (fw : Nat → Dt) (spw : Dt) (q : Nat) (t n : Nat → Nat) (rr : Nat → Nat → Nat) (ww : Dt) (hR : RELF j r w sums ns sw np pw nf fw spw q t n rr ww) (x : Int32) (y : Nat) (hy : y < 12) (h0 : -3000 ≤ x.toInt) (h9 : x.toInt ≤ 3000) (w2 : Dt) (h2 : ∀ a k, ¬ (a = q ∧ k = 0) → w2 a k = up2 ww (rr (rr q 1) 5) y x a k) : RELF (j + 1) r (up2 (up2 w 6 y x) 5 3 ((up2 w 6 y x) 5 3 + (x - w 6 y))) sums ns sw np pw nf fw spw q t n rr w2 := by
  obtain ⟨ow, h⟩ := hR
  refine ⟨ow, h.w1 ((h.k.b6 hy x).told (Or.inr ⟨rfl, by omega⟩) _) ?_ h2⟩
  have hv := h.iv.mono
  have e : ∀ p k, ¬ (p = 6 ∧ k = y) → ¬ (p = 5 ∧ k = 3) → up2 (up2 w 6 y x) 5 3 ((up2 w 6 y x) 5 3 + (x - w 6 y)) p k = w p k := fun p k hp hp' => by rw [up2_no hp', up2_no hp]
  have e2 : up2 (up2 w 6 y x) 5 3 ((up2 w 6 y x) 5 3 + (x - w 6 y)) 6 y = x := by rw [up2_nr (by omega), up2_eq]
  have e5 : up2 (up2 w 6 y x) 5 3 ((up2 w 6 y x) 5 3 + (x - w 6 y)) 5 3 = w 5 3 + (x - w 6 y) := by rw [up2_eq, up2_nr (by omega)]
  obtain ⟨C, hC⟩ := hv.sn
  obtain ⟨S, hS⟩ := hv.sk
  refine ⟨hv.ic.cg (fun p k a _ => e p k (by omega) (by omega)), ⟨fun k hk => ?_, by rw [e 5 1 (by omega) (by omega)]; exact hv.ib.dr, ?_⟩, ⟨C, hC.cg (fun p k a b c _ => e p k (by omega) (by omega))⟩, ⟨S, hS.cg (fun p k a b _ => e p k (by omega) (by omega))⟩, by rw [e 0 5 (by omega) (by omega)]; exact hv.tu⟩
  · by_cases z : k = y
    · rw [z, e2]
      omega
    · rw [e 6 k (by omega) (by omega)]
      exact hv.ib.tu k hk
  · rw [sum32_1 (g := w 6) (i := y) 12 hy (fun k hk hn => e 6 k (by omega) (by omega)), e2, e5, e 5 2 (by omega) (by omega), ← hv.ib.bal]
    exact q_r4 _ _ _ _
theorem rf_stir (j : Nat) (r w : Dt) (sums : Nat → Int64) (ns : Nat) (sw : Nat → Dt) (np : Nat) (pw : Nat → Dt) (nf : Nat) (fw : Nat → Dt) (spw : Dt) (q : Nat) (t n : Nat → Nat) (rr : Nat → Nat → Nat) (ww : Dt) (hj : j < 512) (hR : RELF j r w sums ns sw np pw nf fw spw q t n rr ww) (x : Int32) (y z : Nat) (hy : y < 12) (hz : z < 12) (h0 : 1 ≤ x.toInt) (h9 : x.toInt ≤ 3000) (w2 : Dt) (h2 : ∀ a k, ¬ (a = q ∧ k = 0) → w2 a k = up2 (up2 ww (rr (rr q 1) 5) y (ww (rr (rr q 1) 5) y - x)) (rr (rr q 1) 5) z (up2 ww (rr (rr q 1) 5) y (ww (rr (rr q 1) 5) y - x) (rr (rr q 1) 5) z + x) a k) : RELF (j + 1) r (up2 (up2 w 6 y (w 6 y - x)) 6 z (up2 w 6 y (w 6 y - x) 6 z + x)) sums ns sw np pw nf fw spw q t n rr w2 := by
  obtain ⟨ow, h⟩ := hR
  have k1 := h.k.b6 hy (w 6 y - x)
  have k2 := k1.b6 hz (up2 w 6 y (w 6 y - x) 6 z + x)
  rw [h.k.rb hy, k1.rb hz] at h2
  refine ⟨ow, h.w1 k2 ?_ h2⟩
  have hv := h.iv.mono
  have ib := h.iv.ib
  have gy := ib.tu y hy
  have gz := ib.tu z hz
  have e : ∀ p k, p ≠ 6 → up2 (up2 w 6 y (w 6 y - x)) 6 z (up2 w 6 y (w 6 y - x) 6 z + x) p k = w p k := fun p k hp => by rw [up2_nr hp, up2_nr hp]
  have ey : (w 6 y - x).toInt = (w 6 y).toInt - x.toInt := ti_sub (by omega) (by omega)
  have ez : (w 6 z + x).toInt = (w 6 z).toInt + x.toInt := ti_add (by omega) (by omega)
  obtain ⟨C, hC⟩ := hv.sn
  obtain ⟨S, hS⟩ := hv.sk
  refine ⟨hv.ic.cg (fun p k a _ => e p k (by omega)), ⟨fun k hk => ?_, by rw [e 5 1 (by omega)]; exact hv.ib.dr, ?_⟩, ⟨C, hC.cg (fun p k a b c _ => e p k (by omega))⟩, ⟨S, hS.cg (fun p k a b _ => e p k (by omega))⟩, by rw [e 0 5 (by omega)]; exact hv.tu⟩
  · have gk := ib.tu k hk
    by_cases zz : k = z
    · rw [zz, up2_eq]
      by_cases zy : z = y
      · rw [zy, up2_eq]
        rw [q_r2]
        omega
      · rw [up2_nk zy, ez]
        omega
    · rw [up2_nk zz]
      by_cases zy : k = y
      · rw [zy, up2_eq, ey]
        omega
      · rw [up2_nk zy]
        omega
  · rw [sum32_1 (f := up2 (up2 w 6 y (w 6 y - x)) 6 z (up2 w 6 y (w 6 y - x) 6 z + x) 6) (g := up2 w 6 y (w 6 y - x) 6) (i := z) 12 hz (fun k hk hn => up2_nk hn), sum32_1 (f := up2 w 6 y (w 6 y - x) 6) (g := w 6) (i := y) 12 hy (fun k hk hn => up2_nk hn), up2_eq, up2_eq, e 5 2 (by omega), e 5 3 (by omega), ← ib.bal]
    exact q_r6 _ _ _ _ _
end RDS
