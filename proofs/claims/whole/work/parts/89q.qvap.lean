/-! THE PURE SIDE: vapour set, stirring, within the drawn length -/
theorem sim_setVapour2 (Rel : RLT) (hT : R_T Rel) (hr : R_rd Rel (fun w n rr ww q => ∀ k, k < 10 → rr (rr (rr q 1) 1) k ≠ q ∧ ∀ v, v < 3 → w (k + 22) v = ww (rr (rr (rr q 1) 1) k) v)) (hs : ∀ (j : Nat) (r w : Dt) (sums : Nat → Int64) (ns : Nat) (sw : Nat → Dt) (np : Nat) (pw : Nat → Dt) (nf : Nat) (fw : Nat → Dt) (spw : Dt) (q : Nat) (t n : Nat → Nat) (rr : Nat → Nat → Nat) (ww : Dt), j < 512 → Rel j r w sums ns sw np pw nf fw spw q t n rr ww → ∀ (x : Int32) (k v : Nat), k < 10 → v < 3 → 0 ≤ x.toInt → x.toInt ≤ 20000 → ∀ w2 : Dt, (∀ a i, ¬ (a = q ∧ i = 0) → w2 a i = up2 ww (rr (rr (rr q 1) 1) k) v x a i) → Rel (j + 1) r (up2 (up2 w (k + 22) v x) 1 7 ((up2 w (k + 22) v x) 1 7 + (x - w (k + 22) v))) sums ns sw np pw nf fw spw q t n rr w2) : SIM_setVapour Rel := by
  intro j r w sums ns sw np pw nf fw spw q t n rr ww hj hR x1 x2 x3
  have e0 : (0 : Int64).toInt = 0 := rfl
  have e9 : (20000 : Int64).toInt = 20000 := rfl
  have f0 : (0 : Int32).toInt = 0 := rfl
  have f9 : (20000 : Int32).toInt = 20000 := rfl
  have ex : x3.toInt64.toInt = x3.toInt := Int32.toInt_toInt64 x3
  have hbad : ¬ (vp_in x1 10 ∧ vp_in x2 3) → MM_setVapour Rel j r w sums ns sw np pw nf fw spw q t n rr ww x1 x2 x3 1 0 := fun hout => by
    unfold MM_setVapour wp_X13_setVapour
    exact m_begins (t := t) (n := n) (rr := rr) (m_noVapour up2_q (fun h g => absurd ⟨h, g⟩ hout) (fun _ => ⟨fun _ => ⟨up2_q, fun h => absurd h (by decide), hT j r w sums ns sw np pw nf fw spw q t n rr ww hR _ up2_off2⟩, fun g => absurd g (by decide)⟩))
  refine x_idx (k := 10) rfl (fun hin => x_idx (k := 3) rfl (fun hin2 => x_rng (fun a b => ⟨hin, hin2, fun v3 e3 w4 e4 w5 e5 => ?_⟩) (fun hout => ⟨Or.inr rfl, ?_⟩)) (fun hout => ⟨Or.inl rfl, hbad fun z => hout z.2⟩)) (fun hout => ⟨Or.inl rfl, hbad fun z => hout z.1⟩)
  · subst e3
    subst e4
    subst e5
    obtain ⟨h1, h2⟩ := hr j r w sums ns sw np pw nf fw spw q t n rr ww hR _ (vp_lt hin)
    unfold MM_setVapour wp_X13_setVapour
    refine m_begins (t := t) (n := n) (rr := rr) (m_noVapour up2_q (fun _ _ => ⟨fun g => absurd rfl g, fun _ => m_in (fun _ _ => ⟨fun _ => ?_, fun g => absurd g (by decide)⟩) (fun g => absurd ⟨by omega, by omega⟩ g)⟩) (fun g => absurd ⟨hin, hin2⟩ g))
    refine m_ok up2_q ⟨fun _ => ⟨hin, hin2, fun v9 ev w9 e9 => ?_⟩, fun g => absurd rfl g⟩
    subst ev
    subst e9
    refine ⟨?_, fun _ => ?_, hs j r w sums ns sw np pw nf fw spw q t n rr ww hj hR x3 _ _ (vp_lt hin) (vp_lt hin2) (by omega) (by omega) _ (fun a k h => ?_)⟩
    · exact (if_neg (fun z => h1 z.1.symm)).trans up2_q
    · rw [h2 _ (vp_lt hin2)]
      exact (up2_off _ _ fun z => h1 z.1).symm
    · by_cases z : a = rr (rr (rr q 1) 1) x1.toNatClampNeg ∧ k = x2.toNatClampNeg
      · exact (if_pos z).trans (if_pos z).symm
      · exact (if_neg z).trans ((up2_off _ _ h).trans (if_neg z).symm)
  · unfold MM_setVapour wp_X13_setVapour
    refine m_begins (t := t) (n := n) (rr := rr) (m_noVapour up2_q (fun _ _ => ⟨fun g => absurd rfl g, fun _ => m_in (fun a b => absurd ⟨by omega, by omega⟩ hout) (fun _ => ⟨fun g => absurd rfl g, fun _ => ?_⟩)⟩) (fun g => absurd ⟨hin, hin2⟩ g))
    exact m_bad up2_q (by decide) ⟨fun g => absurd g (by decide), fun _ => ⟨up2_q, fun h => absurd h (by decide), hT j r w sums ns sw np pw nf fw spw q t n rr ww hR _ up2_off2⟩⟩
theorem sim_stir2 (Rel : RLT) (hT : R_T Rel) (hr : R_rd Rel (fun w n rr ww q => rr (rr q 1) 5 ≠ q ∧ ∀ k, k < 12 → w 6 k = ww (rr (rr q 1) 5) k)) (hs : ∀ (j : Nat) (r w : Dt) (sums : Nat → Int64) (ns : Nat) (sw : Nat → Dt) (np : Nat) (pw : Nat → Dt) (nf : Nat) (fw : Nat → Dt) (spw : Dt) (q : Nat) (t n : Nat → Nat) (rr : Nat → Nat → Nat) (ww : Dt), j < 512 → Rel j r w sums ns sw np pw nf fw spw q t n rr ww → ∀ (x : Int32) (y z : Nat), y < 12 → z < 12 → 1 ≤ x.toInt → x.toInt ≤ 3000 → ∀ w2 : Dt, (∀ a k, ¬ (a = q ∧ k = 0) → w2 a k = up2 (up2 ww (rr (rr q 1) 5) y (ww (rr (rr q 1) 5) y - x)) (rr (rr q 1) 5) z (up2 ww (rr (rr q 1) 5) y (ww (rr (rr q 1) 5) y - x) (rr (rr q 1) 5) z + x) a k) → Rel (j + 1) r (up2 (up2 w 6 y (w 6 y - x)) 6 z (up2 w 6 y (w 6 y - x) 6 z + x)) sums ns sw np pw nf fw spw q t n rr w2) : SIM_stir Rel := by
  intro j r w sums ns sw np pw nf fw spw q t n rr ww hj hR x1 x2 x3
  have e0 : (0 : Int64).toInt = 0 := rfl
  have e11 : (11 : Int64).toInt = 11 := rfl
  have e1 : (1 : Int64).toInt = 1 := rfl
  have e9 : (3000 : Int64).toInt = 3000 := rfl
  have f0 : (1 : Int32).toInt = 1 := rfl
  have f9 : (3000 : Int32).toInt = 3000 := rfl
  have ex : x3.toInt64.toInt = x3.toInt := Int32.toInt_toInt64 x3
  obtain ⟨h1, h2⟩ := hr j r w sums ns sw np pw nf fw spw q t n rr ww hR
  have hend1 : ∀ k9 : Int32, k9 = 1 → MM_stir Rel j r w sums ns sw np pw nf fw spw q t n rr ww x1 x2 x3 k9 0 → MM_stir Rel j r w sums ns sw np pw nf fw spw q t n rr ww x1 x2 x3 1 0 := fun k9 e h => e ▸ h
  have hbad : ¬ (vp_in x1 12 ∧ vp_in x2 12) → MM_stir Rel j r w sums ns sw np pw nf fw spw q t n rr ww x1 x2 x3 1 0 := fun hout => by
    unfold MM_stir wp_X13_stir
    refine m_begins (t := t) (n := n) (rr := rr) (m_in (fun a b => ⟨fun g => absurd g (by decide), fun _ => m_in (fun a2 b2 => absurd ⟨vp_i64.mpr (by omega), vp_i64.mpr (by omega)⟩ hout) (fun _ => ⟨fun g => absurd rfl g, fun _ => ?_⟩)⟩) (fun _ => ⟨fun _ => ?_, fun g => absurd rfl g⟩))
    · exact m_bad up2_q (by decide) ⟨fun _ => ⟨up2_q, fun h => absurd h (by decide), hT j r w sums ns sw np pw nf fw spw q t n rr ww hR _ up2_off2⟩, fun g => absurd g (by decide)⟩
    · exact m_bad up2_q (by decide) ⟨fun _ => ⟨up2_q, fun h => absurd h (by decide), hT j r w sums ns sw np pw nf fw spw q t n rr ww hR _ up2_off2⟩, fun g => absurd g (by decide)⟩
  refine x_idx (k := 12) rfl (fun hin => x_idx (k := 12) rfl (fun hin2 => ⟨fun hab => x_rng (fun a b => ⟨hin, fun w3 e3 => ⟨hin2, fun w5 e5 => ?_⟩⟩) (fun hout => ⟨Or.inr rfl, ?_⟩), fun hab => ⟨Or.inr rfl, ?_⟩⟩) (fun hout => ⟨Or.inl rfl, hbad fun z => hout z.2⟩)) (fun hout => ⟨Or.inl rfl, hbad fun z => hout z.1⟩)
  · subst e3
    subst e5
    have i1 := vp_i64.mp hin
    have i2 := vp_i64.mp hin2
    unfold MM_stir wp_X13_stir
    refine m_begins (t := t) (n := n) (rr := rr) (m_in (fun _ _ => ⟨fun g => absurd g (by decide), fun _ => m_in (fun _ _ => ⟨fun _ => ?_, fun g => absurd g (by decide)⟩) (fun g => absurd ⟨by omega, by omega⟩ g)⟩) (fun g => absurd ⟨by omega, by omega⟩ g))
    refine m_ok up2_q ⟨fun g => absurd rfl g, fun _ => ⟨fun g => absurd hab g, fun _ => m_in (fun _ _ => ⟨fun _ => ?_, fun g => absurd g (by decide)⟩) (fun g => absurd ⟨by omega, by omega⟩ g)⟩⟩
    refine m_ok up2_q ⟨fun _ => ⟨hin, fun v9 ev => ⟨hin2, fun w9 ew => ?_⟩⟩, fun g => absurd rfl g⟩
    subst ev
    subst ew
    have hW : ∀ k, up2 ww q 0 0 (rr (rr q 1) 5) k = ww (rr (rr q 1) 5) k := fun k => up2_off _ _ fun z => h1 z.1
    have hu : up2 ww q 0 0 (rr (rr q 1) 5) x1.toNatClampNeg - x3 = ww (rr (rr q 1) 5) x1.toNatClampNeg - x3 := by rw [hW]
    refine ⟨?_, fun _ => ?_, hs j r w sums ns sw np pw nf fw spw q t n rr ww hj hR x3 _ _ (vp_lt hin) (vp_lt hin2) (by omega) (by omega) _ (fun a k h => ?_)⟩
    · exact (if_neg (fun z => h1 z.1.symm)).trans ((if_neg (fun z => h1 z.1.symm)).trans up2_q)
    · have g1 : up2 w 6 x1.toNatClampNeg (w 6 x1.toNatClampNeg - x3) 6 x2.toNatClampNeg = up2 (up2 ww q 0 0) (rr (rr q 1) 5) x1.toNatClampNeg (up2 ww q 0 0 (rr (rr q 1) 5) x1.toNatClampNeg - x3) (rr (rr q 1) 5) x2.toNatClampNeg := by
        unfold up2
        by_cases e : x2.toNatClampNeg = x1.toNatClampNeg
        · rw [if_pos ⟨rfl, e⟩, if_pos ⟨rfl, e⟩, if_neg (fun z => h1 z.1), h2 _ (vp_lt hin)]
        · rw [if_neg (fun z => e z.2), if_neg (fun z => e z.2), if_neg (fun z => h1 z.1), h2 _ (vp_lt hin2)]
      exact up2_q.trans ((congrArg (fun z => z + x3) g1).trans up2_q.symm)
    · exact up2_cg (congrArg (fun z => z + x3) (up2_cg hu (hW _))) (up2_cg hu (up2_off _ _ h))
  · have i1 := vp_i64.mp hin
    have i2 := vp_i64.mp hin2
    unfold MM_stir wp_X13_stir
    refine m_begins (t := t) (n := n) (rr := rr) (m_in (fun _ _ => ⟨fun g => absurd g (by decide), fun _ => m_in (fun _ _ => ⟨fun _ => ?_, fun g => absurd g (by decide)⟩) (fun g => absurd ⟨by omega, by omega⟩ g)⟩) (fun g => absurd ⟨by omega, by omega⟩ g))
    refine m_ok up2_q ⟨fun g => absurd rfl g, fun _ => ⟨fun g => absurd hab g, fun _ => m_in (fun a b => absurd ⟨by omega, by omega⟩ hout) (fun _ => ⟨fun g => absurd rfl g, fun _ => ?_⟩)⟩⟩
    exact m_bad up2_q (by decide) ⟨fun g => absurd g (by decide), fun _ => ⟨up2_q, fun h => absurd h (by decide), hT j r w sums ns sw np pw nf fw spw q t n rr ww hR _ up2_off2⟩⟩
  · have i1 := vp_i64.mp hin
    have i2 := vp_i64.mp hin2
    unfold MM_stir wp_X13_stir
    refine m_begins (t := t) (n := n) (rr := rr) (m_in (fun _ _ => ⟨fun g => absurd g (by decide), fun _ => m_in (fun _ _ => ⟨fun _ => ?_, fun g => absurd g (by decide)⟩) (fun g => absurd ⟨by omega, by omega⟩ g)⟩) (fun g => absurd ⟨by omega, by omega⟩ g))
    refine m_ok up2_q ⟨fun g => absurd rfl g, fun _ => ⟨fun _ => ?_, fun g => absurd g hab⟩⟩
    exact m_bad up2_q (by decide) ⟨fun g => absurd g (by decide), fun _ => ⟨up2_q, fun h => absurd h (by decide), hT j r w sums ns sw np pw nf fw spw q t n rr ww hR _ up2_off2⟩⟩
