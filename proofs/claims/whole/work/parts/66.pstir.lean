/-! THE PURE SIDE: stir -/
theorem up2_cg {W w : Dt} {a k : Nat} {u v : Int32} {a' k' : Nat} (hu : u = v) (h : W a' k' = w a' k') : up2 W a k u a' k' = up2 w a k v a' k' := by
  unfold up2
  split
  · exact hu
  · exact h
theorem sim_stir (Rel : RLT) (hT : R_T Rel) (hr : R_rd Rel (fun w n rr ww q => rr (rr q 1) 5 ≠ q ∧ ∀ k, k < 12 → w 6 k = ww (rr (rr q 1) 5) k)) (hs : ∀ (j : Nat) (r w : Dt) (sums : Nat → Int64) (ns : Nat) (sw : Nat → Dt) (np : Nat) (pw : Nat → Dt) (nf : Nat) (fw : Nat → Dt) (spw : Dt) (q : Nat) (t n : Nat → Nat) (rr : Nat → Nat → Nat) (ww : Dt), Rel j r w sums ns sw np pw nf fw spw q t n rr ww → ∀ (x : Int32) (y z : Nat), y < 12 → z < 12 → 1 ≤ x.toInt → x.toInt ≤ 3000 → ∀ w2 : Dt, (∀ a k, ¬ (a = q ∧ k = 0) → w2 a k = up2 (up2 ww (rr (rr q 1) 5) y (ww (rr (rr q 1) 5) y - x)) (rr (rr q 1) 5) z (up2 ww (rr (rr q 1) 5) y (ww (rr (rr q 1) 5) y - x) (rr (rr q 1) 5) z + x) a k) → Rel (j + 1) r (up2 (up2 w 6 y (w 6 y - x)) 6 z (up2 w 6 y (w 6 y - x) 6 z + x)) sums ns sw np pw nf fw spw q t n rr w2) : SIM_stir Rel := by
  intro j r w sums ns sw np pw nf fw spw q t n rr ww hj hR x1 x2 x3
  have e0 : (0 : Int64).toInt = 0 := rfl
  have e11 : (11 : Int64).toInt = 11 := rfl
  have e1 : (1 : Int64).toInt = 1 := rfl
  have e9 : (3000 : Int64).toInt = 3000 := rfl
  have f0 : (1 : Int32).toInt = 1 := rfl
  have f9 : (3000 : Int32).toInt = 3000 := rfl
  have ex : x3.toInt64.toInt = x3.toInt := Int32.toInt_toInt64 x3
  obtain ⟨h1, h2⟩ := hr j r w sums ns sw np pw nf fw spw q t n rr ww hR
  have hend1 : ∀ k9 : Int32, k9 = 1 → MM_stir Rel j r w sums ns sw np pw nf fw spw q t n rr ww x1 x2 x3 k9 0 → MM_stir Rel j r w sums ns sw np pw nf fw spw q t n rr ww x1 x2 x3 1 0 := fun k9 e h => e ▸ h
  have hbad : ¬ (vp_in x1 12 ∧ vp_in x2 12) → MM_stir Rel j r w sums ns sw np pw nf fw spw q t n rr ww x1 x2 x3 1 0 := fun hout => by
    unfold MM_stir wp_X13_stir
    refine m_begins (t := t) (n := n) (rr := rr) (m_in (fun a b => ⟨fun g => absurd g (by decide), fun _ => m_in (fun a2 b2 => absurd ⟨vp_i64.mpr (by omega), vp_i64.mpr (by omega)⟩ hout) (fun _ => ⟨fun g => absurd rfl g, fun _ => ?_⟩)⟩) (fun _ => ⟨fun _ => ?_, fun g => absurd rfl g⟩))
    · exact m_bad up2_q (by decide) ⟨fun _ => ⟨up2_q, fun h => absurd h (by decide), hT j r w sums ns sw np pw nf fw spw q t n rr ww hR _ up2_off2⟩, fun g => absurd g (by decide)⟩
    · exact m_bad up2_q (by decide) ⟨fun _ => ⟨up2_q, fun h => absurd h (by decide), hT j r w sums ns sw np pw nf fw spw q t n rr ww hR _ up2_off2⟩, fun g => absurd g (by decide)⟩
  refine x_idx (k := 12) rfl (fun hin => x_idx (k := 12) rfl (fun hin2 => ⟨fun hab => x_rng (fun a b => ⟨hin, fun w3 e3 => ⟨hin2, fun w5 e5 => ?_⟩⟩) (fun hout => ⟨Or.inr rfl, ?_⟩), fun hab => ⟨Or.inr rfl, ?_⟩⟩) (fun hout => ⟨Or.inl rfl, hbad fun z => hout z.2⟩)) (fun hout => ⟨Or.inl rfl, hbad fun z => hout z.1⟩)
  · subst e3
    subst e5
    have i1 := vp_i64.mp hin
    have i2 := vp_i64.mp hin2
    unfold MM_stir wp_X13_stir
    refine m_begins (t := t) (n := n) (rr := rr) (m_in (fun _ _ => ⟨fun g => absurd g (by decide), fun _ => m_in (fun _ _ => ⟨fun _ => ?_, fun g => absurd g (by decide)⟩) (fun g => absurd ⟨by omega, by omega⟩ g)⟩) (fun g => absurd ⟨by omega, by omega⟩ g))
    refine m_ok up2_q ⟨fun g => absurd rfl g, fun _ => ⟨fun g => absurd hab g, fun _ => m_in (fun _ _ => ⟨fun _ => ?_, fun g => absurd g (by decide)⟩) (fun g => absurd ⟨by omega, by omega⟩ g)⟩⟩
    refine m_ok up2_q ⟨fun _ => ⟨hin, fun v9 ev => ⟨hin2, fun w9 ew => ?_⟩⟩, fun g => absurd rfl g⟩
    subst ev
    subst ew
    have hW : ∀ k, up2 ww q 0 0 (rr (rr q 1) 5) k = ww (rr (rr q 1) 5) k := fun k => up2_off _ _ fun z => h1 z.1
    have hu : up2 ww q 0 0 (rr (rr q 1) 5) x1.toNatClampNeg - x3 = ww (rr (rr q 1) 5) x1.toNatClampNeg - x3 := by rw [hW]
    refine ⟨?_, fun _ => ?_, hs j r w sums ns sw np pw nf fw spw q t n rr ww hR x3 _ _ (vp_lt hin) (vp_lt hin2) (by omega) (by omega) _ (fun a k h => ?_)⟩
    · exact (if_neg (fun z => h1 z.1.symm)).trans ((if_neg (fun z => h1 z.1.symm)).trans up2_q)
    · have g1 : up2 w 6 x1.toNatClampNeg (w 6 x1.toNatClampNeg - x3) 6 x2.toNatClampNeg = up2 (up2 ww q 0 0) (rr (rr q 1) 5) x1.toNatClampNeg (up2 ww q 0 0 (rr (rr q 1) 5) x1.toNatClampNeg - x3) (rr (rr q 1) 5) x2.toNatClampNeg := by
        unfold up2
        by_cases e : x2.toNatClampNeg = x1.toNatClampNeg
        · rw [if_pos ⟨rfl, e⟩, if_pos ⟨rfl, e⟩, if_neg (fun z => h1 z.1), h2 _ (vp_lt hin)]
        · rw [if_neg (fun z => e z.2), if_neg (fun z => e z.2), if_neg (fun z => h1 z.1), h2 _ (vp_lt hin2)]
      exact up2_q.trans ((congrArg (fun z => z + x3) g1).trans up2_q.symm)
    · exact up2_cg (congrArg (fun z => z + x3) (up2_cg hu (hW _))) (up2_cg hu (up2_off _ _ h))
  · have i1 := vp_i64.mp hin
    have i2 := vp_i64.mp hin2
    unfold MM_stir wp_X13_stir
    refine m_begins (t := t) (n := n) (rr := rr) (m_in (fun _ _ => ⟨fun g => absurd g (by decide), fun _ => m_in (fun _ _ => ⟨fun _ => ?_, fun g => absurd g (by decide)⟩) (fun g => absurd ⟨by omega, by omega⟩ g)⟩) (fun g => absurd ⟨by omega, by omega⟩ g))
    refine m_ok up2_q ⟨fun g => absurd rfl g, fun _ => ⟨fun g => absurd hab g, fun _ => m_in (fun a b => absurd ⟨by omega, by omega⟩ hout) (fun _ => ⟨fun g => absurd rfl g, fun _ => ?_⟩)⟩⟩
    exact m_bad up2_q (by decide) ⟨fun g => absurd g (by decide), fun _ => ⟨up2_q, fun h => absurd h (by decide), hT j r w sums ns sw np pw nf fw spw q t n rr ww hR _ up2_off2⟩⟩
  · have i1 := vp_i64.mp hin
    have i2 := vp_i64.mp hin2
    unfold MM_stir wp_X13_stir
    refine m_begins (t := t) (n := n) (rr := rr) (m_in (fun _ _ => ⟨fun g => absurd g (by decide), fun _ => m_in (fun _ _ => ⟨fun _ => ?_, fun g => absurd g (by decide)⟩) (fun g => absurd ⟨by omega, by omega⟩ g)⟩) (fun g => absurd ⟨by omega, by omega⟩ g))
    refine m_ok up2_q ⟨fun g => absurd rfl g, fun _ => ⟨fun _ => ?_, fun g => absurd g hab⟩⟩
    exact m_bad up2_q (by decide) ⟨fun g => absurd g (by decide), fun _ => ⟨up2_q, fun h => absurd h (by decide), hT j r w sums ns sw np pw nf fw spw q t n rr ww hR _ up2_off2⟩⟩
