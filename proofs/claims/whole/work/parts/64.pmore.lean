/-! THE PURE SIDE: isThere, happening, setVapour -/
theorem nw_char {x : Int32} (h : chr9 x = x) : narrow .char (.int x) = .int x := by
  have e : narrow .char (.int x) = .int (chr9 x) := rfl
  rw [e, h]
theorem sim_isThere (Rel : RLT) (hT : R_T Rel) (hr : R_rd Rel (fun w n rr ww q => rr q 1 ≠ q ∧ n (rr (rr q 1) 8) ≤ 12 ∧ w 7 0 = nI (n (rr (rr q 1) 8)) ∧ ∀ i, i < n (rr (rr q 1) 8) → rr (rr (rr q 1) 8) i ≠ q ∧ w 8 i = ww (rr (rr (rr q 1) 8) i) 0 ∧ w 9 i = ww (rr (rr (rr q 1) 8) i) 1 ∧ w 10 i = ww (rr (rr (rr q 1) 8) i) 2 ∧ w 11 i = ww (rr (rr (rr q 1) 8) i) 3 ∧ (w 13 i = 1 → w 12 i = ww (rr (rr (rr q 1) 8) i) 4) ∧ ((w 13 i = 1 ∧ ww (rr (rr (rr q 1) 8) i) 5 = 0) ∨ (w 13 i = 0 ∧ ww (rr (rr (rr q 1) 8) i) 5 = 1)))) : SIM_isThere Rel := by
  intro j r w sums ns sw np pw nf fw spw q t n rr ww hj hR x1
  obtain ⟨hq, hC, hw0, hst⟩ := hr j r w sums ns sw np pw nf fw spw q t n rr ww hR
  refine x_storm hC hw0 (fun hin => ⟨vp_mono hin hC, ?_⟩) (fun hout => ⟨rfl, ?_⟩)
  · obtain ⟨g1, g2, g3, g4, g5, g6, g7⟩ := hst _ (vp_lt hin)
    have hu := up2_off (w := ww) (q := q) (v := 0) (rr (rr (rr q 1) 8) x1.toNatClampNeg) 5 (fun z => g1 z.1)
    unfold MM_isThere wp_X13_isThere
    rcases g7 with ⟨z1, z2⟩ | ⟨z1, z2⟩
    · rw [z1]
      refine ⟨rfl, m_begins (t := t) (n := n) (rr := rr) (m_noStorm up2_q (by omega) (fun _ => ⟨fun h => absurd rfl h, fun _ => ⟨hin, fun h => absurd (hu.trans z2) h, fun _ => ⟨rfl, up2_q, fun _ => rfl, hT j r w sums ns sw np pw nf fw spw q t n rr ww hR _ up2_off⟩⟩⟩) (fun h => absurd hin h))⟩
    · rw [z1]
      refine ⟨rfl, m_begins (t := t) (n := n) (rr := rr) (m_noStorm up2_q (by omega) (fun _ => ⟨fun h => absurd rfl h, fun _ => ⟨hin, fun _ => ⟨rfl, up2_q, fun _ => rfl, hT j r w sums ns sw np pw nf fw spw q t n rr ww hR _ up2_off⟩, fun h => absurd (h.symm.trans (hu.trans z2)) (by decide)⟩⟩) (fun h => absurd hin h))⟩
  · unfold MM_isThere wp_X13_isThere
    exact m_begins (t := t) (n := n) (rr := rr) (m_noStorm up2_q (by omega) (fun h => absurd h hout) (fun _ => ⟨fun _ => ⟨rfl, up2_q, fun h => absurd h (by decide), hT j r w sums ns sw np pw nf fw spw q t n rr ww hR _ up2_off2⟩, fun h => absurd h (by decide)⟩))
theorem sim_happening (Rel : RLT) (hT : R_T Rel) (hr : R_rd Rel (fun w n rr ww q => n (rr (rr q 1) 10) ≤ 60 ∧ w 19 0 = nI (n (rr (rr q 1) 10)) ∧ ∀ i, i < n (rr (rr q 1) 10) → rr (rr (rr q 1) 10) i ≠ q ∧ w 20 i = ww (rr (rr (rr q 1) 10) i) 0 ∧ w 21 i = ww (rr (rr (rr q 1) 10) i) 1 ∧ chr9 (w 20 i) = w 20 i)) : SIM_happening Rel := by
  intro j r w sums ns sw np pw nf fw spw q t n rr ww hj hR x1
  obtain ⟨hC, hw0, hst⟩ := hr j r w sums ns sw np pw nf fw spw q t n rr ww hR
  refine x_note hC hw0 (fun hin => ⟨vp_mono hin hC, ?_, ?_⟩) (fun hout => ⟨rfl, ?_⟩)
  · exact nw_char (hst _ (vp_lt hin)).2.2.2
  · unfold MM_happening wp_X13_happening
    refine m_begins (t := t) (n := n) (rr := rr) (m_isOf (by omega) (fun _ => ⟨fun _ => m_ok up2_q ⟨fun _ => ⟨hin, ?_, up2_q, fun _ => ?_, hT j r w sums ns sw np pw nf fw spw q t n rr ww hR _ up2_off⟩, fun h => absurd rfl h⟩, fun h => absurd h (by decide)⟩) (fun h => absurd hin h))
    · obtain ⟨g1, g2, g3, g4⟩ := hst _ (vp_lt hin)
      rw [up2_off _ _ fun z => g1 z.1, ← g2]
      exact nw_char (by rw [show ((w 20 x1.toNatClampNeg).toUInt32 % 65536).toInt32 = w 20 x1.toNatClampNeg from g4]; exact g4)
    · obtain ⟨g1, g2, g3, g4⟩ := hst _ (vp_lt hin)
      rw [up2_off _ _ fun z => g1 z.1, ← g2]
      exact g4.symm
  · unfold MM_happening wp_X13_happening
    exact m_begins (t := t) (n := n) (rr := rr) (m_isOf (by omega) (fun h => absurd h hout) (fun _ => ⟨fun g => absurd rfl g, fun _ => m_bad up2_q (by decide) ⟨fun h => absurd h (by decide), fun _ => ⟨rfl, up2_q, fun h => absurd h (by decide), hT j r w sums ns sw np pw nf fw spw q t n rr ww hR _ up2_off2⟩⟩⟩))
theorem sim_setVapour (Rel : RLT) (hT : R_T Rel) (hr : R_rd Rel (fun w n rr ww q => ∀ k, k < 10 → rr (rr (rr q 1) 1) k ≠ q ∧ ∀ v, v < 3 → w (k + 22) v = ww (rr (rr (rr q 1) 1) k) v)) (hs : ∀ (j : Nat) (r w : Dt) (sums : Nat → Int64) (ns : Nat) (sw : Nat → Dt) (np : Nat) (pw : Nat → Dt) (nf : Nat) (fw : Nat → Dt) (spw : Dt) (q : Nat) (t n : Nat → Nat) (rr : Nat → Nat → Nat) (ww : Dt), Rel j r w sums ns sw np pw nf fw spw q t n rr ww → ∀ (x : Int32) (k v : Nat), k < 10 → v < 3 → 0 ≤ x.toInt → x.toInt ≤ 20000 → ∀ w2 : Dt, (∀ a i, ¬ (a = q ∧ i = 0) → w2 a i = up2 ww (rr (rr (rr q 1) 1) k) v x a i) → Rel (j + 1) r (up2 (up2 w (k + 22) v x) 1 7 ((up2 w (k + 22) v x) 1 7 + (x - w (k + 22) v))) sums ns sw np pw nf fw spw q t n rr w2) : SIM_setVapour Rel := by
  intro j r w sums ns sw np pw nf fw spw q t n rr ww hj hR x1 x2 x3
  have e0 : (0 : Int64).toInt = 0 := rfl
  have e9 : (20000 : Int64).toInt = 20000 := rfl
  have f0 : (0 : Int32).toInt = 0 := rfl
  have f9 : (20000 : Int32).toInt = 20000 := rfl
  have ex : x3.toInt64.toInt = x3.toInt := Int32.toInt_toInt64 x3
  have hbad : ¬ (vp_in x1 10 ∧ vp_in x2 3) → MM_setVapour Rel j r w sums ns sw np pw nf fw spw q t n rr ww x1 x2 x3 1 0 := fun hout => by
    unfold MM_setVapour wp_X13_setVapour
    exact m_begins (t := t) (n := n) (rr := rr) (m_noVapour up2_q (fun h g => absurd ⟨h, g⟩ hout) (fun _ => ⟨fun _ => ⟨up2_q, fun h => absurd h (by decide), hT j r w sums ns sw np pw nf fw spw q t n rr ww hR _ up2_off2⟩, fun g => absurd g (by decide)⟩))
  refine x_idx (k := 10) rfl (fun hin => x_idx (k := 3) rfl (fun hin2 => x_rng (fun a b => ⟨hin, hin2, fun v3 e3 w4 e4 w5 e5 => ?_⟩) (fun hout => ⟨Or.inr rfl, ?_⟩)) (fun hout => ⟨Or.inl rfl, hbad fun z => hout z.2⟩)) (fun hout => ⟨Or.inl rfl, hbad fun z => hout z.1⟩)
  · subst e3
    subst e4
    subst e5
    obtain ⟨h1, h2⟩ := hr j r w sums ns sw np pw nf fw spw q t n rr ww hR _ (vp_lt hin)
    unfold MM_setVapour wp_X13_setVapour
    refine m_begins (t := t) (n := n) (rr := rr) (m_noVapour up2_q (fun _ _ => ⟨fun g => absurd rfl g, fun _ => m_in (fun _ _ => ⟨fun _ => ?_, fun g => absurd g (by decide)⟩) (fun g => absurd ⟨by omega, by omega⟩ g)⟩) (fun g => absurd ⟨hin, hin2⟩ g))
    refine m_ok up2_q ⟨fun _ => ⟨hin, hin2, fun v9 ev w9 e9 => ?_⟩, fun g => absurd rfl g⟩
    subst ev
    subst e9
    refine ⟨?_, fun _ => ?_, hs j r w sums ns sw np pw nf fw spw q t n rr ww hR x3 _ _ (vp_lt hin) (vp_lt hin2) (by omega) (by omega) _ (fun a k h => ?_)⟩
    · exact (if_neg (fun z => h1 z.1.symm)).trans up2_q
    · rw [h2 _ (vp_lt hin2)]
      exact (up2_off _ _ fun z => h1 z.1).symm
    · by_cases z : a = rr (rr (rr q 1) 1) x1.toNatClampNeg ∧ k = x2.toNatClampNeg
      · exact (if_pos z).trans (if_pos z).symm
      · exact (if_neg z).trans ((up2_off _ _ h).trans (if_neg z).symm)
  · unfold MM_setVapour wp_X13_setVapour
    refine m_begins (t := t) (n := n) (rr := rr) (m_noVapour up2_q (fun _ _ => ⟨fun g => absurd rfl g, fun _ => m_in (fun a b => absurd ⟨by omega, by omega⟩ hout) (fun _ => ⟨fun g => absurd rfl g, fun _ => ?_⟩)⟩) (fun g => absurd ⟨hin, hin2⟩ g))
    exact m_bad up2_q (by decide) ⟨fun g => absurd g (by decide), fun _ => ⟨up2_q, fun h => absurd h (by decide), hT j r w sums ns sw np pw nf fw spw q t n rr ww hR _ up2_off2⟩⟩
