/-! THE PURE SIDE: readers of lists -/
theorem nI_m1 {C : Nat} (h : C ≤ 1000) : ((nI C - 1).toInt64).toInt = (C : Int) - 1 := by
  rw [Int32.toInt_toInt64, Int32.toInt_sub, nI_toInt (by omega), show (1 : Int32).toInt = 1 from rfl, Int.bmod_eq_of_le (by omega) (by omega)]
section PUREL
variable {t n : Nat → Nat} {rr : Nat → Nat → Nat} {ww : Dt} {q : Nat}
theorem m_isOf {post : Int32 → Prop} {a : Nat} {x : Int32} (hC : n a ≤ 1000) (h1 : vp_in x (n a) → post 1) (h0 : ¬ vp_in x (n a) → post 0) : wp_X13_isOf post t n rr ww a x := by
  have e0 : (0 : Int64).toInt = 0 := rfl
  have e1 := nI_m1 hC
  refine m_in (fun a b => ⟨rfl, h1 (vp_i64.mpr (by omega))⟩) (fun g => ⟨rfl, h0 fun z => g ?_⟩)
  have := vp_i64.mp z
  omega
theorem m_noStorm {post : Int32 → Dt → Prop} {x : Int32} (h0 : ww q 0 = 0) (hC : n (rr (rr q 1) 8) ≤ 1000) (h1 : vp_in x (n (rr (rr q 1) 8)) → post 0 ww) (h2 : ¬ vp_in x (n (rr (rr q 1) 8)) → post 1 (up2 ww q 0 1)) : wp_X13_noStorm post t n rr ww q x :=
  m_isOf hC (fun a => ⟨fun _ => m_ok h0 ⟨rfl, h1 a⟩, fun g => absurd g (by decide)⟩) (fun a => ⟨fun g => absurd rfl g, fun _ => m_bad h0 (by decide) ⟨rfl, h2 a⟩⟩)
theorem m_noScar {post : Int32 → Dt → Prop} {x : Int32} (h0 : ww q 0 = 0) (hC : n (rr (rr q 1) 9) ≤ 1000) (h1 : vp_in x (n (rr (rr q 1) 9)) → post 0 ww) (h2 : ¬ vp_in x (n (rr (rr q 1) 9)) → post 1 (up2 ww q 0 1)) : wp_X13_noScar post t n rr ww q x :=
  m_isOf hC (fun a => ⟨fun _ => m_ok h0 ⟨rfl, h1 a⟩, fun g => absurd g (by decide)⟩) (fun a => ⟨fun g => absurd rfl g, fun _ => m_bad h0 (by decide) ⟨rfl, h2 a⟩⟩)
theorem m_isGone {post : Int32 → Dt → Prop} {x : Int32} (h0 : ww q 0 = 0) (hC : n (rr (rr q 1) 8) ≤ 1000) (h1 : vp_in x (n (rr (rr q 1) 8)) → ww (rr (rr (rr q 1) 8) x.toNatClampNeg) 5 = 0 → post 0 ww) (h2 : vp_in x (n (rr (rr q 1) 8)) → ww (rr (rr (rr q 1) 8) x.toNatClampNeg) 5 = 1 → post 1 (up2 ww q 0 2)) (h3 : ¬ vp_in x (n (rr (rr q 1) 8)) → post 1 (up2 ww q 0 1)) (hg : vp_in x (n (rr (rr q 1) 8)) → ww (rr (rr (rr q 1) 8) x.toNatClampNeg) 5 = 0 ∨ ww (rr (rr (rr q 1) 8) x.toNatClampNeg) 5 = 1) : wp_X13_isGone post t n rr ww q x := by
  refine m_noStorm h0 hC (fun a => ⟨fun g => absurd rfl g, fun _ => ⟨a, ?_⟩⟩) (fun a => ⟨fun _ => ⟨rfl, h3 a⟩, fun g => absurd g (by decide)⟩)
  rcases hg a with e | e
  · rw [e]
    exact m_ok h0 ⟨fun _ => ⟨rfl, h1 a e⟩, fun g => absurd rfl g⟩
  · rw [e]
    exact m_bad h0 (by decide) ⟨fun g => absurd g (by decide), fun _ => ⟨rfl, h2 a e⟩⟩
end PUREL
theorem x_min {C N : Nat} (hC : C ≤ N) (hN : N ≤ 1000) {a : Int32} (ha : a = nI N) : (if a < nI C then a else nI C) = nI C := by
  subst ha
  rw [nI_min (by omega) (by omega), Nat.min_eq_left hC]
theorem vp_mono {x : Int32} {a b : Nat} (h : vp_in x a) (hab : a ≤ b) : vp_in x b := fun z => h (z.elim Or.inl (fun z => Or.inr (Nat.le_trans hab z)))
theorem x_storm {post : Unit → Prop} {xpost : Nat → Prop} {r w : Dt} {x : Int32} {C : Nat} (hC : C ≤ 12) (hw : w 7 0 = nI C) (h1 : vp_in x C → post ()) (h2 : ¬ vp_in x C → xpost 0) : wp_X8_checkStorm post xpost r w x := by
  unfold wp_X8_checkStorm
  rw [hw, x_min (N := 12) (a := 12) hC (by decide) rfl]
  exact x_idx (k := C) (nI_toInt (by omega)) h1 h2
theorem x_note {post : Unit → Prop} {xpost : Nat → Prop} {r w : Dt} {x : Int32} {C : Nat} (hC : C ≤ 60) (hw : w 19 0 = nI C) (h1 : vp_in x C → post ()) (h2 : ¬ vp_in x C → xpost 4) : wp_X8_checkNote post xpost r w x := by
  have e0 : (0 : Int32).toInt = 0 := rfl
  have e6 : (60 : Int32).toInt = 60 := rfl
  have eC : (nI C).toInt = C := nI_toInt (by omega)
  unfold wp_X8_checkNote
  rw [hw]
  refine ⟨fun h => h2 fun z => z (Or.inl h), fun h => ⟨fun g => h2 fun z => ?_, fun g => ⟨fun _ => h1 (vp_in_iff.mpr ?_), fun g2 => absurd ?_ g2⟩⟩⟩
  · have := vp_in_iff.mp z
    rw [Int32.le_iff_toInt_le] at g
    omega
  · rw [Int32.lt_iff_toInt_lt] at h
    rw [Int32.le_iff_toInt_le] at g
    omega
  · rw [Int32.le_iff_toInt_le] at g
    rw [Int32.lt_iff_toInt_lt]
    omega
theorem sim_getAge (Rel : RLT) (hT : R_T Rel) (hr : R_rd Rel (fun w n rr ww q => rr q 1 ≠ q ∧ n (rr (rr q 1) 8) ≤ 12 ∧ w 7 0 = nI (n (rr (rr q 1) 8)) ∧ ∀ i, i < n (rr (rr q 1) 8) → rr (rr (rr q 1) 8) i ≠ q ∧ w 8 i = ww (rr (rr (rr q 1) 8) i) 0 ∧ w 9 i = ww (rr (rr (rr q 1) 8) i) 1 ∧ w 10 i = ww (rr (rr (rr q 1) 8) i) 2 ∧ w 11 i = ww (rr (rr (rr q 1) 8) i) 3 ∧ (w 13 i = 1 → w 12 i = ww (rr (rr (rr q 1) 8) i) 4) ∧ ((w 13 i = 1 ∧ ww (rr (rr (rr q 1) 8) i) 5 = 0) ∨ (w 13 i = 0 ∧ ww (rr (rr (rr q 1) 8) i) 5 = 1)))) : SIM_getAge Rel := by
  intro j r w sums ns sw np pw nf fw spw q t n rr ww hj hR x1
  obtain ⟨hq, hC, hw0, hst⟩ := hr j r w sums ns sw np pw nf fw spw q t n rr ww hR
  refine x_storm hC hw0 (fun hin => ⟨vp_mono hin hC, ?_⟩) (fun hout => ⟨rfl, ?_⟩)
  · unfold MM_getAge wp_X13_getAge
    refine m_begins (t := t) (n := n) (rr := rr) (m_noStorm up2_q (by omega) (fun _ => ⟨fun _ => ⟨hin, up2_q, fun _ => ?_, hT j r w sums ns sw np pw nf fw spw q t n rr ww hR _ up2_off⟩, fun h => absurd rfl h⟩) (fun h => absurd hin h))
    obtain ⟨g1, g2, g3, g4, g5, g6⟩ := hst _ (vp_lt hin)
    rw [g5]
    exact (up2_off _ _ fun z => g1 z.1).symm
  · unfold MM_getAge wp_X13_getAge
    exact m_begins (t := t) (n := n) (rr := rr) (m_noStorm up2_q (by omega) (fun h => absurd h hout) (fun _ => ⟨fun h => absurd h (by decide), fun _ => ⟨up2_q, fun h => absurd h (by decide), hT j r w sums ns sw np pw nf fw spw q t n rr ww hR _ up2_off2⟩⟩))
theorem sim_getLongitude (Rel : RLT) (hT : R_T Rel) (hr : R_rd Rel (fun w n rr ww q => rr q 1 ≠ q ∧ n (rr (rr q 1) 8) ≤ 12 ∧ w 7 0 = nI (n (rr (rr q 1) 8)) ∧ ∀ i, i < n (rr (rr q 1) 8) → rr (rr (rr q 1) 8) i ≠ q ∧ w 8 i = ww (rr (rr (rr q 1) 8) i) 0 ∧ w 9 i = ww (rr (rr (rr q 1) 8) i) 1 ∧ w 10 i = ww (rr (rr (rr q 1) 8) i) 2 ∧ w 11 i = ww (rr (rr (rr q 1) 8) i) 3 ∧ (w 13 i = 1 → w 12 i = ww (rr (rr (rr q 1) 8) i) 4) ∧ ((w 13 i = 1 ∧ ww (rr (rr (rr q 1) 8) i) 5 = 0) ∨ (w 13 i = 0 ∧ ww (rr (rr (rr q 1) 8) i) 5 = 1)))) : SIM_getLongitude Rel := by
  intro j r w sums ns sw np pw nf fw spw q t n rr ww hj hR x1
  obtain ⟨hq, hC, hw0, hst⟩ := hr j r w sums ns sw np pw nf fw spw q t n rr ww hR
  have hgn : vp_in x1 (n (rr (rr q 1) 8)) → up2 ww q 0 0 (rr (rr (rr q 1) 8) x1.toNatClampNeg) 5 = 0 ∨ up2 ww q 0 0 (rr (rr (rr q 1) 8) x1.toNatClampNeg) 5 = 1 := fun hin => by
    obtain ⟨g1, g2, g3, g4, g5, g6, g7⟩ := hst _ (vp_lt hin)
    rw [up2_off _ _ fun z => g1 z.1]
    exact g7.elim (fun z => Or.inl z.2) (fun z => Or.inr z.2)
  refine x_storm hC hw0 (fun hin => ⟨vp_mono hin hC, fun hz => ⟨vp_mono hin hC, ?_⟩, fun hz => ⟨Or.inr rfl, ?_⟩⟩) (fun hout => ⟨Or.inl rfl, ?_⟩)
  · obtain ⟨g1, g2, g3, g4, g5, g6, g7⟩ := hst _ (vp_lt hin)
    have hu := up2_off (w := ww) (q := q) (v := 0) (rr (rr (rr q 1) 8) x1.toNatClampNeg) 5 (fun z => g1 z.1)
    unfold MM_getLongitude wp_X13_getLongitude
    refine m_begins (t := t) (n := n) (rr := rr) (m_isGone up2_q (by omega) (fun _ _ => ⟨fun _ => ⟨hin, up2_q, fun _ => ?_, hT j r w sums ns sw np pw nf fw spw q t n rr ww hR _ up2_off⟩, fun h => absurd rfl h⟩) (fun _ e => ?_) (fun h => absurd hin h) hgn)
    · rw [g3]
      exact (up2_off _ _ fun z => g1 z.1).symm
    · rw [hu] at e
      rcases g7 with z | z
      · exact absurd (z.2.symm.trans e) (by decide)
      · exact absurd z.1 hz
  · obtain ⟨g1, g2, g3, g4, g5, g6, g7⟩ := hst _ (vp_lt hin)
    have hu := up2_off (w := ww) (q := q) (v := 0) (rr (rr (rr q 1) 8) x1.toNatClampNeg) 5 (fun z => g1 z.1)
    unfold MM_getLongitude wp_X13_getLongitude
    refine m_begins (t := t) (n := n) (rr := rr) (m_isGone up2_q (by omega) (fun _ e => ?_) (fun _ e => ⟨fun h => absurd h (by decide), fun _ => ⟨up2_q, fun h => absurd h (by decide), hT j r w sums ns sw np pw nf fw spw q t n rr ww hR _ up2_off2⟩⟩) (fun h => absurd hin h) hgn)
    rw [hu] at e
    rcases g7 with z | z
    · exact absurd (z.1.symm.trans hz) (by decide)
    · exact absurd (z.2.symm.trans e) (by decide)
  · unfold MM_getLongitude wp_X13_getLongitude
    exact m_begins (t := t) (n := n) (rr := rr) (m_isGone up2_q (by omega) (fun h => absurd h hout) (fun h => absurd h hout) (fun _ => ⟨fun h => absurd h (by decide), fun _ => ⟨up2_q, fun h => absurd h (by decide), hT j r w sums ns sw np pw nf fw spw q t n rr ww hR _ up2_off2⟩⟩) hgn)
theorem sim_getSize (Rel : RLT) (hT : R_T Rel) (hr : R_rd Rel (fun w n rr ww q => rr q 1 ≠ q ∧ n (rr (rr q 1) 8) ≤ 12 ∧ w 7 0 = nI (n (rr (rr q 1) 8)) ∧ ∀ i, i < n (rr (rr q 1) 8) → rr (rr (rr q 1) 8) i ≠ q ∧ w 8 i = ww (rr (rr (rr q 1) 8) i) 0 ∧ w 9 i = ww (rr (rr (rr q 1) 8) i) 1 ∧ w 10 i = ww (rr (rr (rr q 1) 8) i) 2 ∧ w 11 i = ww (rr (rr (rr q 1) 8) i) 3 ∧ (w 13 i = 1 → w 12 i = ww (rr (rr (rr q 1) 8) i) 4) ∧ ((w 13 i = 1 ∧ ww (rr (rr (rr q 1) 8) i) 5 = 0) ∨ (w 13 i = 0 ∧ ww (rr (rr (rr q 1) 8) i) 5 = 1)))) : SIM_getSize Rel := by
  intro j r w sums ns sw np pw nf fw spw q t n rr ww hj hR x1
  obtain ⟨hq, hC, hw0, hst⟩ := hr j r w sums ns sw np pw nf fw spw q t n rr ww hR
  have hgn : vp_in x1 (n (rr (rr q 1) 8)) → up2 ww q 0 0 (rr (rr (rr q 1) 8) x1.toNatClampNeg) 5 = 0 ∨ up2 ww q 0 0 (rr (rr (rr q 1) 8) x1.toNatClampNeg) 5 = 1 := fun hin => by
    obtain ⟨g1, g2, g3, g4, g5, g6, g7⟩ := hst _ (vp_lt hin)
    rw [up2_off _ _ fun z => g1 z.1]
    exact g7.elim (fun z => Or.inl z.2) (fun z => Or.inr z.2)
  refine x_storm hC hw0 (fun hin => ⟨vp_mono hin hC, fun hz => ⟨vp_mono hin hC, ?_⟩, fun hz => ⟨Or.inr rfl, ?_⟩⟩) (fun hout => ⟨Or.inl rfl, ?_⟩)
  · obtain ⟨g1, g2, g3, g4, g5, g6, g7⟩ := hst _ (vp_lt hin)
    have hu := up2_off (w := ww) (q := q) (v := 0) (rr (rr (rr q 1) 8) x1.toNatClampNeg) 5 (fun z => g1 z.1)
    unfold MM_getSize wp_X13_getSize
    refine m_begins (t := t) (n := n) (rr := rr) (m_isGone up2_q (by omega) (fun _ _ => ⟨fun _ => ⟨hin, up2_q, fun _ => ?_, hT j r w sums ns sw np pw nf fw spw q t n rr ww hR _ up2_off⟩, fun h => absurd rfl h⟩) (fun _ e => ?_) (fun h => absurd hin h) hgn)
    · rw [g4]
      exact (up2_off _ _ fun z => g1 z.1).symm
    · rw [hu] at e
      rcases g7 with z | z
      · exact absurd (z.2.symm.trans e) (by decide)
      · exact absurd z.1 hz
  · obtain ⟨g1, g2, g3, g4, g5, g6, g7⟩ := hst _ (vp_lt hin)
    have hu := up2_off (w := ww) (q := q) (v := 0) (rr (rr (rr q 1) 8) x1.toNatClampNeg) 5 (fun z => g1 z.1)
    unfold MM_getSize wp_X13_getSize
    refine m_begins (t := t) (n := n) (rr := rr) (m_isGone up2_q (by omega) (fun _ e => ?_) (fun _ e => ⟨fun h => absurd h (by decide), fun _ => ⟨up2_q, fun h => absurd h (by decide), hT j r w sums ns sw np pw nf fw spw q t n rr ww hR _ up2_off2⟩⟩) (fun h => absurd hin h) hgn)
    rw [hu] at e
    rcases g7 with z | z
    · exact absurd (z.1.symm.trans hz) (by decide)
    · exact absurd (z.2.symm.trans e) (by decide)
  · unfold MM_getSize wp_X13_getSize
    exact m_begins (t := t) (n := n) (rr := rr) (m_isGone up2_q (by omega) (fun h => absurd h hout) (fun h => absurd h hout) (fun _ => ⟨fun h => absurd h (by decide), fun _ => ⟨up2_q, fun h => absurd h (by decide), hT j r w sums ns sw np pw nf fw spw q t n rr ww hR _ up2_off2⟩⟩) hgn)
theorem sim_getWidth (Rel : RLT) (hT : R_T Rel) (hr : R_rd Rel (fun w n rr ww q => n (rr (rr q 1) 9) ≤ 8 ∧ w 15 0 = nI (n (rr (rr q 1) 9)) ∧ ∀ i, i < n (rr (rr q 1) 9) → rr (rr (rr q 1) 9) i ≠ q ∧ w 16 i = ww (rr (rr (rr q 1) 9) i) 0 ∧ w 17 i = ww (rr (rr (rr q 1) 9) i) 2 ∧ w 18 i = ww (rr (rr (rr q 1) 9) i) 1)) : SIM_getWidth Rel := by
  intro j r w sums ns sw np pw nf fw spw q t n rr ww hj hR x1
  obtain ⟨hC, hw0, hst⟩ := hr j r w sums ns sw np pw nf fw spw q t n rr ww hR
  unfold wp_X8_getWidth
  rw [hw0, x_min (N := 8) (a := 8) hC (by decide) rfl]
  refine x_idx (k := n (rr (rr q 1) 9)) (nI_toInt (by omega)) (fun hin => ⟨vp_mono hin hC, ?_⟩) (fun hout => ⟨rfl, ?_⟩)
  · unfold MM_getWidth wp_X13_getWidth
    refine m_begins (t := t) (n := n) (rr := rr) (m_noScar up2_q (by omega) (fun _ => ⟨fun _ => ⟨hin, up2_q, fun _ => ?_, hT j r w sums ns sw np pw nf fw spw q t n rr ww hR _ up2_off⟩, fun h => absurd rfl h⟩) (fun h => absurd hin h))
    obtain ⟨g1, g2, g3, g4⟩ := hst _ (vp_lt hin)
    rw [g3]
    exact (up2_off _ _ fun z => g1 z.1).symm
  · unfold MM_getWidth wp_X13_getWidth
    exact m_begins (t := t) (n := n) (rr := rr) (m_noScar up2_q (by omega) (fun h => absurd h hout) (fun _ => ⟨fun h => absurd h (by decide), fun _ => ⟨up2_q, fun h => absurd h (by decide), hT j r w sums ns sw np pw nf fw spw q t n rr ww hR _ up2_off2⟩⟩))
theorem sim_happenings (Rel : RLT) (hT : R_T Rel) (hr : R_rd Rel (fun w n rr ww q => n (rr (rr q 1) 10) ≤ 60 ∧ w 19 0 = nI (n (rr (rr q 1) 10)) ∧ ∀ i, i < n (rr (rr q 1) 10) → rr (rr (rr q 1) 10) i ≠ q ∧ w 20 i = ww (rr (rr (rr q 1) 10) i) 0 ∧ w 21 i = ww (rr (rr (rr q 1) 10) i) 1 ∧ chr9 (w 20 i) = w 20 i)) : SIM_happenings Rel := by
  intro j r w sums ns sw np pw nf fw spw q t n rr ww hj hR
  obtain ⟨hC, hw0, hst⟩ := hr j r w sums ns sw np pw nf fw spw q t n rr ww hR
  unfold wp_X8_happenings MM_happenings wp_X13_happenings
  exact m_begins (t := t) (n := n) (rr := rr) ⟨hw0, hT j r w sums ns sw np pw nf fw spw q t n rr ww hR _ up2_off⟩
theorem sim_happenedTo (Rel : RLT) (hT : R_T Rel) (hr : R_rd Rel (fun w n rr ww q => n (rr (rr q 1) 10) ≤ 60 ∧ w 19 0 = nI (n (rr (rr q 1) 10)) ∧ ∀ i, i < n (rr (rr q 1) 10) → rr (rr (rr q 1) 10) i ≠ q ∧ w 20 i = ww (rr (rr (rr q 1) 10) i) 0 ∧ w 21 i = ww (rr (rr (rr q 1) 10) i) 1 ∧ chr9 (w 20 i) = w 20 i)) : SIM_happenedTo Rel := by
  intro j r w sums ns sw np pw nf fw spw q t n rr ww hj hR x1
  obtain ⟨hC, hw0, hst⟩ := hr j r w sums ns sw np pw nf fw spw q t n rr ww hR
  refine x_note hC hw0 (fun hin => ⟨vp_mono hin hC, ?_⟩) (fun hout => ⟨rfl, ?_⟩)
  · unfold MM_happenedTo wp_X13_happenedTo
    refine m_begins (t := t) (n := n) (rr := rr) (m_isOf (by omega) (fun _ => ⟨fun _ => m_ok up2_q ⟨fun _ => ⟨hin, up2_q, fun _ => ?_, hT j r w sums ns sw np pw nf fw spw q t n rr ww hR _ up2_off⟩, fun h => absurd rfl h⟩, fun h => absurd h (by decide)⟩) (fun h => absurd hin h))
    obtain ⟨g1, g2, g3, g4⟩ := hst _ (vp_lt hin)
    rw [g3]
    exact (up2_off _ _ fun z => g1 z.1).symm
  · unfold MM_happenedTo wp_X13_happenedTo
    exact m_begins (t := t) (n := n) (rr := rr) (m_isOf (by omega) (fun h => absurd h hout) (fun _ => ⟨fun g => absurd rfl g, fun _ => m_bad up2_q (by decide) ⟨fun h => absurd h (by decide), fun _ => ⟨up2_q, fun h => absurd h (by decide), hT j r w sums ns sw np pw nf fw spw q t n rr ww hR _ up2_off2⟩⟩⟩))
