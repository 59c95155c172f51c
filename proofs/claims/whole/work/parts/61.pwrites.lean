/-! THE PURE SIDE: the small writers -/
theorem sim_setCore (Rel : RLT) (hT : R_T Rel) (hr : R_rd Rel (fun w n rr ww q => rr q 1 ≠ q ∧ w 1 3 = ww (rr q 1) 3)) (hs : ∀ (j : Nat) (r w : Dt) (sums : Nat → Int64) (ns : Nat) (sw : Nat → Dt) (np : Nat) (pw : Nat → Dt) (nf : Nat) (fw : Nat → Dt) (spw : Dt) (q : Nat) (t n : Nat → Nat) (rr : Nat → Nat → Nat) (ww : Dt), Rel j r w sums ns sw np pw nf fw spw q t n rr ww → ∀ x : Int32, 0 ≤ x.toInt → x.toInt ≤ 9 → ∀ w2 : Dt, (∀ a k, ¬ (a = q ∧ k = 0) → w2 a k = up2 ww (rr q 1) 3 x a k) → Rel (j + 1) r (up2 w 1 3 x) sums ns sw np pw nf fw spw q t n rr w2) : SIM_setCore Rel := by
  intro j r w sums ns sw np pw nf fw spw q t n rr ww hj hR x1
  have e0 : (0 : Int64).toInt = 0 := rfl
  have e9 : (9 : Int64).toInt = 9 := rfl
  have f0 : (0 : Int32).toInt = 0 := rfl
  have f9 : (9 : Int32).toInt = 9 := rfl
  have ex : x1.toInt64.toInt = x1.toInt := Int32.toInt_toInt64 x1
  obtain ⟨h1, h2⟩ := hr j r w sums ns sw np pw nf fw spw q t n rr ww hR
  refine x_rng (fun a b w1 e => ?_) (fun hout => ⟨rfl, ?_⟩)
  · subst e
    unfold MM_setCore wp_X13_setCore
    refine m_begins (t := t) (n := n) (rr := rr) (m_in (fun _ _ => ⟨fun _ => ?_, fun g => absurd g (by decide)⟩) (fun g => absurd ⟨by omega, by omega⟩ g))
    refine m_ok up2_q ⟨fun _ w9 e9 => ?_, fun g => absurd rfl g⟩
    subst e9
    refine ⟨?_, fun _ => ?_, hs j r w sums ns sw np pw nf fw spw q t n rr ww hR x1 (by omega) (by omega) _ (fun a k h => ?_)⟩
    · exact (if_neg (fun z => h1 z.1.symm)).trans up2_q
    · rw [h2]
      exact (up2_off _ _ fun z => h1 z.1).symm
    · by_cases z : a = rr q 1 ∧ k = 3
      · exact (if_pos z).trans (if_pos z).symm
      · exact (if_neg z).trans ((up2_off _ _ h).trans (if_neg z).symm)
  · unfold MM_setCore wp_X13_setCore
    refine m_begins (t := t) (n := n) (rr := rr) (m_in (fun a b => absurd ⟨by omega, by omega⟩ hout) (fun _ => ⟨fun g => absurd rfl g, fun _ => ?_⟩))
    exact m_bad up2_q (by decide) ⟨fun g => absurd g (by decide), fun _ => ⟨up2_q, fun h => absurd h (by decide), hT j r w sums ns sw np pw nf fw spw q t n rr ww hR _ up2_off2⟩⟩
theorem sim_setDrag (Rel : RLT) (hT : R_T Rel) (hr : R_rd Rel (fun w n rr ww q => rr q 1 ≠ q ∧ w 5 1 = ww (rr q 1) 6)) (hs : ∀ (j : Nat) (r w : Dt) (sums : Nat → Int64) (ns : Nat) (sw : Nat → Dt) (np : Nat) (pw : Nat → Dt) (nf : Nat) (fw : Nat → Dt) (spw : Dt) (q : Nat) (t n : Nat → Nat) (rr : Nat → Nat → Nat) (ww : Dt), Rel j r w sums ns sw np pw nf fw spw q t n rr ww → ∀ x : Int32, 0 ≤ x.toInt → x.toInt ≤ 50 → ∀ w2 : Dt, (∀ a k, ¬ (a = q ∧ k = 0) → w2 a k = up2 ww (rr q 1) 6 x a k) → Rel (j + 1) r (up2 w 5 1 x) sums ns sw np pw nf fw spw q t n rr w2) : SIM_setDrag Rel := by
  intro j r w sums ns sw np pw nf fw spw q t n rr ww hj hR x1
  have e0 : (0 : Int64).toInt = 0 := rfl
  have e9 : (50 : Int64).toInt = 50 := rfl
  have f0 : (0 : Int32).toInt = 0 := rfl
  have f9 : (50 : Int32).toInt = 50 := rfl
  have ex : x1.toInt64.toInt = x1.toInt := Int32.toInt_toInt64 x1
  obtain ⟨h1, h2⟩ := hr j r w sums ns sw np pw nf fw spw q t n rr ww hR
  refine x_rng (fun a b w1 e => ?_) (fun hout => ⟨rfl, ?_⟩)
  · subst e
    unfold MM_setDrag wp_X13_setDrag
    refine m_begins (t := t) (n := n) (rr := rr) (m_in (fun _ _ => ⟨fun _ => ?_, fun g => absurd g (by decide)⟩) (fun g => absurd ⟨by omega, by omega⟩ g))
    refine m_ok up2_q ⟨fun _ w9 e9 => ?_, fun g => absurd rfl g⟩
    subst e9
    refine ⟨?_, fun _ => ?_, hs j r w sums ns sw np pw nf fw spw q t n rr ww hR x1 (by omega) (by omega) _ (fun a k h => ?_)⟩
    · exact (if_neg (fun z => h1 z.1.symm)).trans up2_q
    · rw [h2]
      exact (up2_off _ _ fun z => h1 z.1).symm
    · by_cases z : a = rr q 1 ∧ k = 6
      · exact (if_pos z).trans (if_pos z).symm
      · exact (if_neg z).trans ((up2_off _ _ h).trans (if_neg z).symm)
  · unfold MM_setDrag wp_X13_setDrag
    refine m_begins (t := t) (n := n) (rr := rr) (m_in (fun a b => absurd ⟨by omega, by omega⟩ hout) (fun _ => ⟨fun g => absurd rfl g, fun _ => ?_⟩))
    exact m_bad up2_q (by decide) ⟨fun g => absurd g (by decide), fun _ => ⟨up2_q, fun h => absurd h (by decide), hT j r w sums ns sw np pw nf fw spw q t n rr ww hR _ up2_off2⟩⟩
theorem sim_setTemperature (Rel : RLT) (hT : R_T Rel) (hr : R_rd Rel (fun w n rr ww q => rr (rr q 1) 0 ≠ q ∧ ∀ k, k < 10 → w 2 k = ww (rr (rr q 1) 0) k)) (hs : ∀ (j : Nat) (r w : Dt) (sums : Nat → Int64) (ns : Nat) (sw : Nat → Dt) (np : Nat) (pw : Nat → Dt) (nf : Nat) (fw : Nat → Dt) (spw : Dt) (q : Nat) (t n : Nat → Nat) (rr : Nat → Nat → Nat) (ww : Dt), Rel j r w sums ns sw np pw nf fw spw q t n rr ww → ∀ (x : Int32) (y : Nat), y < 10 → 50 ≤ x.toInt → x.toInt ≤ 999 → ∀ w2 : Dt, (∀ a k, ¬ (a = q ∧ k = 0) → w2 a k = up2 ww (rr (rr q 1) 0) y x a k) → Rel (j + 1) r (up2 (up2 w 2 y x) 1 5 ((up2 w 2 y x) 1 5 + (x - w 2 y))) sums ns sw np pw nf fw spw q t n rr w2) : SIM_setTemperature Rel := by
  intro j r w sums ns sw np pw nf fw spw q t n rr ww hj hR x1 x2
  have e0 : (50 : Int64).toInt = 50 := rfl
  have e9 : (999 : Int64).toInt = 999 := rfl
  have f0 : (50 : Int32).toInt = 50 := rfl
  have f9 : (999 : Int32).toInt = 999 := rfl
  have ex : x2.toInt64.toInt = x2.toInt := Int32.toInt_toInt64 x2
  obtain ⟨h1, h2⟩ := hr j r w sums ns sw np pw nf fw spw q t n rr ww hR
  refine x_idx (k := 10) rfl (fun hin => x_rng (fun a b => ⟨hin, fun w1 e1 w3 e3 => ?_⟩) (fun hout => ⟨Or.inr rfl, ?_⟩)) (fun hout => ⟨Or.inl rfl, ?_⟩)
  · subst e1
    subst e3
    unfold MM_setTemperature wp_X13_setTemperature
    refine m_begins (t := t) (n := n) (rr := rr) (m_noLevel up2_q (fun _ => ⟨fun g => absurd rfl g, fun _ => m_in (fun _ _ => ⟨fun _ => ?_, fun g => absurd g (by decide)⟩) (fun g => absurd ⟨by omega, by omega⟩ g)⟩) (fun g => absurd hin g))
    refine m_ok up2_q ⟨fun _ => ⟨hin, fun v9 ev w9 e9 => ?_⟩, fun g => absurd rfl g⟩
    subst ev
    subst e9
    refine ⟨?_, fun _ => ?_, hs j r w sums ns sw np pw nf fw spw q t n rr ww hR x2 _ (vp_lt hin) (by omega) (by omega) _ (fun a k h => ?_)⟩
    · exact (if_neg (fun z => h1 z.1.symm)).trans up2_q
    · rw [h2 _ (vp_lt hin)]
      exact (up2_off _ _ fun z => h1 z.1).symm
    · by_cases z : a = rr (rr q 1) 0 ∧ k = x1.toNatClampNeg
      · exact (if_pos z).trans (if_pos z).symm
      · exact (if_neg z).trans ((up2_off _ _ h).trans (if_neg z).symm)
  · unfold MM_setTemperature wp_X13_setTemperature
    refine m_begins (t := t) (n := n) (rr := rr) (m_noLevel up2_q (fun _ => ⟨fun g => absurd rfl g, fun _ => m_in (fun a b => absurd ⟨by omega, by omega⟩ hout) (fun _ => ⟨fun g => absurd rfl g, fun _ => ?_⟩)⟩) (fun g => absurd hin g))
    exact m_bad up2_q (by decide) ⟨fun g => absurd g (by decide), fun _ => ⟨up2_q, fun h => absurd h (by decide), hT j r w sums ns sw np pw nf fw spw q t n rr ww hR _ up2_off2⟩⟩
  · unfold MM_setTemperature wp_X13_setTemperature
    exact m_begins (t := t) (n := n) (rr := rr) (m_noLevel up2_q (fun g => absurd g hout) (fun _ => ⟨fun _ => ⟨up2_q, fun h => absurd h (by decide), hT j r w sums ns sw np pw nf fw spw q t n rr ww hR _ up2_off2⟩, fun g => absurd g (by decide)⟩))
theorem sim_setTurning (Rel : RLT) (hT : R_T Rel) (hr : R_rd Rel (fun w n rr ww q => rr (rr q 1) 5 ≠ q ∧ ∀ k, k < 12 → w 6 k = ww (rr (rr q 1) 5) k)) (hs : ∀ (j : Nat) (r w : Dt) (sums : Nat → Int64) (ns : Nat) (sw : Nat → Dt) (np : Nat) (pw : Nat → Dt) (nf : Nat) (fw : Nat → Dt) (spw : Dt) (q : Nat) (t n : Nat → Nat) (rr : Nat → Nat → Nat) (ww : Dt), Rel j r w sums ns sw np pw nf fw spw q t n rr ww → ∀ (x : Int32) (y : Nat), y < 12 → (-3000) ≤ x.toInt → x.toInt ≤ 3000 → ∀ w2 : Dt, (∀ a k, ¬ (a = q ∧ k = 0) → w2 a k = up2 ww (rr (rr q 1) 5) y x a k) → Rel (j + 1) r (up2 (up2 w 6 y x) 5 3 ((up2 w 6 y x) 5 3 + (x - w 6 y))) sums ns sw np pw nf fw spw q t n rr w2) : SIM_setTurning Rel := by
  intro j r w sums ns sw np pw nf fw spw q t n rr ww hj hR x1 x2
  have e0 : ((-3000) : Int64).toInt = (-3000) := rfl
  have e9 : (3000 : Int64).toInt = 3000 := rfl
  have f0 : ((-3000) : Int32).toInt = (-3000) := rfl
  have f9 : (3000 : Int32).toInt = 3000 := rfl
  have ex : x2.toInt64.toInt = x2.toInt := Int32.toInt_toInt64 x2
  obtain ⟨h1, h2⟩ := hr j r w sums ns sw np pw nf fw spw q t n rr ww hR
  refine x_idx (k := 12) rfl (fun hin => x_rng (fun a b => ⟨hin, fun w1 e1 w3 e3 => ?_⟩) (fun hout => ⟨Or.inr rfl, ?_⟩)) (fun hout => ⟨Or.inl rfl, ?_⟩)
  · subst e1
    subst e3
    unfold MM_setTurning wp_X13_setTurning
    refine m_begins (t := t) (n := n) (rr := rr) (m_noBelt up2_q (fun _ => ⟨fun g => absurd rfl g, fun _ => m_in (fun _ _ => ⟨fun _ => ?_, fun g => absurd g (by decide)⟩) (fun g => absurd ⟨by omega, by omega⟩ g)⟩) (fun g => absurd hin g))
    refine m_ok up2_q ⟨fun _ => ⟨hin, fun v9 ev w9 e9 => ?_⟩, fun g => absurd rfl g⟩
    subst ev
    subst e9
    refine ⟨?_, fun _ => ?_, hs j r w sums ns sw np pw nf fw spw q t n rr ww hR x2 _ (vp_lt hin) (by omega) (by omega) _ (fun a k h => ?_)⟩
    · exact (if_neg (fun z => h1 z.1.symm)).trans up2_q
    · rw [h2 _ (vp_lt hin)]
      exact (up2_off _ _ fun z => h1 z.1).symm
    · by_cases z : a = rr (rr q 1) 5 ∧ k = x1.toNatClampNeg
      · exact (if_pos z).trans (if_pos z).symm
      · exact (if_neg z).trans ((up2_off _ _ h).trans (if_neg z).symm)
  · unfold MM_setTurning wp_X13_setTurning
    refine m_begins (t := t) (n := n) (rr := rr) (m_noBelt up2_q (fun _ => ⟨fun g => absurd rfl g, fun _ => m_in (fun a b => absurd ⟨by omega, by omega⟩ hout) (fun _ => ⟨fun g => absurd rfl g, fun _ => ?_⟩)⟩) (fun g => absurd hin g))
    exact m_bad up2_q (by decide) ⟨fun g => absurd g (by decide), fun _ => ⟨up2_q, fun h => absurd h (by decide), hT j r w sums ns sw np pw nf fw spw q t n rr ww hR _ up2_off2⟩⟩
  · unfold MM_setTurning wp_X13_setTurning
    exact m_begins (t := t) (n := n) (rr := rr) (m_noBelt up2_q (fun g => absurd g hout) (fun _ => ⟨fun _ => ⟨up2_q, fun h => absurd h (by decide), hT j r w sums ns sw np pw nf fw spw q t n rr ww hR _ up2_off2⟩, fun g => absurd g (by decide)⟩))
