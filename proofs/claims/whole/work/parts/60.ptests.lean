/-! THE PURE SIDE: tests -/
theorem lg_lt0 (x y : Int64) : lg_cmp x y < 0 ↔ x.toInt < y.toInt := by
  unfold lg_cmp
  simp only [gt_iff_lt, Int64.lt_iff_toInt_lt, ← Int64.toInt_inj]
  split
  · constructor
    · intro h
      exact absurd h (by decide)
    · intro h
      omega
  · split
    · constructor
      · intro h
        exact absurd h (by decide)
      · intro h
        omega
    · constructor
      · intro h
        omega
      · intro h
        decide
theorem lg_gt0 (x y : Int64) : 0 < lg_cmp x y ↔ y.toInt < x.toInt := by
  unfold lg_cmp
  simp only [gt_iff_lt, Int64.lt_iff_toInt_lt, ← Int64.toInt_inj]
  split
  · constructor
    · intro h
      omega
    · intro h
      decide
  · split
    · constructor
      · intro h
        exact absurd h (by decide)
      · intro h
        omega
    · constructor
      · intro h
        exact absurd h (by decide)
      · intro h
        omega
section PUREM
variable {t n : Nat → Nat} {rr : Nat → Nat → Nat} {ww : Dt} {q : Nat}
theorem m_in {post : Int32 → Prop} {v lo hi : Int64} (h1 : lo.toInt ≤ v.toInt → v.toInt ≤ hi.toInt → post 1) (h0 : ¬ (lo.toInt ≤ v.toInt ∧ v.toInt ≤ hi.toInt) → post 0) : wp_X13_in post t n rr ww v lo hi := by
  refine ⟨fun h => ?_, fun h => ⟨fun g => ?_, fun g => ?_⟩⟩
  · rw [lg_lt0] at h
    exact ⟨rfl, h0 (by omega)⟩
  · rw [lg_gt0] at g
    exact ⟨rfl, h0 (by omega)⟩
  · rw [lg_lt0] at h
    rw [lg_gt0] at g
    exact ⟨rfl, h1 (by omega) (by omega)⟩
theorem m_begins {post : Dt → Prop} (h : post (up2 ww q 0 0)) : wp_X13_begins post t n rr ww q := fun w e => by
  subst e
  exact h
theorem m_ok {post : Int32 → Dt → Prop} {k : Int32} (h0 : ww q 0 = 0) (h : post 0 ww) : wp_X13_fails post t n rr ww q 0 k := by
  refine ⟨fun g => absurd h0 g, fun _ => ⟨fun _ => ⟨fun _ => ⟨rfl, h⟩, fun g => ?_⟩, fun g => absurd rfl g⟩⟩
  rw [h0] at g
  exact absurd (by decide) g
theorem m_bad {post : Int32 → Dt → Prop} {k : Int32} (h0 : ww q 0 = 0) (hk : ¬ k ≤ 0) (h : post 1 (up2 ww q 0 k)) : wp_X13_fails post t n rr ww q 1 k := by
  refine ⟨fun g => absurd h0 g, fun _ => ⟨fun g => absurd g (by decide), fun _ w e => ?_⟩⟩
  subst e
  have e9 : up2 ww q 0 k q 0 = k := by simp [up2]
  refine ⟨fun g => ?_, fun _ => ⟨rfl, h⟩⟩
  rw [e9] at g
  exact absurd g hk
theorem up2_q {w : Dt} {i k : Nat} {x : Int32} : up2 w i k x i k = x := by simp [up2]
theorem vp_i64 {x : Int32} {N : Nat} : vp_in x N ↔ 0 ≤ x.toInt64.toInt ∧ x.toInt64.toInt < N := by
  rw [vp_in_iff, Int32.toInt_toInt64]
theorem m_noLevel {post : Int32 → Dt → Prop} {x : Int32} (h0 : ww q 0 = 0) (h1 : vp_in x 10 → post 0 ww) (h2 : ¬ vp_in x 10 → post 1 (up2 ww q 0 1)) : wp_X13_noLevel post t n rr ww q x := by
  refine m_in (fun a b => ?_) (fun a => ?_)
  · refine ⟨fun _ => m_ok h0 ⟨rfl, h1 ?_⟩, fun g => absurd g (by decide)⟩
    rw [vp_i64]
    have e0 : (0 : Int64).toInt = 0 := rfl
    have e9 : (9 : Int64).toInt = 9 := rfl
    omega
  · refine ⟨fun g => absurd rfl g, fun _ => m_bad h0 (by decide) ⟨rfl, h2 ?_⟩⟩
    rw [vp_i64]
    have e0 : (0 : Int64).toInt = 0 := rfl
    have e9 : (9 : Int64).toInt = 9 := rfl
    omega
theorem m_noBelt {post : Int32 → Dt → Prop} {x : Int32} (h0 : ww q 0 = 0) (h1 : vp_in x 12 → post 0 ww) (h2 : ¬ vp_in x 12 → post 1 (up2 ww q 0 1)) : wp_X13_noBelt post t n rr ww q x := by
  refine m_in (fun a b => ?_) (fun a => ?_)
  · refine ⟨fun _ => m_ok h0 ⟨rfl, h1 ?_⟩, fun g => absurd g (by decide)⟩
    rw [vp_i64]
    have e0 : (0 : Int64).toInt = 0 := rfl
    have e9 : (11 : Int64).toInt = 11 := rfl
    omega
  · refine ⟨fun g => absurd rfl g, fun _ => m_bad h0 (by decide) ⟨rfl, h2 ?_⟩⟩
    rw [vp_i64]
    have e0 : (0 : Int64).toInt = 0 := rfl
    have e9 : (11 : Int64).toInt = 11 := rfl
    omega
theorem m_noVapour {post : Int32 → Dt → Prop} {x y : Int32} (h0 : ww q 0 = 0) (h1 : vp_in x 10 → vp_in y 3 → post 0 ww) (h2 : ¬ (vp_in x 10 ∧ vp_in y 3) → post 1 (up2 ww q 0 1)) : wp_X13_noVapour post t n rr ww q x y := by
  have e0 : (0 : Int64).toInt = 0 := rfl
  have e9 : (9 : Int64).toInt = 9 := rfl
  have e2 : (2 : Int64).toInt = 2 := rfl
  refine m_in (fun a b => ?_) (fun a => ?_)
  · refine ⟨fun g => absurd g (by decide), fun _ => m_in (fun a2 b2 => ?_) (fun a2 => ?_)⟩
    · refine ⟨fun _ => m_ok h0 ⟨rfl, h1 ?_ ?_⟩, fun g => absurd g (by decide)⟩
      · rw [vp_i64]
        omega
      · rw [vp_i64]
        omega
    · refine ⟨fun g => absurd rfl g, fun _ => m_bad h0 (by decide) ⟨rfl, h2 fun z => a2 ?_⟩⟩
      have := vp_i64.mp z.2
      omega
  · refine ⟨fun _ => m_bad h0 (by decide) ⟨rfl, h2 fun z => a ?_⟩, fun g => absurd rfl g⟩
    have := vp_i64.mp z.1
    omega
end PUREM
theorem x_idx {post : Unit → Prop} {xpost : Nat → Prop} {x N : Int32} {k : Nat} (hN : N.toInt = k) (h1 : vp_in x k → post ()) (h2 : ¬ vp_in x k → xpost 0) : wp_X8_checkIndex post xpost x N := by
  have e0 : (0 : Int32).toInt = 0 := rfl
  refine ⟨fun h => h2 fun z => z (Or.inl h), fun h => ⟨fun g => h1 (vp_in_iff.mpr ?_), fun g => h2 fun z => g ?_⟩⟩
  · rw [Int32.lt_iff_toInt_lt] at h g
    omega
  · rw [Int32.lt_iff_toInt_lt]
    have := vp_in_iff.mp z
    omega
theorem x_rng {post : Unit → Prop} {xpost : Nat → Prop} {x lo hi : Int32} (h1 : lo.toInt ≤ x.toInt → x.toInt ≤ hi.toInt → post ()) (h2 : ¬ (lo.toInt ≤ x.toInt ∧ x.toInt ≤ hi.toInt) → xpost 1) : wp_X8_checkRange post xpost x lo hi := by
  refine ⟨fun h => h2 ?_, fun h => ⟨fun g => h1 ?_ ?_, fun g => h2 ?_⟩⟩ <;> simp only [Int32.lt_iff_toInt_lt, Int32.le_iff_toInt_le] at * <;> omega
/-- the number of what was thrown may change -/
def R_T (Rel : RLT) : Prop := ∀ (j : Nat) (r w : Dt) (sums : Nat → Int64) (ns : Nat) (sw : Nat → Dt) (np : Nat) (pw : Nat → Dt) (nf : Nat) (fw : Nat → Dt) (spw : Dt) (q : Nat) (t n : Nat → Nat) (rr : Nat → Nat → Nat) (ww : Dt), Rel j r w sums ns sw np pw nf fw spw q t n rr ww → ∀ w2 : Dt, (∀ x y, ¬ (x = q ∧ y = 0) → w2 x y = ww x y) → Rel (j + 1) r w sums ns sw np pw nf fw spw q t n rr w2
def R_rd (Rel : RLT) (f : Dt → (Nat → Nat) → (Nat → Nat → Nat) → Dt → Nat → Prop) : Prop := ∀ (j : Nat) (r w : Dt) (sums : Nat → Int64) (ns : Nat) (sw : Nat → Dt) (np : Nat) (pw : Nat → Dt) (nf : Nat) (fw : Nat → Dt) (spw : Dt) (q : Nat) (t n : Nat → Nat) (rr : Nat → Nat → Nat) (ww : Dt), Rel j r w sums ns sw np pw nf fw spw q t n rr ww → f w n rr ww q
theorem up2_off {w : Dt} {q : Nat} {v : Int32} : ∀ x y, ¬ (x = q ∧ y = 0) → up2 w q 0 v x y = w x y := fun x y h => if_neg h
theorem up2_off2 {w : Dt} {q : Nat} {u v : Int32} : ∀ x y, ¬ (x = q ∧ y = 0) → up2 (up2 w q 0 u) q 0 v x y = w x y := fun x y h => (if_neg h).trans (if_neg h)
theorem sim_getTemperature (Rel : RLT) (hT : R_T Rel) (hr : R_rd Rel (fun w n rr ww q => rr (rr q 1) 0 ≠ q ∧ ∀ k, k < 10 → w 2 k = ww (rr (rr q 1) 0) k)) : SIM_getTemperature Rel := by
  intro j r w sums ns sw np pw nf fw spw q t n rr ww hj hR x1
  refine x_idx (k := 10) rfl (fun hin => ⟨hin, ?_⟩) (fun hout => ⟨rfl, ?_⟩)
  · unfold MM_getTemperature wp_X13_getTemperature
    refine m_begins (t := t) (n := n) (rr := rr) (m_noLevel up2_q (fun _ => ⟨fun _ => ⟨hin, up2_q, fun _ => ?_, hT j r w sums ns sw np pw nf fw spw q t n rr ww hR _ up2_off⟩, fun h => absurd rfl h⟩) (fun h => absurd hin h))
    obtain ⟨h1, h2⟩ := hr j r w sums ns sw np pw nf fw spw q t n rr ww hR
    rw [h2 _ (vp_lt hin)]
    exact (up2_off _ _ fun z => h1 z.1).symm
  · unfold MM_getTemperature wp_X13_getTemperature
    refine m_begins (t := t) (n := n) (rr := rr) (m_noLevel up2_q (fun h => absurd h hout) (fun _ => ⟨fun h => absurd h (by decide), fun _ => ⟨up2_q, fun h => absurd h (by decide), hT j r w sums ns sw np pw nf fw spw q t n rr ww hR _ up2_off2⟩⟩))
theorem sim_getVapour (Rel : RLT) (hT : R_T Rel) (hr : R_rd Rel (fun w n rr ww q => ∀ k, k < 10 → rr (rr (rr q 1) 1) k ≠ q ∧ ∀ v, v < 3 → w (k + 22) v = ww (rr (rr (rr q 1) 1) k) v)) : SIM_getVapour Rel := by
  intro j r w sums ns sw np pw nf fw spw q t n rr ww hj hR x1 x2
  have hbad : ¬ (vp_in x1 10 ∧ vp_in x2 3) → MM_getVapour Rel j r w sums ns sw np pw nf fw spw q t n rr ww x1 x2 1 0 := fun hout => by
    unfold MM_getVapour wp_X13_getVapour
    exact m_begins (t := t) (n := n) (rr := rr) (m_noVapour up2_q (fun h g => absurd ⟨h, g⟩ hout) (fun _ => ⟨fun h => absurd h (by decide), fun _ => ⟨up2_q, fun h => absurd h (by decide), hT j r w sums ns sw np pw nf fw spw q t n rr ww hR _ up2_off2⟩⟩))
  refine x_idx (k := 10) rfl (fun hin => x_idx (k := 3) rfl (fun hin2 => ⟨hin, hin2, ?_⟩) (fun hout => ⟨rfl, hbad fun z => hout z.2⟩)) (fun hout => ⟨rfl, hbad fun z => hout z.1⟩)
  unfold MM_getVapour wp_X13_getVapour
  refine m_begins (t := t) (n := n) (rr := rr) (m_noVapour up2_q (fun _ _ => ⟨fun _ => ⟨hin, hin2, up2_q, fun _ => ?_, hT j r w sums ns sw np pw nf fw spw q t n rr ww hR _ up2_off⟩, fun h => absurd rfl h⟩) (fun h => absurd ⟨hin, hin2⟩ h))
  obtain ⟨h1, h2⟩ := hr j r w sums ns sw np pw nf fw spw q t n rr ww hR _ (vp_lt hin)
  rw [h2 _ (vp_lt hin2)]
  exact (up2_off _ _ fun z => h1 z.1).symm
theorem sim_getIce (Rel : RLT) (hT : R_T Rel) (hr : R_rd Rel (fun w n rr ww q => ∀ k, k < 10 → rr (rr (rr q 1) 2) k ≠ q ∧ ∀ v, v < 3 → w (k + 32) v = ww (rr (rr (rr q 1) 2) k) v)) : SIM_getIce Rel := by
  intro j r w sums ns sw np pw nf fw spw q t n rr ww hj hR x1 x2
  have hbad : ¬ (vp_in x1 10 ∧ vp_in x2 3) → MM_getIce Rel j r w sums ns sw np pw nf fw spw q t n rr ww x1 x2 1 0 := fun hout => by
    unfold MM_getIce wp_X13_getIce
    exact m_begins (t := t) (n := n) (rr := rr) (m_noVapour up2_q (fun h g => absurd ⟨h, g⟩ hout) (fun _ => ⟨fun h => absurd h (by decide), fun _ => ⟨up2_q, fun h => absurd h (by decide), hT j r w sums ns sw np pw nf fw spw q t n rr ww hR _ up2_off2⟩⟩))
  refine x_idx (k := 10) rfl (fun hin => x_idx (k := 3) rfl (fun hin2 => ⟨hin, hin2, ?_⟩) (fun hout => ⟨rfl, hbad fun z => hout z.2⟩)) (fun hout => ⟨rfl, hbad fun z => hout z.1⟩)
  unfold MM_getIce wp_X13_getIce
  refine m_begins (t := t) (n := n) (rr := rr) (m_noVapour up2_q (fun _ _ => ⟨fun _ => ⟨hin, hin2, up2_q, fun _ => ?_, hT j r w sums ns sw np pw nf fw spw q t n rr ww hR _ up2_off⟩, fun h => absurd rfl h⟩) (fun h => absurd ⟨hin, hin2⟩ h))
  obtain ⟨h1, h2⟩ := hr j r w sums ns sw np pw nf fw spw q t n rr ww hR _ (vp_lt hin)
  rw [h2 _ (vp_lt hin2)]
  exact (up2_off _ _ fun z => h1 z.1).symm
theorem sim_getTurning (Rel : RLT) (hT : R_T Rel) (hr : R_rd Rel (fun w n rr ww q => rr (rr q 1) 5 ≠ q ∧ ∀ k, k < 12 → w 6 k = ww (rr (rr q 1) 5) k)) : SIM_getTurning Rel := by
  intro j r w sums ns sw np pw nf fw spw q t n rr ww hj hR x1
  refine x_idx (k := 12) rfl (fun hin => ⟨hin, ?_⟩) (fun hout => ⟨rfl, ?_⟩)
  · unfold MM_getTurning wp_X13_getTurning
    refine m_begins (t := t) (n := n) (rr := rr) (m_noBelt up2_q (fun _ => ⟨fun _ => ⟨hin, up2_q, fun _ => ?_, hT j r w sums ns sw np pw nf fw spw q t n rr ww hR _ up2_off⟩, fun h => absurd rfl h⟩) (fun h => absurd hin h))
    obtain ⟨h1, h2⟩ := hr j r w sums ns sw np pw nf fw spw q t n rr ww hR
    rw [h2 _ (vp_lt hin)]
    exact (up2_off _ _ fun z => h1 z.1).symm
  · unfold MM_getTurning wp_X13_getTurning
    refine m_begins (t := t) (n := n) (rr := rr) (m_noBelt up2_q (fun h => absurd h hout) (fun _ => ⟨fun h => absurd h (by decide), fun _ => ⟨up2_q, fun h => absurd h (by decide), hT j r w sums ns sw np pw nf fw spw q t n rr ww hR _ up2_off2⟩⟩))
theorem sim_getRadiated (Rel : RLT) (hT : R_T Rel) (hr : R_rd Rel (fun w n rr ww q => rr q 1 ≠ q ∧ w 1 4 = ww (rr q 1) 4)) : SIM_getRadiated Rel := by
  intro j r w sums ns sw np pw nf fw spw q t n rr ww hj hR
  obtain ⟨h1, h2⟩ := hr j r w sums ns sw np pw nf fw spw q t n rr ww hR
  unfold MM_getRadiated wp_X13_getRadiated
  refine m_begins (t := t) (n := n) (rr := rr) ⟨?_, hT j r w sums ns sw np pw nf fw spw q t n rr ww hR _ up2_off⟩
  rw [h2]
  exact (up2_off _ _ fun z => h1 z.1).symm
theorem sim_getDeep (Rel : RLT) (hT : R_T Rel) (hr : R_rd Rel (fun w n rr ww q => rr q 1 ≠ q ∧ w 5 2 = ww (rr q 1) 7)) : SIM_getDeep Rel := by
  intro j r w sums ns sw np pw nf fw spw q t n rr ww hj hR
  obtain ⟨h1, h2⟩ := hr j r w sums ns sw np pw nf fw spw q t n rr ww hR
  unfold MM_getDeep wp_X13_getDeep
  refine m_begins (t := t) (n := n) (rr := rr) ⟨?_, hT j r w sums ns sw np pw nf fw spw q t n rr ww hR _ up2_off⟩
  rw [h2]
  exact (up2_off _ _ fun z => h1 z.1).symm
