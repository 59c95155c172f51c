/-! THE PURE SIDE: sent, lost, countSeen -/
theorem x_probe {post : Nat → Prop} {xpost : Nat → Prop} {r : Dt} {np : Nat} {pw : Nat → Dt} {x : Int32} (hC : np ≤ 4) (hw : r 0 6 = nI np) (h1 : vp_in x np → post x.toNatClampNeg) (h2 : ¬ vp_in x np → xpost 0) : wp_X8_probeAt post xpost r np pw x := by
  unfold wp_X8_probeAt
  rw [hw, x_min (N := 4) (a := 4) hC (by decide) rfl]
  exact x_idx (k := np) (nI_toInt (by omega)) (fun hin => ⟨vp_mono hin hC, fun _ => h1 hin, fun g => absurd (vp_lt hin) g⟩) h2
theorem x_frm {post : Nat → Prop} {xpost : Nat → Prop} {r : Dt} {nf : Nat} {fw : Nat → Dt} {x : Int32} (hC : nf ≤ 6) (hw : r 0 8 = nI nf) (h1 : vp_in x nf → post x.toNatClampNeg) (h2 : ¬ vp_in x nf → xpost 0) : wp_X8_frameAt post xpost r nf fw x := by
  unfold wp_X8_frameAt
  rw [hw, x_min (N := 6) (a := 6) hC (by decide) rfl]
  exact x_idx (k := nf) (nI_toInt (by omega)) (fun hin => ⟨vp_mono hin hC, fun _ => h1 hin, fun g => absurd (vp_lt hin) g⟩) h2
section PUREP
variable {t n : Nat → Nat} {rr : Nat → Nat → Nat} {ww : Dt} {q : Nat}
theorem m_noProbe {post : Int32 → Dt → Prop} {x : Int32} {C : Nat} (h0 : ww q 0 = 0) (hn : n (rr q 3) = C) (hC : C ≤ 1000) (h1 : vp_in x C → post 0 ww) (h2 : ¬ vp_in x C → post 1 (up2 ww q 0 1)) : wp_X13_noProbe post t n rr ww q x := by
  subst hn
  exact m_isOf hC (fun a => ⟨fun _ => m_ok h0 ⟨rfl, h1 a⟩, fun g => absurd g (by decide)⟩) (fun a => ⟨fun g => absurd rfl g, fun _ => m_bad h0 (by decide) ⟨rfl, h2 a⟩⟩)
theorem m_noFrame {post : Int32 → Dt → Prop} {x : Int32} {C : Nat} (h0 : ww q 0 = 0) (hn : n (rr q 4) = C) (hC : C ≤ 1000) (h1 : vp_in x C → post 0 ww) (h2 : ¬ vp_in x C → post 1 (up2 ww q 0 1)) : wp_X13_noFrame post t n rr ww q x := by
  subst hn
  exact m_isOf hC (fun a => ⟨fun _ => m_ok h0 ⟨rfl, h1 a⟩, fun g => absurd g (by decide)⟩) (fun a => ⟨fun g => absurd rfl g, fun _ => m_bad h0 (by decide) ⟨rfl, h2 a⟩⟩)
end PUREP
theorem sim_sent (Rel : RLT) (hT : R_T Rel) (hr : ∀ (j : Nat) (r w : Dt) (sums : Nat → Int64) (ns : Nat) (sw : Nat → Dt) (np : Nat) (pw : Nat → Dt) (nf : Nat) (fw : Nat → Dt) (spw : Dt) (q : Nat) (t n : Nat → Nat) (rr : Nat → Nat → Nat) (ww : Dt), Rel j r w sums ns sw np pw nf fw spw q t n rr ww → np ≤ 4 ∧ r 0 6 = nI np ∧ n (rr q 3) = np ∧ ∀ k, k < np → pw k 0 13 = nI (n (rr (rr (rr q 3) k) 9))) : SIM_sent Rel := by
  intro j r w sums ns sw np pw nf fw spw q t n rr ww hj hR x1
  obtain ⟨hC, hw0, hn, hst⟩ := hr j r w sums ns sw np pw nf fw spw q t n rr ww hR
  refine x_probe hC hw0 (fun hin => ?_) (fun hout => ⟨rfl, ?_⟩)
  · unfold MM_sent wp_X13_sent
    refine m_begins (t := t) (n := n) (rr := rr) (m_noProbe up2_q hn (by omega) (fun _ => ⟨fun _ => ⟨hn.symm ▸ hin, up2_q, fun _ => ?_, hT j r w sums ns sw np pw nf fw spw q t n rr ww hR _ up2_off⟩, fun h => absurd rfl h⟩) (fun h => absurd hin h))
    exact hst _ (vp_lt hin)
  · unfold MM_sent wp_X13_sent
    exact m_begins (t := t) (n := n) (rr := rr) (m_noProbe up2_q hn (by omega) (fun h => absurd h hout) (fun _ => ⟨fun h => absurd h (by decide), fun _ => ⟨up2_q, fun h => absurd h (by decide), hT j r w sums ns sw np pw nf fw spw q t n rr ww hR _ up2_off2⟩⟩))
theorem sim_lost (Rel : RLT) (hT : R_T Rel) (hr : ∀ (j : Nat) (r w : Dt) (sums : Nat → Int64) (ns : Nat) (sw : Nat → Dt) (np : Nat) (pw : Nat → Dt) (nf : Nat) (fw : Nat → Dt) (spw : Dt) (q : Nat) (t n : Nat → Nat) (rr : Nat → Nat → Nat) (ww : Dt), Rel j r w sums ns sw np pw nf fw spw q t n rr ww → np ≤ 4 ∧ r 0 6 = nI np ∧ n (rr q 3) = np ∧ ∀ k, k < np → rr (rr q 3) k ≠ q ∧ pw k 0 14 = ww (rr (rr q 3) k) 7) : SIM_lost Rel := by
  intro j r w sums ns sw np pw nf fw spw q t n rr ww hj hR x1
  obtain ⟨hC, hw0, hn, hst⟩ := hr j r w sums ns sw np pw nf fw spw q t n rr ww hR
  refine x_probe hC hw0 (fun hin => ?_) (fun hout => ⟨rfl, ?_⟩)
  · unfold MM_lost wp_X13_lost
    refine m_begins (t := t) (n := n) (rr := rr) (m_noProbe up2_q hn (by omega) (fun _ => ⟨fun _ => ⟨hn.symm ▸ hin, up2_q, fun _ => ?_, hT j r w sums ns sw np pw nf fw spw q t n rr ww hR _ up2_off⟩, fun h => absurd rfl h⟩) (fun h => absurd hin h))
    obtain ⟨g1, g2⟩ := hst _ (vp_lt hin)
    rw [g2]
    exact (up2_off _ _ fun z => g1 z.1).symm
  · unfold MM_lost wp_X13_lost
    exact m_begins (t := t) (n := n) (rr := rr) (m_noProbe up2_q hn (by omega) (fun h => absurd h hout) (fun _ => ⟨fun h => absurd h (by decide), fun _ => ⟨up2_q, fun h => absurd h (by decide), hT j r w sums ns sw np pw nf fw spw q t n rr ww hR _ up2_off2⟩⟩))
theorem sim_countSeen (Rel : RLT) (hT : R_T Rel) (hr : ∀ (j : Nat) (r w : Dt) (sums : Nat → Int64) (ns : Nat) (sw : Nat → Dt) (np : Nat) (pw : Nat → Dt) (nf : Nat) (fw : Nat → Dt) (spw : Dt) (q : Nat) (t n : Nat → Nat) (rr : Nat → Nat → Nat) (ww : Dt), Rel j r w sums ns sw np pw nf fw spw q t n rr ww → nf ≤ 6 ∧ r 0 8 = nI nf ∧ n (rr q 4) = nf ∧ ∀ k, k < nf → fw k 0 1 = nI (n (rr (rr (rr q 4) k) 1))) : SIM_countSeen Rel := by
  intro j r w sums ns sw np pw nf fw spw q t n rr ww hj hR x1
  obtain ⟨hC, hw0, hn, hst⟩ := hr j r w sums ns sw np pw nf fw spw q t n rr ww hR
  refine x_frm hC hw0 (fun hin => ?_) (fun hout => ⟨rfl, ?_⟩)
  · unfold MM_countSeen wp_X13_countSeen
    refine m_begins (t := t) (n := n) (rr := rr) (m_noFrame up2_q hn (by omega) (fun _ => ⟨fun _ => ⟨hn.symm ▸ hin, up2_q, fun _ => ?_, hT j r w sums ns sw np pw nf fw spw q t n rr ww hR _ up2_off⟩, fun h => absurd rfl h⟩) (fun h => absurd hin h))
    exact hst _ (vp_lt hin)
  · unfold MM_countSeen wp_X13_countSeen
    exact m_begins (t := t) (n := n) (rr := rr) (m_noFrame up2_q hn (by omega) (fun h => absurd h hout) (fun _ => ⟨fun h => absurd h (by decide), fun _ => ⟨up2_q, fun h => absurd h (by decide), hT j r w sums ns sw np pw nf fw spw q t n rr ww hR _ up2_off2⟩⟩))
