/-! THE PURE SIDE: saves and loads -/
set_option maxHeartbeats 4000000 in
theorem sim_save : SIM_save RELF := by
  intro j r w sums ns sw np pw nf fw spw q t n rr ww hj hR
  obtain ⟨ow, h0⟩ := id hR
  have h := h0.beg
  obtain ⟨hr1, hr2, hr3⟩ := h.rs
  unfold wp_X8_save
  rw [hr1]
  refine x_room (C := ns) (N := 3) rfl (by omega) (by omega) (fun hlt => ⟨rfl, hlt, x_copyFrom h.iv (fun v hv => h.iv.sum ?_)⟩) (fun hge => ⟨rfl, ?_⟩)
  · unfold MM_save wp_X13_save
    refine m_begins (t := t) (n := n) (rr := rr) ⟨fun _ => m_ok up2_q ⟨fun _ => ⟨100, 1300, by omega, by omega, ?_⟩, fun z => absurd rfl z⟩, fun z => ?_⟩
    · have hfree : ∀ c, ¬ (2000 + 1000 * ns < ow c ∧ ow c < 2000 + 1000 * ns + 100) := fun c z => by
        have := h.cap c
        omega
      refine m_copy (Nat.le_refl _) h.wr h.iv h.fr (b' := 2000 + 1000 * ns) (by omega) hfree ⟨Nat.le_refl _, Nat.le_refl _⟩ (fun a' ow' t' n' rr' ww' hg => ?_)
      have old : ∀ c, ow c ≠ 0 → ow' c = ow c ∧ n' c = n c ∧ rr' c = rr c ∧ ww' c = up2 ww q 0 0 c := fun c hc => hg.ko c hc (hfree c)
      have hq := old q (by rw [h.oq]; omega)
      have h2 := old (rr q 2) (by rw [h.o2]; omega)
      have erq : rr' q 2 = rr q 2 := by rw [hq.2.2.1]
      have en : n' (rr q 2) = ns := h2.2.1.trans hr3
      have er2 : rr' (rr q 2) = rr (rr q 2) := h2.2.2.1
      have hq2 : q ≠ rr q 2 := Ne.symm (h.ne (by rw [h.o2]; omega))
      rw [en]
      refine ⟨by omega, by omega, by omega, fun n24 e24 r25 e25 w26 e26 => ?_⟩
      have hk : ∀ c, c ≠ rr q 2 → n24 c = n' c ∧ r25 c = rr' c ∧ w26 c = ww' c := fun c hc => ⟨by rw [e24, vup_ne hc], by rw [e25, vup_ne hc], by rw [e26, up2_ne hc]⟩
      have hk2 : ∀ c, ow c ≠ 0 → ow c ≠ 2 → ow' c = ow c ∧ n24 c = n c ∧ r25 c = rr c ∧ w26 c = up2 ww q 0 0 c := fun c h0 h2 => by
        obtain ⟨a1, a2, a3, a4⟩ := old c h0
        obtain ⟨b1, b2, b3⟩ := hk c (fun z => h2 (by rw [z]; exact h.o2))
        exact ⟨a1, b1.trans a2, b2.trans a3, b3.trans a4⟩
      have eq := hk2 q (by rw [h.oq]; omega) (by rw [h.oq]; omega)
      have e3 := hk2 (rr q 3) (by rw [h.o3]; omega) (by rw [h.o3]; omega)
      have e4 := hk2 (rr q 4) (by rw [h.o4]; omega) (by rw [h.o4]; omega)
      have erq' : r25 q = rr q := eq.2.2.1
      have n2 : n24 (rr q 2) = ns + 1 := by rw [e24, vup_eq]
      have r2 : r25 (rr q 2) = va_up (rr (rr q 2)) ns a' := by rw [e25, vup_eq, er2]
      have harg : nI (n24 (r25 q 2)) - 1 = nI ns := by
        rw [erq', n2, nI_succ]
        exact q_r1 _
      have hnew : WR ow' n24 r25 w26 (2000 + 1000 * ns) a' v := by
        refine (hg.wr.keep (fun c hc => ?_)).cg (fun p k hd _ _ => hv p k hd)
        have hcn : c ≠ rr q 2 := fun z => by
          rw [z, h2.1, h.o2] at hc
          omega
        exact ⟨rfl, hk c hcn⟩
      rw [harg]
      refine ⟨by rw [eq.2.2.2]; exact up2_q, fun _ => rfl, ow', hg.fr, eq.1.trans h.oq, by rw [erq', h2.1, h.o2], by rw [erq', e3.1, h.o3], by rw [erq', e4.1, h.o4], ?_, h.iv.mono, ?_, fun i hi => ?_, ?_, fun i hi => ?_, ?_, fun i hi => ?_, fun c => ?_⟩
      · rw [erq']
        exact h.wr.keep (fun c hc => hk2 c (by omega) (by omega))
      · exact ⟨by rw [up2_eq, nI_succ], by omega, by rw [erq', n2]⟩
      · rw [erq', r2]
        by_cases z : i = ns
        · subst z
          rw [vup_eq, vup_eq, vup_eq]
          exact ⟨hnew, INV.cg h.iv.mono hv, (fSum_cg (INVj.cnt h.iv) hv).symm⟩
        · rw [vup_ne z, vup_ne z, vup_ne z]
          obtain ⟨s1, s2, s3⟩ := h.sv i (by omega)
          exact ⟨s1.keep (fun c hc => hk2 c (by omega) (by omega)), s2.mono, s3⟩
      · exact ⟨by rw [up2_nk (by omega)]; exact h.rp.1, h.rp.2.1, by rw [erq', e3.2.1]; exact h.rp.2.2⟩
      · obtain ⟨tk, lvl, hp⟩ := h.pb i hi
        rw [erq', e3.2.2.1]
        exact ⟨tk, lvl, hp.keep (fun c hc => hk2 c (by omega) (by omega))⟩
      · exact ⟨by rw [up2_nk (by omega)]; exact h.rf.1, h.rf.2.1, by rw [erq', e4.2.1]; exact h.rf.2.2⟩
      · rw [erq', e4.2.2.1]
        exact (h.mono.fb i hi).keep (fun c hc => hk2 c (by omega) (by omega))
      · have := h.cap c
        rcases hg.nw c with z | z | z
        · rw [z]
          omega
        · omega
        · omega
    · rw [hr3] at z
      have := nI_inj (by omega) (by omega) (show nI ns = nI 3 from z)
      omega
  · unfold MM_save wp_X13_save
    refine m_begins (t := t) (n := n) (rr := rr) ⟨fun z => absurd ?_ z, fun _ => m_bad up2_q (by decide) ⟨fun z => absurd z (by decide), fun _ => ⟨up2_q, fun z => absurd z (by decide), rf_T j r w sums ns sw np pw nf fw spw q t n rr ww hR _ up2_off2⟩⟩⟩
    rw [hr3, show ns = 3 by omega]
    rfl
set_option maxHeartbeats 8000000 in
theorem sim_load : SIM_load RELF := by
  intro j r w sums ns sw np pw nf fw spw q t n rr ww hj hR x1
  obtain ⟨ow, h0⟩ := id hR
  have h := h0.beg
  obtain ⟨hr1, hr2, hr3⟩ := h.rs
  unfold wp_X8_load
  rw [hr1, x_min (N := 3) (a := 3) hr2 (by decide) rfl]
  refine x_idx (k := ns) (nI_toInt (by omega)) (fun hin => ⟨vp_mono hin hr2, fun hlt => ?_, fun z => absurd (vp_lt hin) z⟩) (fun hout => ⟨rfl, ?_⟩)
  · obtain ⟨s1, s2, s3⟩ := h.sv x1.toNatClampNeg hlt
    refine x_copyFrom s2 (fun v hv => ?_)
    have ivv : INVj j v := INV.cg s2 hv
    refine ivv.sum ?_
    rw [fSum_cg (INVj.cnt s2) hv]
    unfold MM_load wp_X13_load
    refine m_begins (t := t) (n := n) (rr := rr) (m_isOf (by omega) (fun _ => ⟨fun _ => m_ok up2_q ⟨fun _ => ⟨by rw [hr3]; exact hin, 100, 1300, by omega, by omega, ?_⟩, fun z => absurd rfl z⟩, fun z => absurd z (by decide)⟩) (fun z => absurd (by rw [hr3]; exact hin) z))
    -- the present world's cells are no one's from here on
    have hO : ∃ ow1 : Nat → Nat, (∀ c, ow1 c = if 1000 < ow c ∧ ow c < 1100 then 0 else ow c) := ⟨_, fun c => rfl⟩
    obtain ⟨ow1, ho1⟩ := hO
    have hkeep : ∀ c, ¬ (1000 < ow c ∧ ow c < 1100) → ow1 c = ow c := fun c hc => by rw [ho1, if_neg hc]
    have hne : ∀ c, ow1 c ≠ 0 → ow c ≠ 0 ∧ ow1 c = ow c := fun c hc => by
      by_cases z : 1000 < ow c ∧ ow c < 1100
      · rw [ho1, if_pos z] at hc
        exact absurd rfl hc
      · have e := hkeep c z
        rw [e] at hc
        exact ⟨hc, e⟩
    have hfree : ∀ c, ¬ (1000 < ow1 c ∧ ow1 c < 1000 + 100) := fun c z => by
      obtain ⟨a1, a2⟩ := hne c (by omega)
      by_cases y : 1000 < ow c ∧ ow c < 1100
      · rw [ho1, if_pos y] at z
        omega
      · omega
    have s1' : WR ow1 n rr (up2 ww q 0 0) (2000 + 1000 * x1.toNatClampNeg) (rr (rr q 2) x1.toNatClampNeg) (sw x1.toNatClampNeg) := s1.keep (fun c hc => ⟨hkeep c (by omega), rfl, rfl, rfl⟩)
    refine m_copy (by omega) s1' s2 (fun c hc => h.fr c (hne c hc).1) (b' := 1000) (Nat.le_refl _) hfree ⟨Nat.le_refl _, Nat.le_refl _⟩ (fun a' ow' t' n' rr' ww' hg => ?_)
    have old : ∀ c, ow c ≠ 0 → ¬ (1000 < ow c ∧ ow c < 1100) → ow' c = ow c ∧ n' c = n c ∧ rr' c = rr c ∧ ww' c = up2 ww q 0 0 c := fun c hc hc2 => by
      have e := hkeep c hc2
      have := hg.ko c (by rw [e]; exact hc) (hfree c)
      rw [e] at this
      exact this
    have hq := old q (by rw [h.oq]; omega) (by rw [h.oq]; omega)
    intro r23 e23
    have er : r23 q = va_up (rr q) 1 a' := by rw [e23, vup_eq, hq.2.2.1]
    have erk : ∀ c, c ≠ q → r23 c = rr' c := fun c hc => by rw [e23, vup_ne hc]
    have er1 : r23 q 1 = a' := by rw [er, vup_eq]
    have er2 : r23 q 2 = rr q 2 := by rw [er, vup_ne (by omega)]
    have er3 : r23 q 3 = rr q 3 := by rw [er, vup_ne (by omega)]
    have er4 : r23 q 4 = rr q 4 := by rw [er, vup_ne (by omega)]
    have hW : WR ow' n' r23 ww' 1000 a' (sw x1.toNatClampNeg) := hg.wr.keep (fun c hc => by
      refine ⟨rfl, rfl, erk c (fun z => ?_), rfl⟩
      rw [z, hq.1, h.oq] at hc
      omega)
    have hk2 : ∀ c, ow c ≠ 0 → ow c ≠ 1 → ¬ (1000 < ow c ∧ ow c < 1100) → ow' c = ow c ∧ n' c = n c ∧ r23 c = rr c ∧ ww' c = up2 ww q 0 0 c := fun c h0 h1 h2 => by
      obtain ⟨a1, a2, a3, a4⟩ := old c h0 h2
      exact ⟨a1, a2, (erk c (h.ne h1)).trans a3, a4⟩
    have e2 := hk2 (rr q 2) (by rw [h.o2]; omega) (by rw [h.o2]; omega) (by rw [h.o2]; omega)
    have e3 := hk2 (rr q 3) (by rw [h.o3]; omega) (by rw [h.o3]; omega) (by rw [h.o3]; omega)
    have e4 := hk2 (rr q 4) (by rw [h.o4]; omega) (by rw [h.o4]; omega) (by rw [h.o4]; omega)
    obtain ⟨Cs, Ds, rks, Ns, q1, q2⟩ := s2.sn
    rw [er1]
    refine ⟨1, 4, by omega, by omega, ?_⟩
    refine m_sum (Nat.le_refl _) hW q1 ⟨Nat.le_refl _, Nat.le_refl _⟩ ?_
    have hfr := hg.fr
    have hnw := hg.nw
    refine ⟨by rw [hq.2.2.2]; exact up2_q, fun _ => rfl, ow', hfr, hq.1.trans h.oq, by rw [er2, e2.1, h.o2], by rw [er3, e3.1, h.o3], by rw [er4, e4.1, h.o4], ?_, ivv.mono, ?_, fun i hi => ?_, ?_, fun i hi => ?_, ?_, fun i hi => ?_, fun c => ?_⟩
    · rw [er1]
      exact hW.cg (fun p k hd _ _ => hv p k hd)
    · exact ⟨hr1, hr2, by rw [er2, e2.2.1]; exact hr3⟩
    · rw [er2, e2.2.2.1]
      obtain ⟨t1, t2, t3⟩ := h.sv i hi
      exact ⟨t1.keep (fun c hc => hk2 c (by omega) (by omega) (by omega)), t2.mono, t3⟩
    · exact ⟨h.rp.1, h.rp.2.1, by rw [er3, e3.2.1]; exact h.rp.2.2⟩
    · obtain ⟨tk, lvl, hp⟩ := h.pb i hi
      rw [er3, e3.2.2.1]
      exact ⟨tk, lvl, hp.keep (fun c hc => hk2 c (by omega) (by omega) (by omega))⟩
    · exact ⟨h.rf.1, h.rf.2.1, by rw [er4, e4.2.1]; exact h.rf.2.2⟩
    · rw [er4, e4.2.2.1]
      exact (h.mono.fb i hi).keep (fun c hc => hk2 c (by omega) (by omega) (by omega))
    · have := h.cap c
      rcases hnw c with z | z | z
      · rw [z, ho1]
        split <;> omega
      · omega
      · omega
  · unfold MM_load wp_X13_load
    exact m_begins (t := t) (n := n) (rr := rr) (m_isOf (by omega) (fun z => absurd (by rw [hr3] at z; exact z) hout) (fun _ => ⟨fun z => absurd rfl z, fun _ => m_bad up2_q (by decide) ⟨fun z => absurd z (by decide), fun _ => ⟨up2_q, fun z => absurd z (by decide), rf_T j r w sums ns sw np pw nf fw spw q t n rr ww hR _ up2_off2⟩⟩⟩))
