/-! THE PURE SIDE: probes are dropped, sent records read -/
set_option maxHeartbeats 4000000 in
theorem sim_dropProbe : SIM_dropProbe RELF := by
  intro j r w sums ns sw np pw nf fw spw q t n rr ww hj hR x1 x2 x3 x4 hx4
  obtain ⟨ow, h0⟩ := id hR
  have h := h0.beg
  have f1 : (1 : Int32).toInt = 1 := rfl
  have f9 : (9 : Int32).toInt = 9 := rfl
  have f60 : (60 : Int32).toInt = 60 := rfl
  have f3 : (3 : Int32).toInt = 3 := rfl
  have g1 : (1 : Int64).toInt = 1 := rfl
  have g9 : (9 : Int64).toInt = 9 := rfl
  have g60 : (60 : Int64).toInt = 60 := rfl
  have g3 : (3 : Int64).toInt = 3 := rfl
  obtain ⟨hr1, hr2, hr3⟩ := h.rp
  have bad : ∀ k : Int32, ¬ k = 0 → (up2 (up2 ww q 0 0) q 0 k) q 0 = k ∧ (k = 0 → (0 : Int32) = -1) ∧ RELF (j + 1) r w sums ns sw np pw nf fw spw q t n rr (up2 (up2 ww q 0 0) q 0 k) := fun k hk => ⟨up2_q, fun z => absurd z hk, rf_T j r w sums ns sw np pw nf fw spw q t n rr ww hR _ up2_off2⟩
  have hnb : narrow .boolean (.int x4) = .int x4 := nw_bool hx4
  have hfb : fits .boolean (.int x4) = true := by rcases hx4 with z | z <;> rw [z] <;> rfl
  unfold wp_X8_dropProbe
  rw [hr1]
  refine x_rng (fun a b => x_rng (fun c d => x_rng (fun e f => x_room (C := np) (N := 4) rfl (by omega) (by omega) (fun hlt => ⟨rfl, hlt, hnb, hfb, ?_⟩) (fun hge => ⟨Or.inr rfl, ?_⟩)) (fun hout => ⟨Or.inl rfl, ?_⟩)) (fun hout => ⟨Or.inl rfl, ?_⟩)) (fun hout => ⟨Or.inl rfl, ?_⟩)
  · unfold MM_dropProbe wp_X13_dropProbe
    refine m_begins (t := t) (n := n) (rr := rr) (m_rng g1 g9 (fun _ _ => ⟨fun z => absurd z (by decide), fun _ => m_rng g1 g60 (fun _ _ => ⟨fun z => absurd z (by decide), fun _ => m_rng g1 g3 (fun _ _ => ⟨fun _ => m_ok up2_q ⟨fun z => absurd rfl z, fun _ => ⟨fun _ => m_ok up2_q ⟨fun _ => ⟨by omega, by omega, fun q12 t16 n17 r18 w19 hnew w22 e22 w23 e23 w24 e24 => ⟨hnb, hfb, fun w27 e27 => ?_⟩⟩, fun z => absurd rfl z⟩, fun z => ?_⟩⟩, fun z => absurd z (by decide)⟩) (fun z => absurd ⟨by omega, by omega⟩ z)⟩) (fun z => absurd ⟨by omega, by omega⟩ z)⟩) (fun z => absurd ⟨by omega, by omega⟩ z))
    · obtain ⟨q1, q2, hl1, hl2, tq, tq1, tq2, et, en, er, ew⟩ := hnew
      have hns := h.rs.2.1
      have hnf := h.rf.2.1
      have oq0 : ow q12 = 0 := Decidable.byContradiction fun z => h.fr q12 z tq
      have oq1 : ow q1 = 0 := Decidable.byContradiction fun z => h.fr q1 z tq1
      have oq2 : ow q2 = 0 := Decidable.byContradiction fun z => h.fr q2 z tq2
      have hne : ∀ c, ow c ≠ 0 → c ≠ q12 ∧ c ≠ q1 ∧ c ≠ q2 := fun c hc => ⟨fun z => hc (by rw [z]; exact oq0), fun z => hc (by rw [z]; exact oq1), fun z => hc (by rw [z]; exact oq2)⟩
      have e27n : ∀ c, c ≠ q12 → w27 c = w19 c := fun c hc => by rw [e27, up2_ne hc, e24, up2_ne hc, e23, up2_ne hc, e22, up2_ne hc]
      have old1 : ∀ c, ow c ≠ 0 → n17 c = n c ∧ r18 c = rr c ∧ w27 c = up2 ww q 0 0 c := fun c hc => by
        obtain ⟨a1, a2, a3⟩ := hne c hc
        exact ⟨by rw [en, vup_ne a3, vup_ne a2], by rw [er, vup_ne a1], by rw [e27n c a1, ew, vup_ne a1, vup_ne a3, vup_ne a2]⟩
      have er1 : r18 q = rr q := (old1 q (by rw [h.oq]; omega)).2.1
      have o3 := old1 (rr q 3) (by rw [h.o3]; omega)
      have en3 : n17 (rr q 3) = np := o3.1.trans hr3
      have h3ne := hne (rr q 3) (by rw [h.o3]; omega)
      rw [er1, en3, o3.2.1]
      refine ⟨by omega, by omega, by omega, fun n32 e32 r33 e33 w34 e34 => ?_⟩
      have hk : ∀ c, c ≠ rr q 3 → n32 c = n17 c ∧ r33 c = r18 c ∧ w34 c = w27 c := fun c hc => ⟨by rw [e32, vup_ne hc], by rw [e33, vup_ne hc], by rw [e34, up2_ne hc]⟩
      -- the owners
      have hO : ∃ ow' : Nat → Nat, (∀ c, c ≠ q12 → c ≠ q1 → c ≠ q2 → ow' c = ow c) ∧ ow' q12 = 10000 + 100 * np + 1 ∧ ow' q1 = 10000 + 100 * np + 2 ∧ ow' q2 = 10000 + 100 * np + 3 := ⟨va_up (va_up (va_up ow q12 (10000 + 100 * np + 1)) q1 (10000 + 100 * np + 2)) q2 (10000 + 100 * np + 3), fun c a b d => by rw [vup_ne d, vup_ne b, vup_ne a], by rw [vup_ne (by omega), vup_ne (by omega), vup_eq], by rw [vup_ne (by omega), vup_eq], vup_eq _ _ _⟩
      obtain ⟨ow', w1, w2, w3, w4⟩ := hO
      have hk2 : ∀ c, ow c ≠ 0 → ow c ≠ 3 → ow' c = ow c ∧ n32 c = n c ∧ r33 c = rr c ∧ w34 c = up2 ww q 0 0 c := fun c h0 h2 => by
        obtain ⟨a1, a2, a3⟩ := hne c h0
        obtain ⟨b1, b2, b3⟩ := old1 c h0
        obtain ⟨d1, d2, d3⟩ := hk c (fun z => h2 (by rw [z]; exact h.o3))
        exact ⟨w1 c a1 a2 a3, d1.trans b1, d2.trans b2, d3.trans b3⟩
      have kq := hk2 q (by rw [h.oq]; omega) (by rw [h.oq]; omega)
      have k2 := hk2 (rr q 2) (by rw [h.o2]; omega) (by rw [h.o2]; omega)
      have k4 := hk2 (rr q 4) (by rw [h.o4]; omega) (by rw [h.o4]; omega)
      have erq : r33 q = rr q := kq.2.2.1
      have n3 : n32 (rr q 3) = np + 1 := by rw [e32, vup_eq]
      have r3 : r33 (rr q 3) = va_up (rr (rr q 3)) np q12 := by rw [e33, vup_eq]
      have harg : nI (n32 (r33 q 3)) - 1 = nI np := by
        rw [erq, n3, nI_succ]
        exact q_r1 _
      have hnew : PRR ow' n32 r33 w34 (10000 + 100 * np) q12 (prW x1 x2 x3 x4) 0 0 := by
        obtain ⟨d1, d2, d3⟩ := hk q12 (Ne.symm h3ne.1)
        obtain ⟨d4, d5, d6⟩ := hk q1 (Ne.symm h3ne.2.1)
        obtain ⟨d7, d8, d9⟩ := hk q2 (Ne.symm h3ne.2.2)
        have r8 : r33 q12 8 = q1 := by rw [d2, er, vup_eq, if_pos rfl]
        have r9 : r33 q12 9 = q2 := by rw [d2, er, vup_eq, if_neg (by omega)]
        have m1 : n32 q1 = 0 := by rw [d4, en, vup_ne (by omega), vup_eq]
        have m2 : n32 q2 = 0 := by rw [d7, en, vup_eq]
        have wz : ∀ k, 4 ≤ k → w34 q12 k = 0 := fun k hk' => by rw [d3, e27, up2_nk (by omega), e24, up2_nk (by omega), e23, up2_nk (by omega), e22, up2_nk (by omega), ew, vup_eq]
        refine ⟨w2, by rw [r8]; exact w3, by rw [r9]; exact w4, ?_, ?_, ?_, ?_, (wz 5 (by omega)).symm, (wz 4 (by omega)).symm, (wz 6 (by omega)).symm, (wz 7 (by omega)).symm, by rw [r8, m1]; omega, by rw [r8, m1]; rfl, by rw [r9, m2]; rfl, ?_, ?_, rfl, rfl, by rw [r8, r9, m1, m2]; omega, Or.inl rfl, fun _ => ⟨by omega, fun z => absurd z (by omega)⟩, ?_⟩
        · rw [d3, e27, up2_nk (by omega), e24, up2_nk (by omega), e23, up2_nk (by omega), e22, up2_eq]; rfl
        · rw [d3, e27, up2_nk (by omega), e24, up2_nk (by omega), e23, up2_eq]; rfl
        · rw [d3, e27, up2_nk (by omega), e24, up2_eq]; rfl
        · rw [d3, e27, up2_eq]; rfl
        · rw [r8, m1]
          intro i hi
          omega
        · rw [r9, m2]
          intro i hi
          omega
        · show 1 ≤ x3.toInt ∧ x3.toInt ≤ 3
          omega
      rw [harg]
      refine ⟨by rw [kq.2.2.2]; exact up2_q, fun _ => rfl, ow', fun c hc => ?_, kq.1.trans h.oq, by rw [erq, k2.1, h.o2], by rw [erq, w1 _ h3ne.1 h3ne.2.1 h3ne.2.2, h.o3], by rw [erq, k4.1, h.o4], ?_, h.iv.mono, ?_, fun i hi => ?_, ?_, fun i hi => ?_, ?_, fun i hi => ?_, fun c => ?_⟩
      · rw [et]
        by_cases z : c = q12
        · rw [z, vup_eq]; decide
        · rw [vup_ne z]
          by_cases z2 : c = q2
          · rw [z2, vup_eq]; decide
          · rw [vup_ne z2]
            by_cases z1 : c = q1
            · rw [z1, vup_eq]; decide
            · rw [vup_ne z1]
              rw [w1 c z z1 z2] at hc
              exact h.fr c hc
      · rw [erq]
        exact h.wr.keep (fun c hc => hk2 c (by omega) (by omega))
      · exact ⟨by rw [up2_nk (by omega)]; exact h.rs.1, h.rs.2.1, by rw [erq, k2.2.1]; exact h.rs.2.2⟩
      · rw [erq, k2.2.2.1]
        obtain ⟨s1, s2, s3⟩ := h.sv i hi
        exact ⟨s1.keep (fun c hc => hk2 c (by omega) (by omega)), s2.mono, s3⟩
      · exact ⟨by rw [up2_eq, nI_succ], by omega, by rw [erq, n3]⟩
      · rw [erq, r3]
        by_cases z : i = np
        · subst z
          rw [vup_eq, vup_eq]
          exact ⟨0, 0, hnew⟩
        · rw [vup_ne z, vup_ne z]
          obtain ⟨tk, lvl, hp⟩ := h.pb i (by omega)
          exact ⟨tk, lvl, hp.keep (fun c hc => hk2 c (by omega) (by omega))⟩
      · exact ⟨by rw [up2_nk (by omega)]; exact h.rf.1, h.rf.2.1, by rw [erq, k4.2.1]; exact h.rf.2.2⟩
      · rw [erq, k4.2.2.1]
        exact (h.mono.fb i hi).keep (fun c hc => hk2 c (by omega) (by omega))
      · have := h.cap c
        by_cases z : c = q12
        · rw [z, w2]
          omega
        · by_cases z1 : c = q1
          · rw [z1, w3]
            omega
          · by_cases z2 : c = q2
            · rw [z2, w4]
              omega
            · rw [w1 c z z1 z2]
              omega
    · rw [hr3] at z
      have := nI_inj (by omega) (by omega) (show nI np = nI 4 from z)
      omega
  · unfold MM_dropProbe wp_X13_dropProbe
    exact m_begins (t := t) (n := n) (rr := rr) (m_rng g1 g9 (fun _ _ => ⟨fun z => absurd z (by decide), fun _ => m_rng g1 g60 (fun _ _ => ⟨fun z => absurd z (by decide), fun _ => m_rng g1 g3 (fun _ _ => ⟨fun _ => m_ok up2_q ⟨fun z => absurd rfl z, fun _ => ⟨fun z => absurd (by rw [hr3, show np = 4 by omega]; rfl) z, fun _ => m_bad up2_q (by decide) ⟨fun z => absurd z (by decide), fun _ => bad 2 (by decide)⟩⟩⟩, fun z => absurd z (by decide)⟩) (fun z => absurd ⟨by omega, by omega⟩ z)⟩) (fun z => absurd ⟨by omega, by omega⟩ z)⟩) (fun z => absurd ⟨by omega, by omega⟩ z))
  · unfold MM_dropProbe wp_X13_dropProbe
    exact m_begins (t := t) (n := n) (rr := rr) (m_rng g1 g9 (fun _ _ => ⟨fun z => absurd z (by decide), fun _ => m_rng g1 g60 (fun _ _ => ⟨fun z => absurd z (by decide), fun _ => m_rng g1 g3 (fun _ _ => absurd ⟨by omega, by omega⟩ hout) (fun _ => ⟨fun z => absurd rfl z, fun _ => m_bad up2_q (by decide) ⟨fun _ => bad 1 (by decide), fun z => absurd z (by decide)⟩⟩)⟩) (fun z => absurd ⟨by omega, by omega⟩ z)⟩) (fun z => absurd ⟨by omega, by omega⟩ z))
  · unfold MM_dropProbe wp_X13_dropProbe
    exact m_begins (t := t) (n := n) (rr := rr) (m_rng g1 g9 (fun _ _ => ⟨fun z => absurd z (by decide), fun _ => m_rng g1 g60 (fun _ _ => absurd ⟨by omega, by omega⟩ hout) (fun _ => ⟨fun _ => m_bad up2_q (by decide) ⟨fun _ => bad 1 (by decide), fun z => absurd z (by decide)⟩, fun z => absurd rfl z⟩)⟩) (fun z => absurd ⟨by omega, by omega⟩ z))
  · unfold MM_dropProbe wp_X13_dropProbe
    exact m_begins (t := t) (n := n) (rr := rr) (m_rng g1 g9 (fun _ _ => absurd ⟨by omega, by omega⟩ hout) (fun _ => ⟨fun _ => m_bad up2_q (by decide) ⟨fun _ => bad 1 (by decide), fun z => absurd z (by decide)⟩, fun z => absurd rfl z⟩))
theorem x_sentI {post : Int32 → Prop} {xpost : Nat → Prop} {x : Dt} {S : Nat} {x2 x3 : Int32} (hS : S ≤ 19) (h13 : x 0 13 = nI S) (hrec : ∀ i, i < S → ∃ r, x 5 i = nI r ∧ r < 19) (hg : vp_in x2 S → ∀ r, x 5 x2.toNatClampNeg = nI r → r < 19 → post (if x3 = 108 then x 1 r else if x3 = 116 then x 2 r else x 3 r)) (hb : ¬ vp_in x2 S → xpost 4) :
    (x2 < 0 → xpost 4) ∧ (¬ x2 < 0 → ((x 0 13) ≤ x2 → xpost 4) ∧ (¬ (x 0 13) ≤ x2 → (x2 < 19 → vp_in x2 19 ∧ (∀ v8 : Int32, v8 = (x 5 x2.toNatClampNeg) → ((v8 < 0 → xpost 4) ∧ (¬ v8 < 0 → (v8 < 19 → (¬ x3 = 108 → (¬ x3 = 116 → vp_in v8 19 ∧ (post (x 3 v8.toNatClampNeg))) ∧ (x3 = 116 → vp_in v8 19 ∧ (post (x 2 v8.toNatClampNeg)))) ∧ (x3 = 108 → vp_in v8 19 ∧ (post (x 1 v8.toNatClampNeg)))) ∧ (¬ v8 < 19 → xpost 4))))) ∧ (¬ x2 < 19 → xpost 4))) := by
  have e19 : (19 : Int32).toInt = 19 := rfl
  have e0 : (0 : Int32).toInt = 0 := rfl
  have eS : (nI S).toInt = (S : Int) := nI_toInt (by omega)
  rw [h13]
  refine ⟨fun g => hb fun z => z (Or.inl g), fun g1 => ⟨fun g => hb fun z => ?_, fun g2 => ?_⟩⟩
  · have := vp_in_iff.mp z
    rw [Int32.le_iff_toInt_le] at g
    omega
  · have hv : vp_in x2 S := vp_in_iff.mpr (by
      rw [Int32.lt_iff_toInt_lt] at g1
      rw [Int32.le_iff_toInt_le] at g2
      omega)
    refine ⟨fun _ => ⟨vp_mono hv hS, fun v8 e8 => ?_⟩, fun g => absurd ?_ g⟩
    · obtain ⟨r, r1, r2⟩ := hrec _ (vp_lt hv)
      have := hg hv r r1 r2
      rw [e8, r1, nI_cl (by omega)]
      have hvr : vp_in (nI r) 19 := vp_nI r2 (by omega)
      refine ⟨fun z => absurd z (nI_nn' (by omega)), fun _ => ⟨fun _ => ⟨fun a => ⟨fun b => ⟨hvr, ?_⟩, fun b => ⟨hvr, ?_⟩⟩, fun a => ⟨hvr, ?_⟩⟩, fun z => absurd ?_ z⟩⟩
      · rw [if_neg a, if_neg b] at this
        exact this
      · rw [if_neg a, if_pos b] at this
        exact this
      · rw [if_pos a] at this
        exact this
      · rw [show (19 : Int32) = nI 19 from rfl, nI_ltl (by omega) (by omega)]
        exact r2
    · rw [Int32.lt_iff_toInt_lt]
      have := vp_in_iff.mp hv
      omega
set_option maxHeartbeats 4000000 in
theorem sim_sentAt : SIM_sentAt RELF := by
  intro j r w sums ns sw np pw nf fw spw q t n rr ww hj hR x1 x2 x3
  obtain ⟨ow, h0⟩ := id hR
  have h := h0.beg
  obtain ⟨hr1, hr2, hr3⟩ := h.rp
  have bad : ∀ k : Int32, ¬ k = 0 → (up2 (up2 ww q 0 0) q 0 k) q 0 = k ∧ (k = 0 → (0 : Int32) = -1) ∧ RELF (j + 1) r w sums ns sw np pw nf fw spw q t n rr (up2 (up2 ww q 0 0) q 0 k) := fun k hk => ⟨up2_q, fun z => absurd z hk, rf_T j r w sums ns sw np pw nf fw spw q t n rr ww hR _ up2_off2⟩
  refine x_probe hr2 hr1 (fun hin => ?_) (fun hout => ⟨Or.inl rfl, ?_⟩)
  · obtain ⟨tk, lvl, P⟩ := h.pb _ (vp_lt hin)
    obtain ⟨tl1, tl2, tl3⟩ := P.tl
    have hS19 : n (rr (rr (rr q 3) x1.toNatClampNeg) 9) ≤ 19 := by omega
    have hin' : vp_in x1 (n (rr q 3)) := by rw [hr3]; exact hin
    have hrec : ∀ i, i < n (rr (rr (rr q 3) x1.toNatClampNeg) 9) → ∃ r, pw x1.toNatClampNeg 5 i = nI r ∧ r < 19 := fun i hi => by
      obtain ⟨r, r1, r2, -⟩ := P.ss i hi
      exact ⟨r, r1, by omega⟩
    have nb : ∀ l : Nat, l < 3 → ixlti x3 = nI l → ¬ vp_in x2 (n (rr (rr (rr q 3) x1.toNatClampNeg) 9)) → MM_sentAt RELF j r w sums ns sw np pw nf fw spw q t n rr ww x1 x2 x3 3 0 := fun l hl hix hb => by
      have hge : (0 : Int32) ≤ ixlti x3 := by
        rw [hix, show (0 : Int32) = nI 0 from rfl, nI_le2 (by omega) (by omega)]
        omega
      unfold MM_sentAt wp_X13_sentAt
      exact m_begins (t := t) (n := n) (rr := rr) (m_noProbe up2_q hr3 (by omega) (fun _ => ⟨fun z => absurd rfl z, fun _ => ⟨fun _ => m_ok up2_q ⟨fun z => absurd rfl z, fun _ => ⟨hin', m_isOf (by omega) (fun z => absurd z hb) (fun _ => ⟨fun z => absurd rfl z, fun _ => m_bad up2_q (by decide) ⟨fun z => absurd z (by decide), fun _ => bad 3 (by decide)⟩⟩)⟩⟩, fun z => absurd hge z⟩⟩) (fun z => absurd hin z))
    have ng : ∀ l : Nat, l < 3 → ixlti x3 = nI l → ∀ (a : Int32), (∀ e r, RECR ow (up2 ww q 0 0) (pw x1.toNatClampNeg) tk r e → pw x1.toNatClampNeg 5 x2.toNatClampNeg = nI r → a = up2 ww q 0 0 e l) → vp_in x2 (n (rr (rr (rr q 3) x1.toNatClampNeg) 9)) → MM_sentAt RELF j r w sums ns sw np pw nf fw spw q t n rr ww x1 x2 x3 0 a := fun l hl hix a ha hb => by
      have hge : (0 : Int32) ≤ ixlti x3 := by
        rw [hix, show (0 : Int32) = nI 0 from rfl, nI_le2 (by omega) (by omega)]
        omega
      have hvl : vp_in (ixlti x3) 3 := by rw [hix]; exact vp_nI hl (by omega)
      obtain ⟨rv, r1, r2⟩ := P.ss _ (vp_lt hb)
      have hval := ha _ rv r2 r1
      have hcl : (ixlti x3).toNatClampNeg = l := by rw [hix, nI_cl (by omega)]
      rw [← hcl] at hval
      unfold MM_sentAt wp_X13_sentAt
      exact m_begins (t := t) (n := n) (rr := rr) (m_noProbe up2_q hr3 (by omega) (fun _ => ⟨fun z => absurd rfl z, fun _ => ⟨fun _ => m_ok up2_q ⟨fun z => absurd rfl z, fun _ => ⟨hin', m_isOf (by omega) (fun _ => ⟨fun _ => m_ok up2_q ⟨fun _ => ⟨hin', hb, hvl, up2_q, fun _ => hval, rf_T j r w sums ns sw np pw nf fw spw q t n rr ww hR _ up2_off⟩, fun z => absurd rfl z⟩, fun z => absurd z (by decide)⟩) (fun z => absurd hb z)⟩⟩, fun z => absurd hge z⟩⟩) (fun z => absurd hin z))
    have blk : ∀ l : Nat, l < 3 → ixlti x3 = nI l → (∀ r : Nat, (if x3 = 108 then pw x1.toNatClampNeg 1 r else if x3 = 116 then pw x1.toNatClampNeg 2 r else pw x1.toNatClampNeg 3 r) = pw x1.toNatClampNeg (l + 1) r) → _ := fun l hl hix hv => x_sentI (x3 := x3) (x2 := x2) (post := fun a => MM_sentAt RELF j r w sums ns sw np pw nf fw spw q t n rr ww x1 x2 x3 0 a) (xpost := fun k => (k = 0 ∨ k = 1 ∨ k = 4) ∧ MM_sentAt RELF j r w sums ns sw np pw nf fw spw q t n rr ww x1 x2 x3 (xnum [0, 1, 4] k 1) 0) hS19 P.cS hrec (fun hb r e1 e2 => by
        show MM_sentAt _ _ _ _ _ _ _ _ _ _ _ _ _ _ _ _ _ _ _ _ _ _
        rw [hv r]
        refine ng l hl hix _ (fun e r' hrc he => ?_) hb
        obtain ⟨z1, z2, z3, z4, z5⟩ := hrc
        have : r' = r := nI_inj (by omega) (by omega) (he.symm.trans e1)
        subst this
        have h3 : l = 0 ∨ l = 1 ∨ l = 2 := by omega
        rcases h3 with z | z | z <;> subst z
        · exact z3.symm
        · exact z4.symm
        · exact z5.symm) (fun hb => ⟨Or.inr (Or.inr rfl), nb l hl hix hb⟩)
    refine ⟨fun g => blk 0 (by omega) (by unfold ixlti; rw [if_pos g]; rfl) (fun r => by rw [if_pos g]), fun g1 => ⟨fun g => blk 1 (by omega) (by unfold ixlti; rw [if_neg g1, if_pos g]; rfl) (fun r => by rw [if_neg g1, if_pos g]), fun g2 => ⟨fun g => blk 2 (by omega) (by unfold ixlti; rw [if_neg g1, if_neg g2, if_pos g]; rfl) (fun r => by rw [if_neg g1, if_neg g2]), fun g3 => ⟨Or.inr (Or.inl rfl), ?_⟩⟩⟩⟩
    have hix : ixlti x3 = -1 := by
      unfold ixlti
      rw [if_neg g1, if_neg g2, if_neg g3]
    unfold MM_sentAt wp_X13_sentAt
    exact m_begins (t := t) (n := n) (rr := rr) (m_noProbe up2_q hr3 (by omega) (fun _ => ⟨fun z => absurd rfl z, fun _ => ⟨fun z => absurd z (by rw [hix]; decide), fun _ => m_bad up2_q (by decide) ⟨fun _ => bad 2 (by decide), fun z => absurd z (by decide)⟩⟩⟩) (fun z => absurd hin z))
  · unfold MM_sentAt wp_X13_sentAt
    exact m_begins (t := t) (n := n) (rr := rr) (m_noProbe up2_q hr3 (by omega) (fun z => absurd z hout) (fun _ => ⟨fun _ => bad 1 (by decide), fun z => absurd z (by decide)⟩))
