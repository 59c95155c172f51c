/-! THE PURE SIDE: storms are added, scars made, plumes burst -/
theorem m_place {t n : Nat → Nat} {rr : Nat → Nat → Nat} {ww : Dt} {post : Int32 → Prop} {x : Int32} (h1 : 0 ≤ x.toInt → x.toInt ≤ 3599 → post 1) (h0 : ¬ (0 ≤ x.toInt ∧ x.toInt ≤ 3599) → post 0) : wp_X13_isPlace post t n rr ww x := by
  have e0 : (0 : Int64).toInt = 0 := rfl
  have e9 : (3599 : Int64).toInt = 3599 := rfl
  have ex : x.toInt64.toInt = x.toInt := Int32.toInt_toInt64 x
  exact m_in (fun a b => ⟨rfl, h1 (by omega) (by omega)⟩) (fun g => ⟨rfl, h0 fun z => g (by omega)⟩)
theorem m_rng {t n : Nat → Nat} {rr : Nat → Nat → Nat} {ww : Dt} {post : Int32 → Prop} {x : Int32} {lo hi : Int64} {l u : Int} (hl : lo.toInt = l) (hu : hi.toInt = u) (h1 : l ≤ x.toInt → x.toInt ≤ u → post 1) (h0 : ¬ (l ≤ x.toInt ∧ x.toInt ≤ u) → post 0) : wp_X13_in post t n rr ww x.toInt64 lo hi := by
  have ex : x.toInt64.toInt = x.toInt := Int32.toInt_toInt64 x
  exact m_in (fun a b => h1 (by omega) (by omega)) (fun g => h0 fun z => g (by omega))
theorem x_room {post : Unit → Prop} {xpost : Nat → Prop} {C N : Nat} {y : Int32} (hy : y = nI N) (hC : C ≤ 100) (hN : N ≤ 100) (h1 : C < N → post ()) (h2 : ¬ C < N → xpost 2) : wp_X8_checkRoom post xpost (nI C) y := by
  subst hy
  refine ⟨fun g => h1 ?_, fun g => h2 ?_⟩
  · rwa [nI_ltl (by omega) (by omega)] at g
  · rwa [nI_ltl (by omega) (by omega)] at g
theorem INV.rows {M B U T : Int} {w w' : Dt} (h : INV M B U T w) (hs : ∃ C, SN w' C) (hk : ∃ S, IK w' S) (h0 : ∀ p k, (p ≤ 6 ∨ 22 ≤ p) → w' p k = w p k) : INV M B U T w' :=
  ⟨h.ic.cg (fun p k a _ => h0 p k (by omega)), h.ib.cg (fun p k a b _ => h0 p k (by omega)), hs, hk, by rw [h0 0 5 (by omega)]; exact h.tu⟩
section ADDS
variable {ow0 n0 : Nat → Nat} {rr0 : Nat → Nat → Nat} {ww0 : Dt} {b : Nat}
theorem m_adds {post : Int32 → (Nat → Nat) → (Nat → Nat) → (Nat → Nat → Nat) → Dt → Prop} {ow t n : Nat → Nat} {rr : Nat → Nat → Nat} {ww w : Dt} {q C : Nat} (h : GK ow0 n0 rr0 ww0 b (rr q 1) ow t n rr ww w) (hn : n (rr (rr q 1) 8) = C) (hC : C < 12) (hq8 : q ≠ rr (rr q 1) 8) {B S : Nat} (hB : 2 ≤ B ∧ 2 * C + 17 ≤ S) {be lo sz : Int32}
    (hp : ∀ ow' t' n' rr' ww', rr' q 1 = rr q 1 → GK ow0 n0 rr0 ww0 b (rr q 1) ow' t' n' rr' ww' (fBg w be lo sz) → post (nI C) t' n' rr' ww') : wp_X13_adds post t n rr ww B S q be lo sz := by
  refine ⟨by omega, by omega, fun q1 hq t6 e6 w7 e7 w9 e9 w10 e10 w11 e11 => ?_⟩
  have hqo : ow q1 = 0 := Decidable.byContradiction fun z => h.fr q1 z hq
  have hLo := h.wr.o8
  have hLq : rr (rr q 1) 8 ≠ q1 := fun z => by rw [z, hqo] at hLo; omega
  have hao := h.wr.oa
  rw [hn]
  refine ⟨by omega, by omega, by omega, fun n17 e17 r18 e18 w19 e19 => ?_⟩
  have er : r18 q = rr q := by rw [e18, vup_ne hq8]
  have era : r18 (rr q 1) = rr (rr q 1) := by rw [e18, vup_ne (fun z => by rw [← z] at hLo; omega)]
  have harg : nI (n17 (r18 (r18 q 1) 8)) - 1 = nI C := by
    rw [er, era, e17, vup_eq, nI_succ]
    exact q_r1 _
  rw [harg]
  refine hp (va_up ow q1 (b + 30 + C)) t6 n17 r18 w19 (by rw [er]) (h.addS hn hC hq e6 e17 e18 (fun c h1 h2 => ?_) ⟨?_, ?_, ?_, ?_, ?_, ?_, ?_⟩)
  · rw [e19, up2_ne h1, e11, up2_ne h2, e10, up2_ne h2, e9, up2_ne h2, e7, vup_ne h2]
  · rw [e19, up2_nr (Ne.symm hLq), e11, up2_nk (by omega), e10, up2_nk (by omega), e9, up2_eq]
  · rw [e19, up2_nr (Ne.symm hLq), e11, up2_nk (by omega), e10, up2_eq]
  · rw [e19, up2_nr (Ne.symm hLq), e11, up2_eq]
  · rw [e19, up2_nr (Ne.symm hLq), e11, up2_nk (by omega), e10, up2_nk (by omega), e9, up2_nk (by omega), e7, vup_eq]; rfl
  · rw [e19, up2_nr (Ne.symm hLq), e11, up2_nk (by omega), e10, up2_nk (by omega), e9, up2_nk (by omega), e7, vup_eq]; rfl
  · rw [e19, up2_nr (Ne.symm hLq), e11, up2_nk (by omega), e10, up2_nk (by omega), e9, up2_nk (by omega), e7, vup_eq]; rfl
  · rw [e19, up2_nr (Ne.symm hLq), e11, up2_nk (by omega), e10, up2_nk (by omega), e9, up2_nk (by omega), e7, vup_eq]; rfl
end ADDS
section ADDR
variable {ow : Nat → Nat} {j : Nat} {r w : Dt} {sums : Nat → Int64} {ns : Nat} {sw : Nat → Dt} {np : Nat} {pw : Nat → Dt} {nf : Nat} {fw : Nat → Dt} {spw : Dt} {q : Nat} {t n : Nat → Nat} {rr : Nat → Nat → Nat} {ww : Dt}
theorem RF.fin (h : RF ow j r w sums ns sw np pw nf fw q t n rr ww) {ow' t' n' : Nat → Nat} {rr' : Nat → Nat → Nat} {ww' w' : Dt} (hg : GK ow n rr ww 1000 (rr q 1) ow' t' n' rr' ww' w') (hi : INVj (j + 1) w') : ww' q 0 = ww q 0 ∧ RELF (j + 1) r w' sums ns sw np pw nf fw spw q t' n' rr' ww' :=
  ⟨by rw [(hg.ko q (by rw [h.oq]; omega) (by rw [h.oq]; omega)).2.2.2], ow', h.mono.world hg hi⟩
/-- the store behind the beginning of a call -/
theorem RF.beg (h : RF ow j r w sums ns sw np pw nf fw q t n rr ww) : RF ow j r w sums ns sw np pw nf fw q t n rr (up2 ww q 0 0) := h.thr up2_off
theorem RF.q8 (h : RF ow j r w sums ns sw np pw nf fw q t n rr ww) : q ≠ rr (rr q 1) 8 := Ne.symm (h.ne (by rw [h.wr.o8]; omega))
end ADDR
theorem INVj.bg {j : Nat} {w : Dt} (h : INVj j w) {C : Nat} (hw : w 7 0 = nI C) (hC : C < 12) {be lo sz : Int32} (hb : vp_in be 12) (hl : 0 ≤ lo.toInt ∧ lo.toInt < 3600) (hs : 10 ≤ sz.toInt ∧ sz.toInt ≤ 400) : INVj j (fBg w be lo sz) := by
  obtain ⟨C', D, rk, N, h1, h2⟩ := h.sn
  obtain ⟨S, hS⟩ := h.sk
  have e : C' = C := nI_inj (by have := h1.hC; omega) (by omega) (h1.cC.symm.trans hw)
  subst e
  exact INV.rows h ⟨C' + 1, D, rk, N, h1.beg hC hb hl hs, h2.cg (fun p k a b _ => by rw [fBg_ne (by omega)])⟩ ⟨S, hS.cg (fun p k a b _ => by rw [fBg_ne (by omega)])⟩ (fun p k hp => by rw [fBg_ne (by omega)])
theorem sim_addStorm : SIM_addStorm RELF := by
  intro j r w sums ns sw np pw nf fw spw q t n rr ww hj hR x1 x2 x3
  obtain ⟨ow, h0⟩ := id hR
  have h := h0.beg
  have f0 : (0 : Int32).toInt = 0 := rfl
  have f9 : (3599 : Int32).toInt = 3599 := rfl
  have f1 : (10 : Int32).toInt = 10 := rfl
  have f4 : (400 : Int32).toInt = 400 := rfl
  have g1 : (10 : Int64).toInt = 10 := rfl
  have g4 : (400 : Int64).toInt = 400 := rfl
  have hC := h.wr.nC
  have bad : ∀ k : Int32, ¬ k = 0 → (up2 (up2 ww q 0 0) q 0 k) q 0 = k ∧ (k = 0 → (0 : Int32) = -1) ∧ RELF (j + 1) r w sums ns sw np pw nf fw spw q t n rr (up2 (up2 ww q 0 0) q 0 k) := fun k hk => ⟨up2_q, fun z => absurd z hk, rf_T j r w sums ns sw np pw nf fw spw q t n rr ww hR _ up2_off2⟩
  refine x_idx (k := 12) rfl (fun hin => x_rng (fun a b => x_rng (fun c d => ?_) (fun hout => ⟨Or.inr (Or.inl rfl), ?_⟩)) (fun hout => ⟨Or.inr (Or.inl rfl), ?_⟩)) (fun hout => ⟨Or.inl rfl, ?_⟩)
  · rw [h.wr.cC]
    refine x_room (N := 12) rfl (by omega) (by omega) (fun hlt => x_begin hlt h.wr.cC ?_) (fun hge => ⟨Or.inr (Or.inr rfl), ?_⟩)
    · unfold MM_addStorm wp_X13_addStorm
      refine m_begins (t := t) (n := n) (rr := rr) (m_noBelt up2_q (fun _ => ⟨fun z => absurd rfl z, fun _ => m_place (fun _ _ => ⟨fun z => absurd z (by decide), fun _ => m_rng g1 g4 (fun _ _ => ⟨fun _ => m_ok up2_q ⟨fun z => absurd rfl z, fun _ => ⟨fun _ => m_ok up2_q ⟨fun _ => ⟨1400, 12000, Nat.le_refl _, Nat.le_refl _, ?_⟩, fun z => absurd rfl z⟩, fun z => absurd (nI_inj (by omega) (by omega) (show nI _ = nI 12 from z)) (by omega)⟩⟩, fun z => absurd z (by decide)⟩) (fun z => absurd ⟨by omega, by omega⟩ z)⟩) (fun z => absurd ⟨by omega, by omega⟩ z)⟩) (fun z => absurd hin z))
      refine m_adds h.g rfl hlt h.q8 ⟨by omega, by omega⟩ (fun ow' t' n' rr' ww' _ hg => ?_)
      obtain ⟨e1, e2⟩ := h.fin (spw := spw) hg (h.iv.mono.bg h.wr.cC hlt hin ⟨by omega, by omega⟩ ⟨by omega, by omega⟩)
      exact ⟨e1.trans up2_q, fun _ => rfl, e2⟩
    · unfold MM_addStorm wp_X13_addStorm
      exact m_begins (t := t) (n := n) (rr := rr) (m_noBelt up2_q (fun _ => ⟨fun z => absurd rfl z, fun _ => m_place (fun _ _ => ⟨fun z => absurd z (by decide), fun _ => m_rng g1 g4 (fun _ _ => ⟨fun _ => m_ok up2_q ⟨fun z => absurd rfl z, fun _ => ⟨fun z => absurd (show nI _ = nI 12 from congrArg nI (by omega)) z, fun _ => m_bad up2_q (by decide) ⟨fun z => absurd z (by decide), fun _ => bad 3 (by decide)⟩⟩⟩, fun z => absurd z (by decide)⟩) (fun z => absurd ⟨by omega, by omega⟩ z)⟩) (fun z => absurd ⟨by omega, by omega⟩ z)⟩) (fun z => absurd hin z))
  · unfold MM_addStorm wp_X13_addStorm
    exact m_begins (t := t) (n := n) (rr := rr) (m_noBelt up2_q (fun _ => ⟨fun z => absurd rfl z, fun _ => m_place (fun _ _ => ⟨fun z => absurd z (by decide), fun _ => m_rng g1 g4 (fun c d => absurd ⟨by omega, by omega⟩ hout) (fun _ => ⟨fun z => absurd rfl z, fun _ => m_bad up2_q (by decide) ⟨fun _ => bad 2 (by decide), fun z => absurd z (by decide)⟩⟩)⟩) (fun z => absurd ⟨by omega, by omega⟩ z)⟩) (fun z => absurd hin z))
  · unfold MM_addStorm wp_X13_addStorm
    exact m_begins (t := t) (n := n) (rr := rr) (m_noBelt up2_q (fun _ => ⟨fun z => absurd rfl z, fun _ => m_place (fun c d => absurd ⟨by omega, by omega⟩ hout) (fun _ => ⟨fun _ => m_bad up2_q (by decide) ⟨fun _ => bad 2 (by decide), fun z => absurd z (by decide)⟩, fun z => absurd rfl z⟩)⟩) (fun z => absurd hin z))
  · unfold MM_addStorm wp_X13_addStorm
    exact m_begins (t := t) (n := n) (rr := rr) (m_noBelt up2_q (fun z => absurd z hout) (fun _ => ⟨fun _ => bad 1 (by decide), fun z => absurd z (by decide)⟩))
/-- scars -/
def fBs (w : Dt) (be wi : Int32) : Dt := up2 (up2 (up2 (up2 w 16 (w 15 0).toNatClampNeg be) 17 (w 15 0).toNatClampNeg wi) 18 (w 15 0).toNatClampNeg wi) 15 0 (w 15 0 + 1)
theorem fBs_ne {w : Dt} {be wi : Int32} {p : Nat} (hp : p < 15 ∨ 18 < p) : fBs w be wi p = w p := by
  unfold fBs
  rw [up2_ne (by omega), up2_ne (by omega), up2_ne (by omega), up2_ne (by omega)]
theorem fBs_at {w : Dt} {be wi : Int32} {S : Nat} (hS : S ≤ 8) (hw : w 15 0 = nI S) : fBs w be wi 15 0 = nI (S + 1) ∧ fBs w be wi 16 S = be ∧ fBs w be wi 17 S = wi ∧ fBs w be wi 18 S = wi ∧ ∀ p k, ¬ (p = 15 ∧ k = 0) → ¬ (16 ≤ p ∧ p < 19 ∧ k = S) → fBs w be wi p k = w p k := by
  have hc : (w 15 0).toNatClampNeg = S := by rw [hw, nI_cl (by omega)]
  unfold fBs
  rw [hc]
  refine ⟨by rw [up2_eq, hw, nI_succ], by rw [up2_nr (by omega), up2_nr (by omega), up2_nr (by omega), up2_eq], by rw [up2_nr (by omega), up2_nr (by omega), up2_eq], by rw [up2_nr (by omega), up2_eq], fun p k h1 h2 => ?_⟩
  rw [up2_no h1, up2_no (by omega), up2_no (by omega), up2_no (by omega)]
theorem x_sbegin {post : Int32 → Dt → Prop} {w : Dt} {S : Nat} (hS : S < 8) (hw : w 15 0 = nI S) {be wi : Int32} (h : post (nI S) (fBs w be wi)) : wp_X5_begin post w be wi := by
  refine ⟨fun g => absurd g (by rw [hw]; exact nI_nn' (by omega)), fun _ => ⟨fun _ => ⟨by rw [hw]; exact vp_nI hS (by omega), fun w4 e4 w5 e5 w6 e6 w7 e7 => ?_⟩, fun g => absurd ?_ g⟩⟩
  · have e : w6 15 0 = w 15 0 := by rw [e6, e5, e4, up2_nr (by omega), up2_nr (by omega), up2_nr (by omega)]
    have : w7 = fBs w be wi := by
      rw [e7, e, e6, e5, e4]
      rfl
    rw [this, hw]
    exact h
  · rw [hw, show (8 : Int32) = nI 8 from rfl, nI_ltl (by omega) (by omega)]
    exact hS
theorem sim_strike : SIM_strike RELF := by
  intro j r w sums ns sw np pw nf fw spw q t n rr ww hj hR x1 x2 x3
  obtain ⟨ow, h0⟩ := id hR
  have h := h0.beg
  have f0 : (0 : Int32).toInt = 0 := rfl
  have f9 : (3599 : Int32).toInt = 3599 := rfl
  have f1 : (1 : Int32).toInt = 1 := rfl
  have f4 : (100 : Int32).toInt = 100 := rfl
  have g1 : (1 : Int64).toInt = 1 := rfl
  have g4 : (100 : Int64).toInt = 100 := rfl
  have hS8 := h.wr.nS
  have bad : ∀ k : Int32, ¬ k = 0 → (up2 (up2 ww q 0 0) q 0 k) q 0 = k ∧ (k = 0 → (0 : Int32) = -1) ∧ RELF (j + 1) r w sums ns sw np pw nf fw spw q t n rr (up2 (up2 ww q 0 0) q 0 k) := fun k hk => ⟨up2_q, fun z => absurd z hk, rf_T j r w sums ns sw np pw nf fw spw q t n rr ww hR _ up2_off2⟩
  obtain ⟨D, rk, N, hS, hI, hN⟩ := h.sn
  obtain ⟨Sk, hK⟩ := h.iv.sk
  have eS : n (rr (rr q 1) 9) = Sk := nI_inj (by omega) (by have := hK.hS; omega) (h.wr.cS.symm.trans hK.cS)
  refine x_idx (k := 12) rfl (fun hin => x_rng (fun a b => x_rng (fun c d => ?_) (fun hout => ⟨Or.inr (Or.inl rfl), ?_⟩)) (fun hout => ⟨Or.inr (Or.inl rfl), ?_⟩)) (fun hout => ⟨Or.inl rfl, ?_⟩)
  · rw [h.wr.cS]
    refine x_room (N := 8) rfl (by omega) (by omega) (fun hlt => ?_) (fun hge => ⟨Or.inr (Or.inr rfl), ?_⟩)
    · have i2 : IN (fBs w x1 x3) N := hI.cg (fun p k a b _ => by rw [fBs_ne (by omega)])
      have iv2 : INVj (j + 1) (fWr (fBs w x1 x3) 107 (nI (n (rr (rr q 1) 9)))) := by
        obtain ⟨a1, a2, a3, a4, a5⟩ := fBs_at (be := x1) (wi := x3) (by omega : n (rr (rr q 1) 9) ≤ 8) h.wr.cS
        refine INV.rows h.iv.mono ⟨_, D, rk, _, hS.cgr (fun p a b => by rw [fWr_ne (by omega), fBs_ne (by omega)]), i2.wr rfl _⟩ ⟨n (rr (rr q 1) 9) + 1, by omega, by rw [fWr_ne (by omega)]; exact a1, fun i hi => ?_⟩ (fun p k hp => by rw [fWr_ne (by omega), fBs_ne (by omega)])
        rw [fWr_ne (by omega)]
        by_cases z : i = n (rr (rr q 1) 9)
        · rw [z, a2]
          exact hin
        · rw [a5 16 i (by omega) (by omega)]
          exact hK.be i (by omega)
      refine x_sbegin hlt h.wr.cS (x_write i2 rfl ?_)
      unfold MM_strike wp_X13_strike
      refine m_begins (t := t) (n := n) (rr := rr) (m_noBelt up2_q (fun _ => ⟨fun z => absurd rfl z, fun _ => m_place (fun _ _ => ⟨fun z => absurd z (by decide), fun _ => m_rng g1 g4 (fun _ _ => ⟨fun _ => m_ok up2_q ⟨fun z => absurd rfl z, fun _ => ⟨fun _ => m_ok up2_q ⟨fun _ => ?_, fun z => absurd rfl z⟩, fun z => absurd (nI_inj (by omega) (by omega) (show nI _ = nI 8 from z)) (by omega)⟩⟩, fun z => absurd z (by decide)⟩) (fun z => absurd ⟨by omega, by omega⟩ z)⟩) (fun z => absurd ⟨by omega, by omega⟩ z)⟩) (fun z => absurd hin z))
      refine ⟨by omega, by omega, fun q2 hq t23 e23 w24 e24 w27 e27 w28 e28 w29 e29 => ⟨by omega, by omega, by omega, fun n33 e33 r34 e34 w35 e35 => ?_⟩⟩
      have hqo : ow q2 = 0 := Decidable.byContradiction fun z => h.fr q2 z hq
      have hLo := h.wr.o9
      have hLq : rr (rr q 1) 9 ≠ q2 := fun z => by rw [z, hqo] at hLo; omega
      have hq9 : q ≠ rr (rr q 1) 9 := Ne.symm (h.ne (by rw [hLo]; omega))
      have hao := h.wr.oa
      have er : r34 q = rr q := by rw [e34, vup_ne hq9]
      have era : r34 (rr q 1) = rr (rr q 1) := by rw [e34, vup_ne (fun z => by rw [← z] at hLo; omega)]
      have harg : nI (n33 (r34 (r34 q 1) 9)) - 1 = nI (n (rr (rr q 1) 9)) := by
        rw [er, era, e33, vup_eq, nI_succ]
        exact q_r1 _
      obtain ⟨a1, a2, a3, a4, a5⟩ := fBs_at (be := x1) (wi := x3) (by omega : n (rr (rr q 1) 9) ≤ 8) h.wr.cS
      have hg := h.g.appC rfl (by omega) hq e23 e33 e34 (ww' := w35) (fun c h1 h2 => by rw [e35, up2_ne h1, e29, up2_ne h2, e28, up2_ne h2, e27, up2_ne h2, e24, vup_ne h2]) (w' := fBs w x1 x3) a1 a5 (fun p h1 h2 => ?_)
      · rw [harg, er]
        refine ⟨2, 132, by omega, by omega, m_notes hg i2 (fun q => by omega) rfl (fun ow' t' n' rr' ww' hg2 => ?_)⟩
        obtain ⟨e1, e2⟩ := h.fin (spw := spw) hg2 iv2
        have ko := hg2.ko q (by rw [h.oq]; omega) (by rw [h.oq]; omega)
        have harg2 : nI (n' (rr' (rr' q 1) 9)) - 1 = nI (n (rr (rr q 1) 9)) := by
          have e15 : fWr (fBs w x1 x3) 107 (nI (n (rr (rr q 1) 9))) 15 0 = nI (n (rr (rr q 1) 9) + 1) := by rw [fWr_ne (by omega)]; exact a1
          have := hg2.wr.cS
          rw [e15] at this
          rw [ko.2.2.1, ← this, nI_succ]
          exact q_r1 _
        refine ⟨e1.trans up2_q, fun _ => ?_, e2⟩
        rw [harg2]
      · have hp' : p = 16 ∨ p = 17 ∨ p = 18 := by omega
        rcases hp' with z | z | z
        · subst z
          rw [a2, show RI 16 (n (rr (rr q 1) 9)) = 0 from rfl, e35, up2_nr (Ne.symm hLq), e29, up2_nk (by omega), e28, up2_nk (by omega), e27, up2_eq]
        · subst z
          rw [a3, show RI 17 (n (rr (rr q 1) 9)) = 2 from rfl, e35, up2_nr (Ne.symm hLq), e29, up2_eq]
        · subst z
          rw [a4, show RI 18 (n (rr (rr q 1) 9)) = 1 from rfl, e35, up2_nr (Ne.symm hLq), e29, up2_nk (by omega), e28, up2_eq]
    · unfold MM_strike wp_X13_strike
      exact m_begins (t := t) (n := n) (rr := rr) (m_noBelt up2_q (fun _ => ⟨fun z => absurd rfl z, fun _ => m_place (fun _ _ => ⟨fun z => absurd z (by decide), fun _ => m_rng g1 g4 (fun _ _ => ⟨fun _ => m_ok up2_q ⟨fun z => absurd rfl z, fun _ => ⟨fun z => absurd (show nI _ = nI 8 from congrArg nI (by omega)) z, fun _ => m_bad up2_q (by decide) ⟨fun z => absurd z (by decide), fun _ => bad 3 (by decide)⟩⟩⟩, fun z => absurd z (by decide)⟩) (fun z => absurd ⟨by omega, by omega⟩ z)⟩) (fun z => absurd ⟨by omega, by omega⟩ z)⟩) (fun z => absurd hin z))
  · unfold MM_strike wp_X13_strike
    exact m_begins (t := t) (n := n) (rr := rr) (m_noBelt up2_q (fun _ => ⟨fun z => absurd rfl z, fun _ => m_place (fun _ _ => ⟨fun z => absurd z (by decide), fun _ => m_rng g1 g4 (fun c d => absurd ⟨by omega, by omega⟩ hout) (fun _ => ⟨fun z => absurd rfl z, fun _ => m_bad up2_q (by decide) ⟨fun _ => bad 2 (by decide), fun z => absurd z (by decide)⟩⟩)⟩) (fun z => absurd ⟨by omega, by omega⟩ z)⟩) (fun z => absurd hin z))
  · unfold MM_strike wp_X13_strike
    exact m_begins (t := t) (n := n) (rr := rr) (m_noBelt up2_q (fun _ => ⟨fun z => absurd rfl z, fun _ => m_place (fun c d => absurd ⟨by omega, by omega⟩ hout) (fun _ => ⟨fun _ => m_bad up2_q (by decide) ⟨fun _ => bad 2 (by decide), fun z => absurd z (by decide)⟩, fun z => absurd rfl z⟩)⟩) (fun z => absurd hin z))
  · unfold MM_strike wp_X13_strike
    exact m_begins (t := t) (n := n) (rr := rr) (m_noBelt up2_q (fun z => absurd z hout) (fun _ => ⟨fun _ => bad 1 (by decide), fun z => absurd z (by decide)⟩))
