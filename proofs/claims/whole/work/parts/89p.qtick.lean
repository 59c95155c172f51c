/-! THE PURE SIDE: a tick as a whole -/
theorem q_choose {Q : Nat → Nat → Prop} : ∀ K : Nat, (∀ k, k < K → ∃ r, Q k r) → ∃ κ : Nat → Nat, ∀ k, k < K → Q k (κ k)
  | 0, _ => ⟨fun _ => 0, fun k hk => absurd hk (by omega)⟩
  | K + 1, h => by
    obtain ⟨κ, hκ⟩ := q_choose K (fun k hk => h k (by omega))
    obtain ⟨r, hr⟩ := h K (by omega)
    refine ⟨fun k => if k = K then r else κ k, fun k hk => ?_⟩
    dsimp only
    by_cases z : k = K
    · rw [if_pos z, z]
      exact hr
    · rw [if_neg z]
      exact hκ k (by omega)
theorem p_keep_le {tk : Nat} {s : PS} (hK : s.1 ≤ 6) (hKS : s.1 + s.2.2.1 ≤ tk) : (p_keep tk s).1 ≤ 6 ∧ (p_keep tk s).1 + (p_keep tk s).2.2.1 ≤ tk + 1 := by
  unfold p_keep
  split
  · exact ⟨by dsimp only; omega, by dsimp only; omega⟩
  · exact ⟨Nat.le_refl 6, by dsimp only; omega⟩
set_option maxHeartbeats 8000000 in
theorem sim_tick : SIM_tick RELF := by
  intro j r w sums ns sw np pw nf fw spw q t n rr ww hj hR x1
  obtain ⟨ow, h0⟩ := id hR
  have h := h0.beg
  obtain ⟨hr1, hr2, hr3⟩ := h.rp
  have bad : ∀ k : Int32, ¬ k = 0 → (up2 (up2 ww q 0 0) q 0 k) q 0 = k ∧ (k = 0 → (0 : Int32) = -1) ∧ RELF (j + 1) r w sums ns sw np pw nf fw spw q t n rr (up2 (up2 ww q 0 0) q 0 k) := fun k hk => ⟨up2_q, fun z => absurd z hk, rf_T j r w sums ns sw np pw nf fw spw q t n rr ww hR _ up2_off2⟩
  refine x_probe hr2 hr1 (fun hin => ?_) (fun hout => ⟨Or.inl rfl, ?_⟩)
  · obtain ⟨tk, lvl, P⟩ := h.pb _ (vp_lt hin)
    have hi := vp_lt hin
    have hin' : vp_in x1 (n (rr q 3)) := by rw [hr3]; exact hin
    obtain ⟨p, ep⟩ : ∃ p, p = rr (rr q 3) x1.toNatClampNeg := ⟨_, rfl⟩
    rw [← ep] at P
    refine ⟨fun alive => ?_, fun dead => ⟨Or.inr rfl, ?_⟩⟩
    · obtain ⟨al1, al2⟩ := P.al alive
      obtain ⟨tl1, tl2, tl3⟩ := P.tl
      have hK6 := P.nK
      obtain ⟨κ, hκ⟩ := q_choose _ P.kk
      obtain ⟨σ, hσ⟩ := q_choose _ P.ss
      obtain ⟨s, es⟩ : ∃ s : PS, s = (n (rr p 8), κ, n (rr p 9), σ) := ⟨_, rfl⟩
      have s1 : s.1 = n (rr p 8) := by rw [es]
      have s2 : s.2.2.1 = n (rr p 9) := by rw [es]
      refine x_tick (s := s) P.e5 P.e4 alive (by omega) tl2 P.rc (by omega) (by omega) (by rw [es]; exact ⟨P.cK, P.cS, fun k hk => (hκ k hk).1, fun k hk => (hσ k hk).1⟩) (fun x' T => ?_)
      have main : MM_tick RELF j r w sums ns sw np (va_up pw x1.toNatClampNeg x') nf fw spw q t n rr ww x1 0 (if x' 0 6 = 0 then x' 0 4 else -1) := by
        obtain ⟨lvl', l1, l2, l3, l4⟩ := T.lv tl2 al1 al2
        obtain ⟨k1, k2⟩ := p_keep_le (tk := tk) (s := s) (by omega) (by omega)
        obtain ⟨sf, esf⟩ : ∃ sf : PS, sf = if pw x1.toNatClampNeg 0 1 < nI (tk + 1) then p_keep tk s else p_tra (decide (¬ pw x1.toNatClampNeg 0 3 = 0)) (pw x1.toNatClampNeg 0 2).toNatClampNeg (p_keep tk s) := ⟨_, rfl⟩
        have hcv := T.cv
        rw [← esf] at hcv
        obtain ⟨v1, v2, v3, v4⟩ := hcv
        have hsf : sf.1 ≤ 6 ∧ sf.1 + sf.2.2.1 ≤ tk + 1 := by
          rw [esf]
          split
          · exact ⟨k1, k2⟩
          · obtain ⟨a, b⟩ := p_tra_le (decide (¬ pw x1.toNatClampNeg 0 3 = 0)) (pw x1.toNatClampNeg 0 2).toNatClampNeg (p_keep tk s)
            exact ⟨by omega, by omega⟩
        obtain ⟨d, ed⟩ : ∃ d, d = (pw x1.toNatClampNeg 0 2).toNatClampNeg := ⟨_, rfl⟩
        have hrc : pw x1.toNatClampNeg 0 2 = nI d ∧ d ≤ 3 := by
          have h3 : (pw x1.toNatClampNeg 0 2).toInt.toNat = (pw x1.toNatClampNeg 0 2).toNatClampNeg := rfl
          have hrc' := P.rc
          have := nI_ofI (x := pw x1.toNatClampNeg 0 2) (by omega)
          rw [h3] at this
          rw [ed]
          exact ⟨this, by omega⟩
        rw [← ed] at esf
        have hlim := h.rp.2.1
        have hns := h.rs.2.1
        have hnf := h.rf.2.1
        -- what is left once a record is kept
        have fin : ∀ (f : Nat → Int32) (ow2 t2 n2 : Nat → Nat) (rr2 : Nat → Nat → Nat) (ww2 : Dt), f 0 = pw x1.toNatClampNeg 0 0 → f 1 = pw x1.toNatClampNeg 0 1 → f 2 = pw x1.toNatClampNeg 0 2 → f 3 = pw x1.toNatClampNeg 0 3 → f 4 = nI (tk + 1) → f 7 = x' 0 14 → PM ow n rr (up2 ww q 0 0) (10000 + 100 * x1.toNatClampNeg) p x' (tk + 1) ow2 t2 n2 rr2 ww2 (va_up (va_up f 6 (x' 0 6)) 5 (x' 0 4)) sf → ww2 q 0 = 0 ∧ RELF (j + 1) r w sums ns sw np (va_up pw x1.toNatClampNeg x') nf fw spw q t2 n2 rr2 ww2 := fun f ow2 t2 n2 rr2 ww2 f0 f1 f2 f3 f4 f7 hm => by
          have hk2 : ∀ c, ow c ≠ 0 → ¬ (10000 + 100 * x1.toNatClampNeg < ow c ∧ ow c < 10000 + 100 * x1.toNatClampNeg + 100) → ow2 c = ow c ∧ n2 c = n c ∧ rr2 c = rr c ∧ ww2 c = up2 ww q 0 0 c := fun c h0 h1 => hm.ko c h0 (fun z => h1 (by rw [z, P.op]; omega)) (fun z => h1 (by rw [z, P.o8]; omega)) (fun z => h1 (by rw [z, P.o9]; omega))
          have kq := hk2 q (by rw [h.oq]; omega) (by rw [h.oq]; omega)
          have e2 := hk2 (rr q 2) (by rw [h.o2]; omega) (by rw [h.o2]; omega)
          have e3 := hk2 (rr q 3) (by rw [h.o3]; omega) (by rw [h.o3]; omega)
          have e4 := hk2 (rr q 4) (by rw [h.o4]; omega) (by rw [h.o4]; omega)
          have erq : rr2 q = rr q := kq.2.2.1
          have hnew : PRR ow2 n2 rr2 ww2 (10000 + 100 * x1.toNatClampNeg) p x' (tk + 1) lvl' := by
            refine ⟨hm.op, by rw [hm.er]; exact hm.o8, by rw [hm.er]; exact hm.o9, ?_, ?_, ?_, ?_, ?_, ?_, ?_, ?_, by rw [hm.er, hm.nK]; exact hsf.1, by rw [hm.er, hm.nK]; exact v1, by rw [hm.er, hm.nS]; exact v2, ?_, ?_, T.t5, l1, ⟨by omega, l2, by rw [hm.er, hm.nK, hm.nS]; exact hsf.2⟩, l3, l4, by rw [T.c 2 (by omega)]; exact P.rc⟩
            · rw [hm.fp, vup_ne (by omega), vup_ne (by omega), f0, T.c 0 (by omega)]
            · rw [hm.fp, vup_ne (by omega), vup_ne (by omega), f1, T.c 1 (by omega)]
            · rw [hm.fp, vup_ne (by omega), vup_ne (by omega), f2, T.c 2 (by omega)]
            · rw [hm.fp, vup_ne (by omega), vup_ne (by omega), f3, T.c 3 (by omega)]
            · rw [hm.fp, vup_eq]
            · rw [hm.fp, vup_ne (by omega), vup_ne (by omega), f4, T.t5]
            · rw [hm.fp, vup_ne (by omega), vup_eq]
            · rw [hm.fp, vup_ne (by omega), vup_ne (by omega), f7]
            · rw [hm.er, hm.nK]
              exact fun i hi => ⟨_, v3 i hi, hm.kk i hi⟩
            · rw [hm.er, hm.nS]
              exact fun i hi => ⟨_, v4 i hi, hm.ss i hi⟩
          refine ⟨by rw [kq.2.2.2]; exact up2_q, ow2, hm.fr, kq.1.trans h.oq, by rw [erq, e2.1, h.o2], by rw [erq, e3.1, h.o3], by rw [erq, e4.1, h.o4], ?_, h.iv.mono, ?_, fun i hi => ?_, ?_, fun i hi => ?_, ?_, fun i hi => ?_, fun c => ?_⟩
          · rw [erq]
            exact h.wr.keep (fun c hc => hk2 c (by omega) (by omega))
          · exact ⟨h.rs.1, h.rs.2.1, by rw [erq, e2.2.1]; exact h.rs.2.2⟩
          · rw [erq, e2.2.2.1]
            obtain ⟨t1, t2, t3⟩ := h.sv i hi
            exact ⟨t1.keep (fun c hc => hk2 c (by omega) (by omega)), t2.mono, t3⟩
          · exact ⟨h.rp.1, h.rp.2.1, by rw [erq, e3.2.1]; exact h.rp.2.2⟩
          · rw [erq, e3.2.2.1]
            by_cases z : i = x1.toNatClampNeg
            · rw [z, vup_eq, ← ep]
              exact ⟨tk + 1, lvl', hnew⟩
            · rw [vup_ne z]
              obtain ⟨tk', lv', hp⟩ := h.pb i hi
              exact ⟨tk', lv', hp.keep (fun c hc => hk2 c (by omega) (by omega))⟩
          · exact ⟨h.rf.1, h.rf.2.1, by rw [erq, e4.2.1]; exact h.rf.2.2⟩
          · rw [erq, e4.2.2.1]
            exact (h.mono.fb i hi).keep (fun c hc => hk2 c (by omega) (by omega))
          · have := h.cap c
            rcases hm.nw c with z | z
            · rw [z]
              omega
            · omega
        have e5 : up2 ww q 0 0 p 5 = nI lvl := P.c4.symm.trans P.e4
        have e4 : up2 ww q 0 0 p 4 = nI tk := P.c5.symm.trans P.e5
        have hpm0 : PM ow n rr (up2 ww q 0 0) (10000 + 100 * x1.toNatClampNeg) p x' (tk + 1) ow t n rr (up2 ww q 0 0) (up2 ww q 0 0 p) s := by
          have rc : ∀ r e, RECR ow (up2 ww q 0 0) (pw x1.toNatClampNeg) tk r e → RECR ow (up2 ww q 0 0) x' (tk + 1) r e := fun r e z => by
            obtain ⟨z1, z2, z3, z4, z5⟩ := z
            exact ⟨by omega, z2, by rw [T.r1 1 r (by omega) (by omega) (by omega)]; exact z3, by rw [T.r1 2 r (by omega) (by omega) (by omega)]; exact z4, by rw [T.r1 3 r (by omega) (by omega) (by omega)]; exact z5⟩
          refine ⟨by omega, P.op, P.o8, P.o9, rfl, h.fr, fun c _ _ _ _ => ⟨rfl, rfl, rfl, rfl⟩, fun c => Or.inl rfl, s1.symm, s2.symm, ?_, ?_, rfl⟩
          · rw [es]
            exact fun i hi => rc _ _ (hκ i hi).2
          · rw [es]
            exact fun i hi => rc _ _ (hσ i hi).2
        unfold MM_tick wp_X13_tick
        refine m_begins (t := t) (n := n) (rr := rr) (m_noProbe up2_q hr3 (by omega) (fun _ => ⟨fun z => absurd rfl z, fun _ => ⟨hin', ?_⟩⟩) (fun z => absurd hin z))
        rw [← ep, show up2 ww q 0 0 p 6 = 0 from P.c6.symm.trans alive]
        refine m_ok up2_q ⟨fun _ w13 e13 => ?_, fun z => absurd rfl z⟩
        rw [e4, ← nI_succ] at e13
        have hpm1 : PM ow n rr (up2 ww q 0 0) (10000 + 100 * x1.toNatClampNeg) p x' (tk + 1) ow t n rr w13 (va_up (up2 ww q 0 0 p) 4 (nI (tk + 1))) s := hpm0.set (fun c a _ _ => by rw [e13, up2_ne a]) (by
          funext k
          rw [e13]
          by_cases z : k = 4
          · rw [z, up2_eq, vup_eq]
          · rw [up2_nk z, vup_ne z])
        have p5 : w13 p 5 = nI lvl := by rw [hpm1.fp, vup_ne (by omega)]; exact e5
        have n13 : ∀ c, c ≠ p → w13 c = up2 ww q 0 0 c := fun c hc => by rw [e13, up2_ne hc]
        have lv10 : lvl < 10 := by omega
        rw [p5, nI_cl (by omega)]
        refine ⟨vp_nI lv10 (by omega), ?_⟩
        have hrow : ∀ v, v < 3 → w13 (rr (rr (rr q 1) 2) lvl) v = w (lvl + 32) v := fun v hv => by
          rw [n13 _ (fun z => by have := h.wr.oi lvl lv10; rw [z, P.op] at this; omega)]
          exact h.k.ri lv10 hv
        have htem : w13 (rr (rr q 1) 0) lvl = w 2 lvl := by
          rw [n13 _ (fun z => by have := h.wr.o0; rw [z, P.op] at this; omega)]
          exact h.k.rt lv10
        refine ⟨4, ⟨fun g => absurd g (by decide), fun _ => ⟨vp_in_iff.mpr (by decide), fun v e => ?_⟩⟩⟩
        refine ⟨fun g => absurd g (by decide), fun _ => ⟨vp_in_iff.mpr (by decide), fun v' e' => ?_⟩⟩
        refine ⟨fun g => absurd g (by decide), fun _ => ⟨vp_in_iff.mpr (by decide), fun v'' e'' => ?_⟩⟩
        refine ⟨fun _ => ?_, fun g => absurd (by decide) g⟩
        have hv : v'' = x' 3 tk := by
          rw [e'', e', e, T.r2.2.2]
          unfold iceV
          rw [← hrow 0 (by omega), ← hrow 1 (by omega), ← hrow 2 (by omega)]
          rfl
        rw [p5, nI_cl (by omega), htem]
        refine ⟨vp_nI lv10 (by omega), fun v22 e22 => ⟨by omega, by omega, fun q26 tq t29 e29 w30 e30 w34 e34 w35 e35 w36 e36 => ⟨by omega, by omega, by omega, fun n40 e40 r41 e41 w42 e42 => ?_⟩⟩⟩
        have oq : ow q26 = 0 := Decidable.byContradiction fun z => h.fr q26 z tq
        have pq : p ≠ q26 := fun z => by have := P.op; rw [z, oq] at this; omega
        have lq : rr p 8 ≠ q26 := fun z => by have := P.o8; rw [z, oq] at this; omega
        obtain ⟨d1, d2, d3⟩ := hpm1.df
        have hpm2 := hpm1.addK (e := q26) (r := tk) (t' := t29) (n' := n40) (rr' := r41) (ww' := w42) tq (by omega) (by rw [e42, up2_ne (Ne.symm lq), e36, up2_nk (by omega), e35, up2_nk (by omega), e34, up2_eq, e30, vup_ne pq, p5, T.r2.1]) (by rw [e42, up2_ne (Ne.symm lq), e36, up2_nk (by omega), e35, up2_eq, e22, T.r2.2.1]) (by rw [e42, up2_ne (Ne.symm lq), e36, up2_eq, hv]) e29 e40 e41 (fun c a1 a2 => by rw [e42, up2_ne a1, e36, up2_ne a2, e35, up2_ne a2, e34, up2_ne a2, e30, vup_ne a2])
        have er8 : r41 p = rr p := hpm2.er
        have en8 : n40 (rr p 8) = n (rr p 8) + 1 := by rw [e40, vup_eq]
        rw [er8, en8, e22]
        have rest : ∀ (f : Nat → Int32) (n2 : Nat → Nat) (rr2 : Nat → Nat → Nat) (ww2 : Dt) (B S : Nat), (∀ k, k ≠ 7 → f k = va_up (up2 ww q 0 0 p) 4 (nI (tk + 1)) k) → f 7 = x' 0 14 → (3 ≤ B ∧ 180 ≤ S) → PM ow n rr (up2 ww q 0 0) (10000 + 100 * x1.toNatClampNeg) p x' (tk + 1) (va_up ow q26 9) t29 n2 rr2 ww2 f (p_keep tk s) → wp_X13_tick_189 (fun (b : Int32) (t2 n2 : Nat → Nat) (r2 : Nat → Nat → Nat) (w2 : Dt) => w2 q 0 = 0 ∧ ((0 : Int32) = 0 → (if x' 0 6 = 0 then x' 0 4 else -1) = b) ∧ RELF (j + 1) r w sums ns sw np (va_up pw x1.toNatClampNeg x') nf fw spw q t2 n2 r2 w2) p (w 2 lvl) t29 n2 rr2 ww2 B S := fun f n2 rr2 ww2 B S hf f7 hBS hm => by
          have f0 : f 0 = pw x1.toNatClampNeg 0 0 := by rw [hf 0 (by omega), vup_ne (by omega)]; exact P.c0.symm
          have f1 : f 1 = pw x1.toNatClampNeg 0 1 := by rw [hf 1 (by omega), vup_ne (by omega)]; exact P.c1.symm
          have f2 : f 2 = pw x1.toNatClampNeg 0 2 := by rw [hf 2 (by omega), vup_ne (by omega)]; exact P.c2.symm
          have f3 : f 3 = pw x1.toNatClampNeg 0 3 := by rw [hf 3 (by omega), vup_ne (by omega)]; exact P.c3.symm
          have f4 : f 4 = nI (tk + 1) := by rw [hf 4 (by omega), vup_eq]
          have f5 : f 5 = nI lvl := by rw [hf 5 (by omega), vup_ne (by omega)]; exact e5
          refine m_tail (d := d) (y6 := x' 0 6) (y4 := x' 0 4) hm (f2.trans hrc.1) hrc.2 k1 (by omega) hBS f5 tl2 T.de (by rw [f0, f4]; exact T.al) (fun n' rr' ww' hm2 => ?_)
          rw [f1, f4, f3, ← esf] at hm2
          obtain ⟨z1, z2⟩ := fin f _ _ _ _ _ f0 f1 f2 f3 f4 f7 hm2
          exact ⟨z1, fun _ => rfl, z2⟩
        have w7 : up2 ww q 0 0 p 7 = pw x1.toNatClampNeg 0 14 := P.c14.symm
        refine ⟨fun g => ?_, fun g => ⟨?_, fun n77 e77 r78 e78 w79 e79 w80 e80 => ?_⟩⟩
        · rw [show (6 : Int32) = nI 6 from rfl, nI_le2 (by omega) (by omega)] at g
          have hlt : s.1 < 6 := by omega
          refine rest _ n40 r41 w42 _ _ (fun k _ => rfl) ?_ ⟨by omega, by omega⟩ ?_
          · rw [vup_ne (by omega), w7, T.lo, if_pos hlt]
          · unfold p_keep
            rw [if_pos hlt]
            exact hpm2
        · exact vp_in_iff.mpr (by have e0 : (0 : Int32).toInt = 0 := rfl; omega)
        · rw [show (6 : Int32) = nI 6 from rfl, nI_le2 (by omega) (by omega)] at g
          have h6 : s.1 = 6 := by omega
          have hpm3 := hpm2.rem (pl := 0) (n' := n77) (rr' := r78) (v := w42 (rr p 8) 0 + 1) (by show 0 < s.1 + 1; omega) (by rw [e77, en8]) e78
          rw [← e79] at hpm3
          have a7 : w79 p 7 = pw x1.toNatClampNeg 0 14 := by rw [hpm3.fp, vup_ne (by omega), w7]
          rw [a7] at e80
          have hpm4 := hpm3.set (ww' := w80) (f' := va_up (va_up (up2 ww q 0 0 p) 4 (nI (tk + 1))) 7 (pw x1.toNatClampNeg 0 14 + 1)) (fun c a _ _ => by rw [e80, up2_ne a]) (by
            funext k
            rw [e80]
            by_cases z : k = 7
            · rw [z, up2_eq, vup_eq]
            · rw [up2_nk z, vup_ne z, hpm3.fp])
          refine rest (va_up (va_up (up2 ww q 0 0 p) 4 (nI (tk + 1))) 7 (pw x1.toNatClampNeg 0 14 + 1)) n77 r78 w80 _ _ (fun k hk => vup_ne hk) ?_ ⟨by omega, by omega⟩ ?_
          · rw [vup_eq, T.lo, if_neg (by omega)]
          · have ef : (fun i => if i = 5 then tk else s.2.1 (i + 1)) = p_cut 0 (fun i => if i = 6 then tk else s.2.1 i) := by
              funext i
              show (if i = 5 then tk else s.2.1 (i + 1)) = if i < 0 then (if i = 6 then tk else s.2.1 i) else (if i + 1 = 6 then tk else s.2.1 (i + 1))
              rw [if_neg (Nat.not_lt_zero i)]
              by_cases z : i = 5
              · rw [if_pos z, if_pos (by omega)]
              · rw [if_neg z, if_neg (by omega)]
            have ek : p_keep tk s = (s.1 + 1 - 1, p_cut 0 (fun i => if i = s.1 then tk else s.2.1 i), s.2.2.1, s.2.2.2) := by
              unfold p_keep
              rw [if_neg (by omega), h6, ef]
            rw [ek]
            exact hpm4
      exact ⟨fun g => by rw [if_pos g] at main; exact main, fun g => by rw [if_neg g] at main; exact main⟩
    · have e6 : up2 ww q 0 0 p 6 = 1 := P.c6.symm.trans (P.de.resolve_left dead)
      unfold MM_tick wp_X13_tick
      refine m_begins (t := t) (n := n) (rr := rr) (m_noProbe up2_q hr3 (by omega) (fun _ => ⟨fun z => absurd rfl z, fun _ => ⟨hin', ?_⟩⟩) (fun z => absurd hin z))
      rw [← ep, e6]
      exact m_bad up2_q (by decide) ⟨fun z => absurd z (by decide), fun _ => bad 2 (by decide)⟩
  · unfold MM_tick wp_X13_tick
    exact m_begins (t := t) (n := n) (rr := rr) (m_noProbe up2_q hr3 (by omega) (fun z => absurd z hout) (fun _ => ⟨fun _ => bad 1 (by decide), fun z => absurd z (by decide)⟩))
