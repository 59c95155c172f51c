/-! THE PURE SIDE: burst, nameStorm, livesIn, scarTurns, turn -/
def fLp (w : Dt) : Dt := itr (fun w v => tr w (9 + 22) v (3 + 22) v (w (9 + 22) v / 2)) w 3
theorem IC.lp {M B : Int} {w : Dt} (hB : B ≤ 20000000) (h : IC M B w) : IC M B (fLp w) :=
  itr_ind (fun _ v => IC M B v) h (fun i v hi hv => by
    have g1 := hv.le (p := 9) (by omega) hi
    have g2 := hv.le (p := 3) (by omega) hi
    have e : (v (9 + 22) i / 2).toInt = (v (9 + 22) i).toInt / 2 := by rw [ti_divp g1.1 (by decide)]; rfl
    exact hv.mv (p := 9) (p' := 3) (by omega) (by omega) (by omega) hi (by rw [e]; omega) (by rw [e]; omega) (by omega)) 3 (Nat.le_refl 3)
theorem fLp_ne {w : Dt} {p : Nat} (hp : p ≠ 31) (hp2 : p ≠ 25) : fLp w p = w p := itr_ind (fun _ u => u p = w p) rfl (fun i u _ hu => (tr_ne (by omega) (by omega)).trans hu) 3 (Nat.le_refl 3)
theorem x_lift {post : Dt → Prop} {w : Dt} (h : post (fLp w)) : wp_X1_liftPlume post w := by
  refine loopU (fun m y s => wp_X1_liftPlume_2 post m y s) 3 (fun i s => s = itr (fun w v => tr w (9 + 22) v (3 + 22) v (w (9 + 22) v / 2)) w i) w rfl (fun m s hs => ?_) (fun i m s hi hs hk => ?_)
  · subst hs
    exact ⟨fun _ => h, fun g => absurd (Int32.le_refl _) g⟩
  · have ci : (nI i).toNatClampNeg = i := nI_cl (by omega)
    refine ⟨fun g => absurd g (by rw [show (3 : Int32) = nI 3 from rfl, nI_le2 (by omega) (by omega)]; omega), fun _ => ⟨vp_nI hi (by omega), fun v4 e4 w5 e5 w7 e7 => ?_⟩⟩
    rw [ci, show (9 : Int32).toNatClampNeg = 9 from rfl] at e4 e5
    rw [ci, show (3 : Int32).toNatClampNeg = 3 from rfl] at e7
    rw [← nI_succ]
    refine hk w7 ?_
    rw [e7, e5, e4, hs]
    rfl
theorem sim_burst : SIM_burst RELF := by
  intro j r w sums ns sw np pw nf fw spw q t n rr ww hj hR x1 x2
  obtain ⟨ow, h0⟩ := id hR
  have h := h0.beg
  have f0 : (0 : Int32).toInt = 0 := rfl
  have f9 : (3599 : Int32).toInt = 3599 := rfl
  have hC := h.wr.nC
  have bad : ∀ k : Int32, ¬ k = 0 → (up2 (up2 ww q 0 0) q 0 k) q 0 = k ∧ (k = 0 → (0 : Int32) = -1) ∧ RELF (j + 1) r w sums ns sw np pw nf fw spw q t n rr (up2 (up2 ww q 0 0) q 0 k) := fun k hk => ⟨up2_q, fun z => absurd z hk, rf_T j r w sums ns sw np pw nf fw spw q t n rr ww hR _ up2_off2⟩
  obtain ⟨D, rk, N, hS, hI, hN⟩ := h.sn
  have iv := h.iv.mono
  -- the store tells the warmth as the class
  have hwarm : up2 ww q 0 0 (rr (rr q 1) 0) 9 - up2 ww q 0 0 (rr (rr q 1) 0) 0 = w 2 9 - w 2 0 := by rw [h.k.rt (by omega), h.k.rt (by omega)]
  -- the first words of the model's call
  have beg : ∀ (k1 a : Int32), ((w 2 9 - w 2 0 < 200 → wp_X13_burst_35 (fun (b : Int32) (t2 n2 : Nat → Nat) (r2 : Nat → Nat → Nat) (w2 : Dt) => w2 q 0 = k1 ∧ (k1 = 0 → a = b) ∧ RELF (j + 1) r w sums ns sw np pw nf fw spw q t2 n2 r2 w2) q x1 x2 0 t n rr (up2 ww q 0 0) 1400 12000) ∧ (¬ w 2 9 - w 2 0 < 200 → wp_X13_burst_35 (fun (b : Int32) (t2 n2 : Nat → Nat) (r2 : Nat → Nat → Nat) (w2 : Dt) => w2 q 0 = k1 ∧ (k1 = 0 → a = b) ∧ RELF (j + 1) r w sums ns sw np pw nf fw spw q t2 n2 r2 w2) q x1 x2 1 t n rr (up2 ww q 0 0) 1400 12000)) → MM_burst RELF j r w sums ns sw np pw nf fw spw q t n rr ww x1 x2 k1 a := fun k1 a z => by
    unfold MM_burst wp_X13_burst
    refine m_begins (t := t) (n := n) (rr := rr) ?_
    rw [hwarm]
    exact z
  have e35 : ∀ (k1 a y : Int32), (vp_in x1 12 → (0 ≤ x2.toInt ∧ x2.toInt ≤ 3599 → wp_X13_burst_57 (fun (b : Int32) (t2 n2 : Nat → Nat) (r2 : Nat → Nat → Nat) (w2 : Dt) => w2 q 0 = k1 ∧ (k1 = 0 → a = b) ∧ RELF (j + 1) r w sums ns sw np pw nf fw spw q t2 n2 r2 w2) q x1 x2 y 0 q t n rr (up2 ww q 0 0) 1400 12000) ∧ (¬ (0 ≤ x2.toInt ∧ x2.toInt ≤ 3599) → wp_X13_burst_57 (fun (b : Int32) (t2 n2 : Nat → Nat) (r2 : Nat → Nat → Nat) (w2 : Dt) => w2 q 0 = k1 ∧ (k1 = 0 → a = b) ∧ RELF (j + 1) r w sums ns sw np pw nf fw spw q t2 n2 r2 w2) q x1 x2 y 1 q t n rr (up2 ww q 0 0) 1400 12000)) → (¬ vp_in x1 12 → k1 = 1 ∧ a = 0) → wp_X13_burst_35 (fun (b : Int32) (t2 n2 : Nat → Nat) (r2 : Nat → Nat → Nat) (w2 : Dt) => w2 q 0 = k1 ∧ (k1 = 0 → a = b) ∧ RELF (j + 1) r w sums ns sw np pw nf fw spw q t2 n2 r2 w2) q x1 x2 y t n rr (up2 ww q 0 0) 1400 12000 := fun k1 a y z z2 =>
    m_noBelt up2_q (fun hin => ⟨fun g => absurd rfl g, fun _ => m_place (fun a b => ⟨fun _ => (z hin).1 ⟨a, b⟩, fun g => absurd g (by decide)⟩) (fun g => ⟨fun g2 => absurd rfl g2, fun _ => (z hin).2 g⟩)⟩) (fun hout => ⟨fun _ => by
      obtain ⟨rfl, rfl⟩ := z2 hout
      exact bad 1 (by decide), fun g => absurd g (by decide)⟩)
  refine x_idx (k := 12) rfl (fun hin => x_rng (fun a b => ?_) (fun hout => ⟨Or.inr (Or.inl rfl), ?_⟩)) (fun hout => ⟨Or.inl rfl, ?_⟩)
  · have e57 : ∀ (k1 a y : Int32), (∀ w3, w3 = up2 ww q 0 0 → (¬ y = 0 → wp_X13_burst_74 (fun (b : Int32) (t2 n2 : Nat → Nat) (r2 : Nat → Nat → Nat) (w2 : Dt) => w2 q 0 = k1 ∧ (k1 = 0 → a = b) ∧ RELF (j + 1) r w sums ns sw np pw nf fw spw q t2 n2 r2 w2) q x1 x2 0 q t n rr w3 1400 12000) ∧ (y = 0 → wp_X13_burst_74 (fun (b : Int32) (t2 n2 : Nat → Nat) (r2 : Nat → Nat → Nat) (w2 : Dt) => w2 q 0 = k1 ∧ (k1 = 0 → a = b) ∧ RELF (j + 1) r w sums ns sw np pw nf fw spw q t2 n2 r2 w2) q x1 x2 1 q t n rr w3 1400 12000)) → wp_X13_burst_57 (fun (b : Int32) (t2 n2 : Nat → Nat) (r2 : Nat → Nat → Nat) (w2 : Dt) => w2 q 0 = k1 ∧ (k1 = 0 → a = b) ∧ RELF (j + 1) r w sums ns sw np pw nf fw spw q t2 n2 r2 w2) q x1 x2 y 0 q t n rr (up2 ww q 0 0) 1400 12000 := fun k1 a y z => m_ok up2_q ⟨fun g => absurd rfl g, fun _ => z _ rfl⟩
    refine ⟨fun g => ⟨nw_bool (Or.inl rfl), fun z => absurd rfl z, fun _ => ⟨Or.inr (Or.inr (Or.inl rfl)), beg _ _ ⟨fun _ => e35 _ _ 0 (fun _ => ⟨fun _ => e57 _ _ _ (fun w3 e3 => ⟨fun z => absurd rfl z, fun _ => ?_⟩), fun z => absurd ⟨by omega, by omega⟩ z⟩) (fun z => absurd hin z), fun z => absurd g z⟩⟩⟩, fun g => ⟨nw_bool (Or.inr rfl), fun _ => ?_, fun z => absurd z (by decide)⟩⟩
    · subst e3
      exact m_bad up2_q (by decide) ⟨fun _ => bad 3 (by decide), fun z => absurd z (by decide)⟩
    · rw [h.wr.cC]
      refine x_room (N := 12) rfl (by omega) (by omega) (fun hlt => ?_) (fun hge => ⟨Or.inr (Or.inr (Or.inr rfl)), ?_⟩)
      · have c1 : fLp w 7 0 = nI (n (rr (rr q 1) 8)) := by rw [fLp_ne (by omega) (by omega)]; exact h.wr.cC
        have iv2 : INVj (j + 1) (fLp w) := by
          obtain ⟨C, hCs⟩ := iv.sn
          obtain ⟨S, hSk⟩ := iv.sk
          have hj2 : 20000 * ((j + 1 : Nat) : Int) ≤ 20000000 := by omega
          exact ⟨iv.ic.lp hj2, iv.ib.cg (fun p k a b _ => by rw [fLp_ne (by omega) (by omega)]), ⟨C, hCs.cg (fun p k a b c _ => by rw [fLp_ne (by omega) (by omega)])⟩, ⟨S, hSk.cg (fun p k a b _ => by rw [fLp_ne (by omega) (by omega)])⟩, by rw [fLp_ne (by omega) (by omega)]; exact iv.tu⟩
        have iv3 := iv2.bg (be := x1) (lo := x2) (sz := 60) c1 hlt hin ⟨by omega, by omega⟩ (by decide)
        have i3 : IN (fBg (fLp w) x1 x2 60) N := hI.cg (fun p k a b _ => by rw [fBg_ne (by omega), fLp_ne (by omega) (by omega)])
        have iv4 : INVj (j + 1) (fWr (fBg (fLp w) x1 x2 60) 112 (nI (n (rr (rr q 1) 8)))) := by
          obtain ⟨C, D3, rk3, N3, s1, s2⟩ := iv3.sn
          obtain ⟨S, hSk⟩ := iv3.sk
          exact INV.rows iv3 ⟨C, D3, rk3, _, fWr_IS s1 _ _, s2.wr rfl _⟩ ⟨S, hSk.cg (fun p k a b _ => by rw [fWr_ne (by omega)])⟩ (fun p k hp => by rw [fWr_ne (by omega)])
        refine x_lift (x_begin hlt c1 (x_write i3 rfl ?_))
        have beg2 : ∀ (v : Dt) (k1 a : Int32), wp_X13_burst_35 (fun (b : Int32) (t2 n2 : Nat → Nat) (r2 : Nat → Nat → Nat) (w2 : Dt) => w2 q 0 = k1 ∧ (k1 = 0 → a = b) ∧ RELF (j + 1) r v sums ns sw np pw nf fw spw q t2 n2 r2 w2) q x1 x2 1 t n rr (up2 ww q 0 0) 1400 12000 → MM_burst RELF j r v sums ns sw np pw nf fw spw q t n rr ww x1 x2 k1 a := fun v k1 a z => by
          unfold MM_burst wp_X13_burst
          refine m_begins (t := t) (n := n) (rr := rr) ?_
          rw [hwarm]
          exact ⟨fun z2 => absurd z2 g, fun _ => z⟩
        refine beg2 _ _ _ (m_noBelt up2_q (fun _ => ⟨fun z => absurd rfl z, fun _ => m_place (fun _ _ => ⟨fun _ => m_ok up2_q ⟨fun z => absurd rfl z, fun _ => ⟨fun _ => m_ok up2_q ⟨fun z => absurd rfl z, fun _ => ⟨fun _ => m_ok up2_q ⟨fun _ => ?_, fun z => absurd rfl z⟩, fun z => absurd (nI_inj (by omega) (by omega) (show nI _ = nI 12 from z)) (by omega)⟩⟩, fun z => absurd z (by decide)⟩⟩, fun z => absurd z (by decide)⟩) (fun z => absurd ⟨by omega, by omega⟩ z)⟩) (fun z => absurd hin z))
        refine loopU (fun m y s => wp_X13_burst_116 _ m q x1 x2 y t n rr s 1400 12000) 3 (fun i s => WK ow n rr (up2 ww q 0 0) 1000 (rr q 1) s (itr (fun w v => tr w (9 + 22) v (3 + 22) v (w (9 + 22) v / 2)) w i)) (up2 ww q 0 0) h.k (fun m s hs => ?_) (fun i m s hi hs1 hk => ?_)
        · refine ⟨fun _ => ⟨2, 100, by omega, by omega, ?_⟩, fun g => absurd (Int32.le_refl _) g⟩
          have hg := h.g.st hs
          refine m_adds hg rfl hlt h.q8 ⟨by omega, by omega⟩ (fun ow' t' n' rr' ww' er hg2 => ?_)
          refine ⟨2, 132, by omega, by omega, ?_⟩
          rw [er]
          refine m_notes hg2 i3 (fun q => by omega) rfl (fun ow2 t2 n2 r2 w2 hg3 => ?_)
          obtain ⟨e1, e2⟩ := h.fin (spw := spw) hg3 iv4
          exact ⟨e1.trans up2_q, fun _ => rfl, e2⟩
        · have ci : (nI i).toNatClampNeg = i := nI_cl (by omega)
          have hk2 : ∀ s', WK ow n rr (up2 ww q 0 0) 1000 (rr q 1) s' ((fun w v => tr w (9 + 22) v (3 + 22) v (w (9 + 22) v / 2)) (itr (fun w v => tr w (9 + 22) v (3 + 22) v (w (9 + 22) v / 2)) w i) i) → _ := hk
          clear hk
          revert hs1 hk2
          generalize itr (fun w v => tr w (9 + 22) v (3 + 22) v (w (9 + 22) v / 2)) w i = u
          intro hs1 hk2
          refine ⟨fun g => absurd g (by rw [show (3 : Int32) = nI 3 from rfl, nI_le2 (by omega) (by omega)]; omega), fun _ => ⟨vp_nI hi (by omega), fun v4 e4 w5 e5 w7 e7 => ?_⟩⟩
          rw [ci, show (9 : Int32).toNatClampNeg = 9 from rfl, hs1.rv (k := 9) (by omega) hi] at e4 e5
          rw [ci, show (3 : Int32).toNatClampNeg = 3 from rfl] at e7
          rw [← nI_succ]
          refine hk2 w7 ?_
          have h1 := hs1.v (k := 9) (by omega) hi (u (9 + 22) i - u (9 + 22) i / 2)
          have h2 := h1.v (k := 3) (by omega) hi (up2 u (9 + 22) i (u (9 + 22) i - u (9 + 22) i / 2) (3 + 22) i + u (9 + 22) i / 2)
          rw [e7, e5, e4, h1.rv (k := 3) (by omega) hi]
          exact h2
      · refine beg _ _ ⟨fun z => absurd z g, fun _ => e35 _ _ 1 (fun _ => ⟨fun _ => e57 _ _ _ (fun w3 e3 => ⟨fun _ => ?_, fun z => absurd z (by decide)⟩), fun z => absurd ⟨by omega, by omega⟩ z⟩) (fun z => absurd hin z)⟩
        subst e3
        exact m_ok up2_q ⟨fun z => absurd rfl z, fun _ => ⟨fun z => absurd (show nI _ = nI 12 from congrArg nI (by omega)) z, fun _ => m_bad up2_q (by decide) ⟨fun z => absurd z (by decide), fun _ => bad 4 (by decide)⟩⟩⟩
  · have e57 : ∀ y : Int32, wp_X13_burst_57 (fun (b : Int32) (t2 n2 : Nat → Nat) (r2 : Nat → Nat → Nat) (w2 : Dt) => w2 q 0 = 2 ∧ ((2 : Int32) = 0 → (0 : Int32) = b) ∧ RELF (j + 1) r w sums ns sw np pw nf fw spw q t2 n2 r2 w2) q x1 x2 y 1 q t n rr (up2 ww q 0 0) 1400 12000 := fun y => m_bad up2_q (by decide) ⟨fun _ => bad 2 (by decide), fun z => absurd z (by decide)⟩
    exact beg _ _ ⟨fun _ => e35 _ _ 0 (fun _ => ⟨fun z => absurd ⟨by omega, by omega⟩ hout, fun _ => e57 0⟩) (fun z => absurd hin z), fun _ => e35 _ _ 1 (fun _ => ⟨fun z => absurd ⟨by omega, by omega⟩ hout, fun _ => e57 1⟩) (fun z => absurd hin z)⟩
  · exact beg _ _ ⟨fun _ => e35 _ _ 0 (fun z => absurd z hout) (fun _ => ⟨rfl, rfl⟩), fun _ => e35 _ _ 1 (fun z => absurd z hout) (fun _ => ⟨rfl, rfl⟩)⟩
theorem sim_turn : SIM_turn RELF := by
  intro j r w sums ns sw np pw nf fw spw q t n rr ww hj hR x1
  obtain ⟨ow, h0⟩ := id hR
  have h := h0.beg
  have f0 : (1 : Int32).toInt = 1 := rfl
  have f9 : (200 : Int32).toInt = 200 := rfl
  have g1 : (1 : Int64).toInt = 1 := rfl
  have g4 : (200 : Int64).toInt = 200 := rfl
  refine x_rng (fun a b => ?_) (fun hout => ⟨rfl, ?_⟩)
  · -- the world behind k turns
    have hx : x1 = nI x1.toInt.toNat := nI_ofI (by omega)
    generalize hm : x1.toInt.toNat = m at hx
    have hm200 : m ≤ 200 := by omega
    have hI : ∀ k : Nat, k ≤ 200 → INV (1000 + 1800 * (j : Int) + 9 * (k : Int)) (20000 * (j : Int)) (3000 + 3000 * (j : Int)) (200 * (j : Int) + (k : Int)) (itr (fun w _ => fGo w) w k) := fun k hk => by
      refine itr_ind (N := 200) (fun (k : Nat) v => INV (1000 + 1800 * (j : Int) + 9 * (k : Int)) (20000 * (j : Int)) (3000 + 3000 * (j : Int)) (200 * (j : Int) + (k : Int)) v) ?_ (fun i v hi hv => ?_) k hk
      · exact INV.mono h.iv (by omega) (by omega) (by omega) (by omega)
      · exact ((INV.go hv (by omega) (by omega) (by omega) (by omega)).1).mono (by omega) (by omega) (by omega) (by omega)
    have iv : INVj (j + 1) (itr (fun w _ => fGo w) w m) := INV.mono (hI m hm200) (by omega) (by omega) (by omega) (by omega)
    have hmono : ∀ d i, i + d ≤ m → wN (itr (fun w _ => fGo w) w i) ≤ wN (itr (fun w _ => fGo w) w (i + d)) := itr_le wN (fun i hi => wN_go (hI i (by omega)) (by omega) (by omega) (by omega) (by omega))
    refine loopU (fun m2 y s => wp_X8_turn_10 _ _ m2 x1 y r s) m (fun i s => s = itr (fun w _ => fGo w) w i) w rfl (fun m2 s hs => ?_) (fun i m2 s hi hs hk => ?_)
    · rw [hx]
      refine ⟨fun _ => ?_, fun g => absurd (Int32.le_refl _) g⟩
      subst hs
      unfold MM_turn wp_X13_turn
      refine m_begins (t := t) (n := n) (rr := rr) (m_rng g1 g4 (fun _ _ => ⟨fun _ => m_ok up2_q ⟨fun _ => ?_, fun z => absurd rfl z⟩, fun z => absurd z (by decide)⟩) (fun z => absurd ⟨by rw [← hx]; omega, by rw [← hx]; omega⟩ z))
      have h72 := wN_72 (hI m hm200)
      refine loopU (σ := Sto) (fun m2 y s => wp_X13_turn_33 _ m2 q (nI m) y s.1 s.2.1 s.2.2.1 s.2.2.2.1 s.2.2.2.2.1 s.2.2.2.2.2) m (fun i s => (∃ ow', GK ow n rr (up2 ww q 0 0) 1000 (rr q 1) ow' s.1 s.2.1 s.2.2.1 s.2.2.2.1 (itr (fun w _ => fGo w) w i)) ∧ 2 * (wN (itr (fun w _ => fGo w) w m) - wN (itr (fun w _ => fGo w) w i)) + 2 * (m - i) ≤ s.2.2.2.2.1 ∧ 132 * (wN (itr (fun w _ => fGo w) w m) - wN (itr (fun w _ => fGo w) w i)) + 8 * (m - i) ≤ s.2.2.2.2.2) (t, n, rr, up2 ww q 0 0, 1400, 12000) ⟨⟨ow, h.g⟩, by dsimp only; omega, by dsimp only; omega⟩ (fun m2 s hs => ?_) (fun i m2 s hi hs hk => ?_)
      · obtain ⟨t', n', rr', ww', B', S'⟩ := s
        obtain ⟨⟨ow', hg⟩, -⟩ := hs
        dsimp only at hg
        obtain ⟨e1, e2⟩ := h.fin (spw := spw) hg iv
        have ko := hg.ko q (by rw [h.oq]; omega) (by rw [h.oq]; omega)
        refine ⟨fun _ => ⟨e1.trans up2_q, fun _ => ?_, e2⟩, fun g => absurd (Int32.le_refl _) g⟩
        dsimp only
        rw [ko.2.2.1]
        exact hg.wk.rr11.symm
      · obtain ⟨t', n', rr', ww', B', S'⟩ := s
        obtain ⟨⟨ow', hg⟩, hb1, hb2⟩ := hs
        dsimp only at hg hb1 hb2
        have ko := hg.ko q (by rw [h.oq]; omega) (by rw [h.oq]; omega)
        have m1 := hmono 1 i (by omega)
        have m2' := hmono (m - (i + 1)) (i + 1) (by omega)
        rw [show i + 1 + (m - (i + 1)) = m by omega] at m2'
        have estep : itr (fun w _ => fGo w) w (i + 1) = fGo (itr (fun w _ => fGo w) w i) := rfl
        refine ⟨fun g => absurd g (by rw [nI_le2 (by omega) (by omega)]; omega), fun _ => ⟨2 * (wN (itr (fun w _ => fGo w) w (i + 1)) - wN (itr (fun w _ => fGo w) w i)) + 2, 132 * (wN (itr (fun w _ => fGo w) w (i + 1)) - wN (itr (fun w _ => fGo w) w i)) + 8, by dsimp only; omega, by dsimp only; omega, ?_⟩⟩
        dsimp only
        rw [ko.2.2.1]
        refine m_lasts hg (hI i (by omega)) (by omega) (by omega) (by omega) (by omega) ⟨by rw [← estep]; exact Nat.le_refl _, by rw [← estep]; exact Nat.le_refl _⟩ (fun ow2 t2 n2 r2 w2 hg2 => ?_)
        rw [← estep] at hg2
        have := hk (t2, n2, r2, w2, B' - (2 * (wN (itr (fun w _ => fGo w) w (i + 1)) - wN (itr (fun w _ => fGo w) w i)) + 2), S' - (132 * (wN (itr (fun w _ => fGo w) w (i + 1)) - wN (itr (fun w _ => fGo w) w i)) + 8)) ⟨⟨ow2, hg2⟩, by dsimp only; omega, by dsimp only; omega⟩
        rw [nI_succ] at this
        exact this
    · refine ⟨fun g => absurd g (by rw [hx, nI_le2 (by omega) (by omega)]; omega), fun _ => ?_⟩
      rw [hs]
      refine x_go (hI i (by omega)) (by omega) (by omega) (by omega) (by omega) ?_
      have := hk (fGo (itr (fun w _ => fGo w) w i)) rfl
      rw [nI_succ] at this
      exact this
  · unfold MM_turn wp_X13_turn
    refine m_begins (t := t) (n := n) (rr := rr) (m_rng g1 g4 (fun c d => absurd ⟨by omega, by omega⟩ hout) (fun _ => ⟨fun z => absurd rfl z, fun _ => m_bad up2_q (by decide) ⟨fun z => absurd z (by decide), fun _ => ⟨up2_q, fun z => absurd z (by decide), rf_T j r w sums ns sw np pw nf fw spw q t n rr ww hR _ up2_off2⟩⟩⟩))
