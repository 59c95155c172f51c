/-! THE PURE SIDE: checksum, thereShare, meanWind, isSound -/
theorem sim_checksum : SIM_checksum RELF := by
  intro j r w sums ns sw np pw nf fw spw q t n rr ww hj hR
  obtain ⟨ow, h0⟩ := id hR
  have h := h0.beg
  obtain ⟨D, rk, N, hS, hI, hN⟩ := h.sn
  refine x_sumUp hS.hC hS.cC ?_
  unfold MM_checksum wp_X13_checksum
  refine m_begins (t := t) (n := n) (rr := rr) ⟨1, 4, by omega, by omega, m_sum (Nat.le_refl _) h.wr hS ⟨Nat.le_refl _, Nat.le_refl _⟩ ⟨rfl, rf_T j r w sums ns sw np pw nf fw spw q t n rr ww hR _ up2_off⟩⟩
/-- how many storms are there -/
def fTh (w : Dt) : Nat → Nat
  | 0 => 0
  | k + 1 => fTh w k + (if w 13 k = 0 then 0 else 1)
theorem fTh_le (w : Dt) : ∀ k : Nat, fTh w k ≤ k
  | 0 => Nat.le_refl 0
  | k + 1 => by
    have := fTh_le w k
    show fTh w k + (if w 13 k = 0 then 0 else 1) ≤ k + 1
    split <;> omega
theorem x_there {post : Int32 → Prop} {w : Dt} {C : Nat} (hC : C ≤ 12) (hw : w 7 0 = nI C) (h : post (nI (fTh w C))) : wp_X6_countThere post w := by
  refine ⟨C + 1, loopG (fun m y (s : Int32) => wp_X6_countThere_4 post m s y w) nI C (fun i s => s = nI (fTh w i)) (fun m s hs => ?_) (fun i m s hi hs hk => ?_) C 0 0 (by omega) rfl⟩
  · subst hs
    exact ⟨fun _ => h, fun g => absurd ((lt_cnt hC hw (by omega)).mpr (Nat.le_refl C)) g⟩
  · have ci : (nI i).toNatClampNeg = i := nI_cl (by omega)
    refine ⟨fun g => absurd ((lt_cnt hC hw (by omega)).mp g) (by omega), fun _ => ⟨fun g => absurd g (by rw [show (12 : Int32) = nI 12 from rfl, nI_le2 (by omega) (by omega)]; omega), fun _ => ⟨vp_nI (by omega) (by omega), fun g => ?_, fun g => ?_⟩⟩⟩
    · rw [ci] at g
      have := hk (s + 0) (by
        rw [hs, show (0 : Int32) = nI 0 from rfl, nI_add]
        show _ = nI (fTh w i + (if w 13 i = 0 then 0 else 1))
        rw [if_pos g])
      rw [nI_succ] at this
      exact this
    · rw [ci] at g
      have := hk (s + 1) (by
        rw [hs, show (1 : Int32) = nI 1 from rfl, nI_add]
        show _ = nI (fTh w i + (if w 13 i = 0 then 0 else 1))
        rw [if_neg g])
      rw [nI_succ] at this
      exact this
theorem sim_thereShare : SIM_thereShare RELF := by
  intro j r w sums ns sw np pw nf fw spw q t n rr ww hj hR
  obtain ⟨ow, h0⟩ := id hR
  have h := h0.beg
  obtain ⟨D, rk, N, hS, hI, hN⟩ := h.sn
  have hC := hS.hC
  have hmod : ∀ (k1 : Int32) (a : UInt32), (wp_X13_fails (fun r11 wS12 => (r11 = 0 → vf_n32 (FP.fdiv (FP.i2f (nI (fTh w (n (rr (rr q 1) 8))))) (FP.i2f (nI (n (rr (rr q 1) 8))))) ∧ wS12 q 0 = k1 ∧ (k1 = 0 → a = FP.fdiv (FP.i2f (nI (fTh w (n (rr (rr q 1) 8))))) (FP.i2f (nI (n (rr (rr q 1) 8))))) ∧ RELF (j + 1) r w sums ns sw np pw nf fw spw q t n rr wS12) ∧ (¬ r11 = 0 → wS12 q 0 = k1 ∧ (k1 = 0 → a = 0) ∧ RELF (j + 1) r w sums ns sw np pw nf fw spw q t n rr wS12)) t n rr (up2 ww q 0 0) q (if n (rr (rr q 1) 8) = 0 then 1 else 0) 1) → MM_thereShare RELF j r w sums ns sw np pw nf fw spw q t n rr ww k1 a := fun k1 a z => by
    unfold MM_thereShare wp_X13_thereShare
    refine m_begins (t := t) (n := n) (rr := rr) ⟨by omega, by omega, n (rr (rr q 1) 8) + 1, ?_⟩
    refine loopG (fun m y (s : Int32) => wp_X13_thereShare_19 _ m q s (rr (rr q 1) 8) y (up2 ww q 0 0 (rr (rr q 1) 8) 0) t n rr (up2 ww q 0 0) (1400 - 1) (12000 - 4)) nI (n (rr (rr q 1) 8)) (fun i s => s = nI (fTh w i)) (fun m s hs => ?_) (fun i m s hi hs hk => ?_) (n (rr (rr q 1) 8)) 0 0 (by omega) rfl
    · subst hs
      exact ⟨fun _ => z, fun g => absurd rfl g⟩
    · have ci : (nI i).toNatClampNeg = i := nI_cl (by omega)
      have r13 : up2 ww q 0 0 (rr (rr (rr q 1) 8) i) 5 = 0 ↔ w 13 i = 1 := h.k.rg0 hi
      refine ⟨fun g => ?_, fun _ => ⟨vp_nI hi (by omega), rfl, fun g => ?_, fun g => ?_⟩⟩
      · have := nI_inj (by omega) (by omega) g
        omega
      · rw [ci] at g
        have := hk (s + 1) (by
          rw [hs, show (1 : Int32) = nI 1 from rfl, nI_add]
          show _ = nI (fTh w i + (if w 13 i = 0 then 0 else 1))
          rw [if_neg (by rw [r13.mp g]; decide)])
        rw [nI_succ] at this
        exact this
      · rw [ci] at g
        have := hk (s + 0) (by
          rw [hs, show (0 : Int32) = nI 0 from rfl, nI_add]
          show _ = nI (fTh w i + (if w 13 i = 0 then 0 else 1))
          rw [if_pos ((hS.th i (by omega)).resolve_right fun y => g (r13.mpr y))])
        rw [nI_succ] at this
        exact this
  refine ⟨fun g => ?_, fun g => ⟨rfl, ?_⟩⟩
  · rw [hS.cC, show (1 : Int32) = nI 1 from rfl, nI_le2 (by omega) (by omega)] at g
    refine x_there hC hS.cC ?_
    rw [hS.cC]
    have hd := fp_div (x := nI (fTh w (n (rr (rr q 1) 8)))) (y := nI (n (rr (rr q 1) 8))) (by rw [nI_toInt (by omega)]; omega) (by rw [nI_toInt (by omega)]; omega)
    refine ⟨hd.1, hd.2, hmod _ _ ?_⟩
    rw [if_neg (by omega)]
    exact m_ok up2_q ⟨fun _ => ⟨hd.1, up2_q, fun _ => rfl, rf_T j r w sums ns sw np pw nf fw spw q t n rr ww hR _ up2_off⟩, fun z => absurd rfl z⟩
  · rw [hS.cC, show (1 : Int32) = nI 1 from rfl, nI_le2 (by omega) (by omega)] at g
    refine hmod _ _ ?_
    rw [if_pos (by omega)]
    exact m_bad up2_q (by decide) ⟨fun z => absurd z (by decide), fun _ => ⟨up2_q, fun z => absurd z (by decide), rf_T j r w sums ns sw np pw nf fw spw q t n rr ww hR _ up2_off2⟩⟩
def sWd (f : Nat → Int32) : Nat → Int32
  | 0 => 0
  | k + 1 => sWd f k + f k / fWid k
theorem sim_meanWind : SIM_meanWind RELF := by
  intro j r w sums ns sw np pw nf fw spw q t n rr ww hj hR
  obtain ⟨ow, h0⟩ := id hR
  have h := h0.beg
  refine ⟨12 + 1, loopG (fun m y (s : Int32) => wp_X8_meanWind_4 _ m s y r w) nI 12 (fun i s => s = sWd (w 6) i) (fun m s hs => ?_) (fun i m s hi hs hk => ?_) 12 0 0 (by omega) rfl⟩
  · subst hs
    refine ⟨fun _ => ⟨fp_mean _, fp_mean _, ?_⟩, fun g => absurd (Int32.le_refl _) g⟩
    unfold MM_meanWind wp_X13_meanWind
    refine m_begins (t := t) (n := n) (rr := rr) ⟨12 + 1, ?_⟩
    refine loopG (fun m y (s : Int32) => wp_X13_meanWind_8 _ t n rr m q s y (up2 ww q 0 0)) nI 12 (fun i s => s = sWd (w 6) i) (fun m s hs => ?_) (fun i m s hi hs hk => ?_) 12 0 0 (by omega) rfl
    · subst hs
      exact ⟨fun _ => ⟨fp_mean _, rfl, rf_T j r w sums ns sw np pw nf fw spw q t n rr ww hR _ up2_off⟩, fun g => absurd (Int32.le_refl _) g⟩
    · have ci : (nI i).toNatClampNeg = i := nI_cl (by omega)
      refine ⟨fun g => absurd g (by rw [show (12 : Int32) = nI 12 from rfl, nI_le2 (by omega) (by omega)]; omega), fun _ => m_wind (vp_nI hi (by omega)) ?_⟩
      rw [ci, h.k.rb hi]
      have := hk (s + w 6 i / fWid i) (by rw [hs]; rfl)
      rw [nI_succ] at this
      exact this
  · have ci : (nI i).toNatClampNeg = i := nI_cl (by omega)
    refine ⟨fun g => absurd g (by rw [show (12 : Int32) = nI 12 from rfl, nI_le2 (by omega) (by omega)]; omega), fun _ => x_wind (vp_nI hi (by omega)) ?_⟩
    rw [ci]
    have := hk (s + w 6 i / fWid i) (by rw [hs]; rfl)
    rw [nI_succ] at this
    exact this
/-- the class finds its world sound -/
theorem amt_ti {M B : Int} {w : Dt} (h : IC M B w) (hB : B ≤ 20000000) {k : Nat} (hk : k < 10) : (amt w k).toInt = sumI (fun v => (w (k + 22) v).toInt) 3 + sumI (fun v => (w (k + 10 + 22) v).toInt) 3 := by
  have a0 := h.le (p := k) (v := 0) (by omega) (by omega)
  have a1 := h.le (p := k) (v := 1) (by omega) (by omega)
  have a2 := h.le (p := k) (v := 2) (by omega) (by omega)
  have b0 := h.le (p := k + 10) (v := 0) (by omega) (by omega)
  have b1 := h.le (p := k + 10) (v := 1) (by omega) (by omega)
  have b2 := h.le (p := k + 10) (v := 2) (by omega) (by omega)
  have e0 : (0 : Int32).toInt = 0 := rfl
  have es : ∀ f : Nat → Int, sumI f 3 = 0 + f 0 + f 1 + f 2 := fun f => rfl
  unfold amt
  rw [show k + 32 = k + 10 + 22 by omega]
  have s1 : (0 + w (k + 10 + 22) 0).toInt = (w (k + 10 + 22) 0).toInt := by rw [ti_add (by omega) (by omega), e0]; omega
  have s2 : (0 + w (k + 10 + 22) 0 + w (k + 10 + 22) 1).toInt = (w (k + 10 + 22) 0).toInt + (w (k + 10 + 22) 1).toInt := by rw [ti_add (by omega) (by omega), s1]
  have s3 : (0 + w (k + 10 + 22) 0 + w (k + 10 + 22) 1 + w (k + 10 + 22) 2).toInt = (w (k + 10 + 22) 0).toInt + (w (k + 10 + 22) 1).toInt + (w (k + 10 + 22) 2).toInt := by rw [ti_add (by omega) (by omega), s2]
  have s4 : (0 + w (k + 10 + 22) 0 + w (k + 10 + 22) 1 + w (k + 10 + 22) 2 + w (k + 22) 0).toInt = (w (k + 10 + 22) 0).toInt + (w (k + 10 + 22) 1).toInt + (w (k + 10 + 22) 2).toInt + (w (k + 22) 0).toInt := by rw [ti_add (by omega) (by omega), s3]
  have s5 : (0 + w (k + 10 + 22) 0 + w (k + 10 + 22) 1 + w (k + 10 + 22) 2 + w (k + 22) 0 + w (k + 22) 1).toInt = (w (k + 10 + 22) 0).toInt + (w (k + 10 + 22) 1).toInt + (w (k + 10 + 22) 2).toInt + (w (k + 22) 0).toInt + (w (k + 22) 1).toInt := by rw [ti_add (by omega) (by omega), s4]
  rw [ti_add (by omega) (by omega), s5, es, es]
  omega
theorem sumI_add (f g : Nat → Int) : ∀ n : Nat, sumI (fun k => f k + g k) n = sumI f n + sumI g n
  | 0 => rfl
  | n + 1 => by
    show sumI (fun k => f k + g k) n + (f n + g n) = sumI f n + f n + (sumI g n + g n)
    rw [sumI_add f g n]
    omega
theorem sumI_app (f : Nat → Int) (m : Nat) : ∀ n : Nat, sumI f (m + n) = sumI f m + sumI (fun k => f (m + k)) n
  | 0 => by
    show sumI f m = sumI f m + 0
    omega
  | n + 1 => by
    show sumI f (m + n) + f (m + n) = sumI f m + (sumI (fun k => f (m + k)) n + f (m + n))
    rw [sumI_app f m n]
    omega
theorem amts {M B : Int} {w : Dt} (h : IC M B w) (hB : B ≤ 20000000) : sum32 (amt w) 10 = w 1 7 := by
  have e1 : sumI (fun k => (amt w k).toInt) 10 = TOT w := by
    rw [sumI_cg (g := fun k => sumI (fun v => (w (k + 22) v).toInt) 3 + sumI (fun v => (w (k + 10 + 22) v).toInt) 3) 10 (fun k hk => amt_ti h hB hk)]
    rw [sumI_add]
    unfold TOT
    rw [show (20 : Nat) = 10 + 10 from rfl, sumI_app]
    refine congrArg _ (sumI_cg 10 fun k hk => ?_)
    rw [show k + 10 = 10 + k by omega]
  have hnn : ∀ k, k < 10 → 0 ≤ (amt w k).toInt := fun k hk => by
    rw [amt_ti h hB hk]
    have a := (sumI_le (f := fun v => (w (k + 22) v).toInt) 3 (fun v hv => h.va k v (by omega) hv)).1
    have b := (sumI_le (f := fun v => (w (k + 10 + 22) v).toInt) 3 (fun v hv => h.va (k + 10) v (by omega) hv)).1
    omega
  apply ti_eq
  rw [sum32_ti (B := B) (by omega) 10 hnn (by rw [e1]; exact h.bnd), e1]
  exact h.tot
theorem x_bal {post : Int32 → Prop} {M B : Int} {w : Dt} (h : IC M B w) (hB : B ≤ 20000000) (hp : post 1) : wp_X1_isBalanced post w := by
  have ha := amts h hB
  have hd := h.deg
  refine ⟨10 + 1, loopG (σ := Int32 × Int32) (fun m y s => wp_X1_isBalanced_6 post m s.1 s.2 y w) nI 10 (fun i s => s.1 = sum32 (w 2) i ∧ s.2 = sum32 (amt w) i) (fun m s hs => ?_) (fun i m s hi hs hk => ?_) 10 0 (0, 0) (by omega) ⟨rfl, rfl⟩⟩
  · obtain ⟨s1, s2⟩ := s
    obtain ⟨h1, h2⟩ := hs
    dsimp only at h1 h2
    subst h1 h2
    exact ⟨fun _ => ⟨fun g => absurd hd g, fun _ => ⟨fun g => absurd ha g, fun _ => ⟨nw_bool (Or.inr rfl), hp⟩⟩⟩, fun g => absurd (Int32.le_refl _) g⟩
  · obtain ⟨s1, s2⟩ := s
    obtain ⟨h1, h2⟩ := hs
    dsimp only at h1 h2
    have ci : (nI i).toNatClampNeg = i := nI_cl (by omega)
    refine ⟨fun g => absurd g (by rw [show (10 : Int32) = nI 10 from rfl, nI_le2 (by omega) (by omega)]; omega), fun _ => ⟨vp_nI hi (by omega), fun v6 e6 => x_amt hi ?_⟩⟩
    rw [ci] at e6
    have := hk (v6, s2 + amt w i) ⟨by rw [e6]; dsimp only; rw [h1]; rfl, by dsimp only; rw [h2]; rfl⟩
    rw [nI_succ] at this
    exact this
theorem x_bel {post : Int32 → Prop} {U : Int} {w : Dt} (h : IB U w) (hp : post 1) : wp_X0_isBalanced post w := by
  refine ⟨12 + 1, loopG (σ := Int32) (fun m y s => wp_X0_isBalanced_7 post m s y w) nI 12 (fun i s => s = w 5 2 + sum32 (w 6) i) (fun m s hs => ?_) (fun i m s hi hs hk => ?_) 12 0 (w 5 2) (by omega) (by show w 5 2 = w 5 2 + 0; rw [Int32.add_zero])⟩
  · rw [h.bal] at hs
    exact ⟨fun _ => ⟨fun g => absurd hs g, fun _ => ⟨nw_bool (Or.inr rfl), hp⟩⟩, fun g => absurd (Int32.le_refl _) g⟩
  · have ci : (nI i).toNatClampNeg = i := nI_cl (by omega)
    refine ⟨fun g => absurd g (by rw [show (12 : Int32) = nI 12 from rfl, nI_le2 (by omega) (by omega)]; omega), fun _ => ⟨vp_nI hi (by omega), fun v5 e5 => ?_⟩⟩
    rw [ci] at e5
    rw [← nI_succ]
    refine hk v5 ?_
    rw [e5, hs]
    show w 5 2 + sum32 (w 6) i + w 6 i = w 5 2 + (sum32 (w 6) i + w 6 i)
    rw [Int32.add_assoc]
theorem x_single {post : Int32 → Prop} {w : Dt} {C D : Nat} {rk : Nat → Nat} (hS : IS w C D rk) (hp : post 1) : wp_X6_areNamesSingle post w := by
  have hC := hS.hC
  refine ⟨C + 1, loopG (σ := Unit) (fun m y _ => wp_X6_areNamesSingle_2 post m y w) nI C (fun _ _ => True) (fun m s hs => ?_) (fun i m s hi hs hk => ?_) C 0 () (by omega) trivial⟩
  · exact ⟨fun _ => hp, fun g => absurd ((lt_cnt hC hS.cC (by omega)).mpr (Nat.le_refl C)) g⟩
  · have ci : (nI i).toNatClampNeg = i := nI_cl (by omega)
    have hn := hk () trivial
    rw [nI_succ] at hn
    refine ⟨fun g => absurd ((lt_cnt hC hS.cC (by omega)).mp g) (by omega), fun _ => ⟨fun g => absurd g (by rw [show (12 : Int32) = nI 12 from rfl, nI_le2 (by omega) (by omega)]; omega), fun _ => ⟨vp_nI (by omega) (by omega), fun _ => ⟨fun _ => hn, fun z => absurd rfl z⟩, fun g => ⟨fun _ => ⟨fun _ => hn, fun z => absurd rfl z⟩, fun g2 => ⟨fun z => absurd z (by decide), fun _ => ⟨vp_nI (by omega) (by omega), ?_⟩⟩⟩⟩⟩⟩
    rw [ci] at g g2 ⊢
    refine x_bearer hC hS.cC (fun v hv => ⟨fun _ => hn, fun z => absurd ?_ z⟩)
    have ti : w 13 i = 1 := (hS.th i (by omega)).resolve_left g
    rcases hv with ⟨-, e⟩ | ⟨k, k1, k2, e⟩
    · exact absurd ⟨g, rfl⟩ (e i hi)
    · have tk : w 13 k = 1 := (hS.th k (by omega)).resolve_left k2.1
      rw [e, hS.na i k hi k1 ti tk k2.2.symm g2]
theorem x_sizes {post : Int32 → Prop} {w : Dt} {C D : Nat} {rk : Nat → Nat} (hS : IS w C D rk) (hp : post 1) : wp_X6_areSizesRight post w := by
  have hC := hS.hC
  refine ⟨C + 1, loopG (σ := Unit) (fun m y _ => wp_X6_areSizesRight_2 post m y w) nI C (fun _ _ => True) (fun m s hs => ?_) (fun i m s hi hs hk => ?_) C 0 () (by omega) trivial⟩
  · exact ⟨fun _ => hp, fun g => absurd ((lt_cnt hC hS.cC (by omega)).mpr (Nat.le_refl C)) g⟩
  · have ci : (nI i).toNatClampNeg = i := nI_cl (by omega)
    have hn := hk () trivial
    rw [nI_succ] at hn
    have sz : ¬ w 13 i = 0 → 10 ≤ (w 10 i).toInt ∧ (w 10 i).toInt ≤ 400 := fun g => hS.sz i hi ((hS.th i (by omega)).resolve_left g)
    refine ⟨fun g => absurd ((lt_cnt hC hS.cC (by omega)).mp g) (by omega), fun _ => ⟨fun g => absurd g (by rw [show (12 : Int32) = nI 12 from rfl, nI_le2 (by omega) (by omega)]; omega), fun _ => ⟨vp_nI (by omega) (by omega), fun g => ⟨vp_nI (by omega) (by omega), fun _ => hn, fun g2 => ?_⟩, fun _ => ⟨fun g => ⟨vp_nI (by omega) (by omega), fun _ => hn, fun g2 => ?_⟩, fun _ => ⟨vp_nI (by omega) (by omega), fun _ => hn, fun _ => ⟨fun _ => hn, fun z => absurd z (by decide)⟩⟩⟩⟩⟩⟩
    · rw [ci] at g g2
      rw [Int32.lt_iff_toInt_lt, show (10 : Int32).toInt = 10 from rfl] at g
      have := sz g2
      omega
    · rw [ci] at g g2
      rw [Int32.lt_iff_toInt_lt, show (400 : Int32).toInt = 400 from rfl] at g
      have := sz g2
      omega
theorem INVj.sum {j : Nat} {w : Dt} (h : INVj j w) {post : Int64 → Prop} (hp : post (fSum w)) : wp_X7_sumUp post w := by
  obtain ⟨C, D, rk, N, h1, h2⟩ := h.sn
  exact x_sumUp h1.hC h1.cC hp
theorem INVj.cnt {j : Nat} {w : Dt} (h : INVj j w) : cnt w ≤ 12 := by
  obtain ⟨C, D, rk, N, h1, h2⟩ := h.sn
  rw [cnt_eq h1.hC h1.cC]
  exact h1.hC
theorem sim_isSound : SIM_isSound RELF := by
  intro j r w sums ns sw np pw nf fw spw q t n rr ww hj hR
  obtain ⟨ow, h0⟩ := id hR
  have h := h0.beg
  obtain ⟨D, rk, N, hS, hI, hN⟩ := h.sn
  have mm : ∀ v : Dt, MM_isSound RELF j r w sums ns sw np pw nf fw v q t n rr ww 1 := fun v => by
    unfold MM_isSound wp_X13_isSound
    exact m_begins (t := t) (n := n) (rr := rr) ⟨rfl, rf_T j r w sums ns sw np pw nf fw v q t n rr ww hR _ up2_off⟩
  refine x_bal h.iv.ic (by omega) ⟨fun z => absurd z (by decide), fun _ => x_bel h.iv.ib ⟨fun z => absurd z (by decide), fun _ => x_single hS ⟨fun z => absurd z (by decide), fun _ => x_sizes hS ⟨fun z => absurd z (by decide), fun _ => ?_⟩⟩⟩⟩
  have key : ∀ d k : Nat, k + d = ns → wp_saves (fun r5 cw => (r5 = 0 → MM_isSound RELF j r w sums ns sw np pw nf fw cw q t n rr ww 0) ∧ (¬ r5 = 0 → MM_isSound RELF j r w sums ns sw np pw nf fw cw q t n rr ww 1)) w spw sums sw d k := by
    intro d
    induction d with
    | zero =>
      intro k hk
      refine x_copyFrom h.iv (fun s hs => ?_)
      have iv2 : INVj j s := h.iv.cg hs
      refine iv2.sum (h.iv.sum ?_)
      rw [fSum_cg (INVj.cnt h.iv) hs, if_pos rfl]
      exact ⟨fun z => absurd z (by decide), fun _ => mm s⟩
    | succ d ih =>
      intro k hk
      obtain ⟨s1, s2, s3⟩ := h.sv k (by omega)
      refine s2.sum ⟨fun _ => ih (k + 1) (by omega), fun z => absurd s3.symm z⟩
  exact key ns 0 (by omega)
