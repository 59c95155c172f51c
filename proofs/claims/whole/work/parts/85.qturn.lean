/-! THE PURE SIDE: scars, and a whole turn -/
abbrev IK (w : Dt) (S : Nat) : Prop := ∃ _ : (S ≤ 8), ∃ _ : (w 15 0 = nI S), (∀ i, i < S → vp_in (w 16 i) 12)
theorem IK.hS {w : Dt} {S : Nat} (h : IK w S) : S ≤ 8 := ex1 h
theorem IK.cS {w : Dt} {S : Nat} (h : IK w S) : w 15 0 = nI S := ex1 (ex2 h)
theorem IK.be {w : Dt} {S : Nat} (h : IK w S) : ∀ i, i < S → vp_in (w 16 i) 12 := ex2 (ex2 h)
theorem IK.cg {w v : Dt} {S : Nat} (h : IK w S) (hv : ∀ p k, 15 ≤ p → p ≤ 16 → dm p k → v p k = w p k) : IK v S := by
  have hS := h.hS
  exact ⟨hS, by rw [hv 15 0 (by omega) (by omega) (by unfold dm; omega)]; exact h.cS, fun i hi => by rw [hv 16 i (by omega) (by omega) (by unfold dm; omega)]; exact h.be i hi⟩
def fW1 (w : Dt) (i : Nat) : Dt := up2 w 17 i (w 17 i + (1 + shV (w 6) (w 16 i).toNatClampNeg / 20))
def cnS (w : Dt) : Nat := (w 15 0).toNatClampNeg
theorem cnS_eq {w : Dt} {S : Nat} (h : IK w S) : cnS w = S := by
  unfold cnS
  rw [h.cS, nI_cl (by have := h.hS; omega)]
def fWd (w : Dt) : Dt := itr fW1 w (cnS w)
theorem fW1_ne {w : Dt} {i p : Nat} (h : p ≠ 17) : fW1 w i p = w p := up2_ne h
theorem fWd_ne {w : Dt} {p : Nat} (h : p ≠ 17) : fWd w p = w p := itr_ne (fun v i => fW1_ne h) _ _
theorem IK.itr {w : Dt} {S : Nat} (h : IK w S) (i : Nat) : IK (itr fW1 w i) S := h.cg (fun p k h1 h2 _ => by rw [itr_ne (fun v i => fW1_ne (by omega))])
theorem x_widen {post : Dt → Prop} {w : Dt} {S : Nat} (hI : IK w S) (h : post (fWd w)) : wp_X5_widen post w := by
  have hS := hI.hS
  unfold fWd at h
  rw [cnS_eq hI] at h
  refine loopU (fun n y s => wp_X5_widen_2 post n y s) S (fun i s => s = itr fW1 w i) w rfl (fun n s hs => ?_) (fun i n s hi hs hk => ?_)
  · subst hs
    refine ⟨fun _ => h, fun g => absurd ?_ g⟩
    rw [(hI.itr S).cS]
    exact Int32.le_refl _
  · have hK := hI.itr i
    rw [← hs] at hK
    have ci : (nI i).toNatClampNeg = i := nI_cl (by omega)
    refine ⟨fun g => absurd g (by rw [hK.cS, nI_le2 (by omega) (by omega)]; omega), fun _ => ⟨fun g => absurd g (by rw [show (8 : Int32) = nI 8 from rfl, nI_le2 (by omega) (by omega)]; omega), fun _ => ⟨vp_nI (by omega) (by omega), ?_⟩⟩⟩
    rw [ci]
    refine x_shear (post := fun r1 => _) (hK.be i hi) (fun w5 e5 => ?_)
    rw [← nI_succ]
    refine hk w5 ?_
    rw [e5, hs]
    rfl
/-- a turn -/
def fGo (w : Dt) : Dt := up2 (fWd (fSt (fDr (fCol w)))) 0 5 (fWd (fSt (fDr (fCol w))) 0 5 + 1)
/-- all that holds of a world's data -/
abbrev INV (M B U T : Int) (w : Dt) : Prop := ∃ _ : (IC M B w), ∃ _ : (IB U w), ∃ _ : (∃ C, SN w C), ∃ _ : (∃ S, IK w S), (0 ≤ (w 0 5).toInt ∧ (w 0 5).toInt ≤ T)
theorem INV.ic {M B U T : Int} {w : Dt} (h : INV M B U T w) : IC M B w := ex1 h
theorem INV.ib {M B U T : Int} {w : Dt} (h : INV M B U T w) : IB U w := ex1 (ex2 h)
theorem INV.sn {M B U T : Int} {w : Dt} (h : INV M B U T w) : ∃ C, SN w C := ex1 (ex2 (ex2 h))
theorem INV.sk {M B U T : Int} {w : Dt} (h : INV M B U T w) : ∃ S, IK w S := ex1 (ex2 (ex2 (ex2 h)))
theorem INV.tu {M B U T : Int} {w : Dt} (h : INV M B U T w) : 0 ≤ (w 0 5).toInt ∧ (w 0 5).toInt ≤ T := ex2 (ex2 (ex2 (ex2 h)))
theorem SN.cg {w v : Dt} {C : Nat} (h : SN w C) (hv : ∀ p k, 7 ≤ p → p ≤ 21 → (p ≤ 14 ∨ 19 ≤ p) → dm p k → v p k = w p k) : SN v C := by
  obtain ⟨D, rk, N, h1, h2⟩ := h
  exact ⟨D, rk, N, h1.cg (fun p k a b d => hv p k (by omega) (by omega) (by omega) d), h2.cg (fun p k a b d => hv p k (by omega) (by omega) (by omega) d)⟩
theorem INV.cg {M B U T : Int} {w v : Dt} (h : INV M B U T w) (hv : ∀ p k, dm p k → v p k = w p k) : INV M B U T v := by
  obtain ⟨C, hC⟩ := h.sn
  obtain ⟨S, hS⟩ := h.sk
  exact ⟨h.ic.cg (fun p k _ d => hv p k d), h.ib.cg (fun p k _ _ d => hv p k d), ⟨C, hC.cg (fun p k _ _ _ d => hv p k d)⟩, ⟨S, hS.cg (fun p k _ _ d => hv p k d)⟩, by rw [hv 0 5 (by unfold dm; omega)]; exact h.tu⟩
theorem INV.mono {M B U T M' B' U' T' : Int} {w : Dt} (h : INV M B U T w) (h1 : M ≤ M') (h2 : B ≤ B') (h3 : U ≤ U') (h4 : T ≤ T') : INV M' B' U' T' w :=
  ⟨h.ic.mono h1 h2, h.ib.mono h3, h.sn, h.sk, by have := h.tu; omega⟩
theorem IB.cgr {U : Int} {w v : Dt} (h : IB U w) (h5 : v 5 = w 5) (h6 : v 6 = w 6) : IB U v := h.cg (fun p k a b _ => by
  have : p = 5 ∨ p = 6 := by omega
  rcases this with z | z
  · rw [z, h5]
  · rw [z, h6])
theorem INV.go {M B U T : Int} {w : Dt} (h : INV M B U T w) (hM : M ≤ 999000) (hB : B ≤ 20000000) (hU : U ≤ 1000000000) (hT : T ≤ 1000000000) : INV (M + 9) B U (T + 1) (fGo w) ∧ ∃ C, SN (fDr (fCol w)) C ∧ IB U (fCol w) ∧ IK (fSt (fDr (fCol w))) (cnS w) := by
  obtain ⟨C, hC⟩ := h.sn
  obtain ⟨S, hS⟩ := h.sk
  have c1 := h.ic.col hM hB
  have b1 : IB U (fCol w) := h.ib.cgr (fCol_ne (by omega) (by omega) (by omega)) (fCol_ne (by omega) (by omega) (by omega))
  have b2 := b1.drag hU
  have s1 : SN (fDr (fCol w)) C := hC.cg (fun p k a b _ _ => by rw [fDr_ne (by omega) (by omega), fCol_ne (by omega) (by omega) (by omega)])
  obtain ⟨C', -, s2⟩ := s1.st
  have k2 : IK (fSt (fDr (fCol w))) S := hS.cg (fun p k a b _ => by rw [fSt_ne (by omega), fDr_ne (by omega) (by omega), fCol_ne (by omega) (by omega) (by omega)])
  have hne : ∀ p, p ≠ 0 → p ≠ 17 → fGo w p = fSt (fDr (fCol w)) p := fun p h0 h17 => by
    unfold fGo
    rw [up2_ne h0, fWd_ne h17]
  have h0 : fGo w 0 5 = w 0 5 + 1 := by
    unfold fGo
    rw [up2_eq, fWd_ne (by omega), fSt_ne (by omega), fDr_ne (by omega) (by omega), fCol_ne (by omega) (by omega) (by omega)]
  have ht := h.tu
  have e1 : (w 0 5 + 1).toInt = (w 0 5).toInt + 1 := by rw [ti_add (by rw [show (1 : Int32).toInt = 1 from rfl]; omega) (by rw [show (1 : Int32).toInt = 1 from rfl]; omega)]; rfl
  refine ⟨⟨?_, ?_, ⟨C', ?_⟩, ⟨S, ?_⟩, ?_⟩, C, s1, b1, ?_⟩
  · refine c1.cg (fun p k hp hd => ?_)
    rw [hne p (by omega) (by omega), fSt_ne (by omega), fDr_ne (by omega) (by omega)]
  · exact b2.cgr (by rw [hne 5 (by omega) (by omega), fSt_ne (by omega)]) (by rw [hne 6 (by omega) (by omega), fSt_ne (by omega)])
  · refine SN.cg (w := fSt (fDr (fCol w))) s2 (fun p k a b c _ => ?_)
    rw [hne p (by omega) (by omega)]
  · exact k2.cg (fun p k a b _ => by rw [hne p (by omega) (by omega)])
  · rw [h0, e1]
    omega
  · rw [cnS_eq hS]
    exact k2
theorem x_go {post : Dt → Prop} {M B U T : Int} {w : Dt} (h : INV M B U T w) (hM : M ≤ 999000) (hB : B ≤ 20000000) (hU : U ≤ 1000000000) (hT : T ≤ 1000000000) (hp : post (fGo w)) : wp_X7_goOn post w := by
  obtain ⟨-, C, h1, h2, h3⟩ := h.go hM hB hU hT
  refine x_column (x_drag h2 hU (x_storms h1 (x_widen h3 (fun w5 e5 => ?_))))
  rw [e5]
  exact hp
section MGO
variable {ow0 n0 : Nat → Nat} {rr0 : Nat → Nat → Nat} {ww0 : Dt} {b a : Nat}
theorem m_storms {post : (Nat → Nat) → (Nat → Nat) → (Nat → Nat → Nat) → Dt → Prop} {ow t n : Nat → Nat} {rr : Nat → Nat → Nat} {ww w : Dt} {C : Nat} (h : GK ow0 n0 rr0 ww0 b a ow t n rr ww w) (hSN : SN w C) {B S : Nat} (hB : 2 * (wN (fSt w) - wN w) + 1 ≤ B ∧ 132 * (wN (fSt w) - wN w) + 4 ≤ S)
    (hp : ∀ ow' t' n' rr' ww', GK ow0 n0 rr0 ww0 b a ow' t' n' rr' ww' (fSt w) → post t' n' rr' ww') : wp_X12_storms post t n rr ww B S a := by
  have h1 := hSN.blow C
  have h2 := h1.meet C (Nat.le_refl C)
  have h3 := h2.tear C (Nat.le_refl C)
  have m0 : wN (itr fB1 w C) = wN w := by
    have : ∀ i, wN (itr fB1 w i) = wN w := fun i => itr_ind (N := i) (fun _ v => wN v = wN w) rfl (fun i v _ hv => (wN_b1 v i).trans hv) i (Nat.le_refl i)
    exact this C
  have m1 := wN_meet h1 C 0 (by omega)
  have m2 := wN_tear h2 C 0 (by omega)
  have m3 := wN_split h3 12 0 (by omega)
  rw [Nat.zero_add] at m1 m2 m3
  unfold fSt at hB hp
  rw [hSN.C.2] at hB hp
  refine ⟨by omega, by omega, m_blow h hSN (fun ww1 g1 => ?_)⟩
  refine m_meets g1 h1 (X := wN (itr fS1 (itr fT1 (itr (fMi C) (itr fB1 w C) C) C) 12)) (Nat.le_trans m2 m3) (by rw [m0]; omega) (fun ow2 t2 n2 r2 w2 B2 S2 g2 b2 => ?_)
  refine m_tear g2 h2 m3 b2 (fun ow3 t3 n3 r3 w3 B3 S3 g3 b3 => ?_)
  exact m_split g3 h3 (Nat.le_refl _) b3 hp
theorem m_lasts {post : (Nat → Nat) → (Nat → Nat) → (Nat → Nat → Nat) → Dt → Prop} {M B U T : Int} {ow t n : Nat → Nat} {rr : Nat → Nat → Nat} {ww w : Dt} (h : GK ow0 n0 rr0 ww0 b a ow t n rr ww w) (hI : INV M B U T w) (hM : M ≤ 999000) (hB : B ≤ 20000000) (hU : U ≤ 1000000000) (hT : T ≤ 1000000000) {bS sS : Nat} (hb : 2 * (wN (fGo w) - wN w) + 2 ≤ bS ∧ 132 * (wN (fGo w) - wN w) + 8 ≤ sS)
    (hp : ∀ ow' t' n' rr' ww', GK ow0 n0 rr0 ww0 b a ow' t' n' rr' ww' (fGo w) → post t' n' rr' ww') : wp_X12_lasts post t n rr ww bS sS a := by
  obtain ⟨-, C, h1, h2, h3⟩ := hI.go hM hB hU hT
  have e1 : wN (fDr (fCol w)) = wN w := wN_ne (by rw [fDr_ne (by omega) (by omega), fCol_ne (by omega) (by omega) (by omega)]) (by rw [fDr_ne (by omega) (by omega), fCol_ne (by omega) (by omega) (by omega)])
  have e2 : wN (fGo w) = wN (fSt (fDr (fCol w))) := by
    unfold fGo
    exact wN_ne (by rw [up2_ne (by omega), fWd_ne (by omega)]) (by rw [up2_ne (by omega), fWd_ne (by omega)])
  rw [e2, ← e1] at hb
  refine m_column hM hB h.wk hI.ic (fun w1 k1 => m_drags k1 h2 hU (fun w2 k2 => ?_))
  refine ⟨bS - 1, sS - 4, by omega, by omega, m_storms (h.st k2) h1 (by omega) (fun ow3 t3 n3 r3 w3 g3 => ⟨by omega, by omega, ?_⟩)⟩
  have hS := h3.hS
  have hn : n3 (r3 a 9) = cnS w := nI_inj (by have := g3.wr.nS; omega) (by omega) (g3.wr.cS.symm.trans h3.cS)
  have ecn : cnS (fSt (fDr (fCol w))) = cnS w := by
    rw [cnS_eq h3]
  generalize hu : fSt (fDr (fCol w)) = u at *
  refine loopU (fun m y s => wp_X12_lasts_22 post m a (r3 a 9) y (w3 (r3 a 9) 0) t3 n3 r3 s (bS - (bS - 1) - 1) (sS - (sS - 4) - 4)) (cnS w) (fun i s => GK ow0 n0 rr0 ww0 b a ow3 t3 n3 r3 s (itr fW1 u i) ∧ s (r3 a 9) 0 = w3 (r3 a 9) 0) w3 ⟨g3, rfl⟩ (fun m s hs => ?_) (fun i m s hi hs hk => ?_)
  · obtain ⟨hs, hm⟩ := hs
    refine ⟨fun _ w19 e19 => ?_, fun g => absurd ?_ g⟩
    · refine hp ow3 t3 n3 r3 w19 ?_
      have k := hs.wk.r11 (itr fW1 u (cnS w) 0 5 + 1)
      have : fGo w = up2 (itr fW1 u (cnS w)) 0 5 (itr fW1 u (cnS w) 0 5 + 1) := by
        unfold fGo fWd
        rw [hu, ecn]
      rw [this, e19, hs.wk.rr11]
      exact hs.st k
    · rw [hn]
  · obtain ⟨hs, hm⟩ := hs
    have hK := h3.itr i
    have hk2 : ∀ s', GK ow0 n0 rr0 ww0 b a ow3 t3 n3 r3 s' (fW1 (itr fW1 u i) i) → s' (r3 a 9) 0 = w3 (r3 a 9) 0 → wp_X12_lasts_22 post m a (r3 a 9) (nI (i + 1)) (w3 (r3 a 9) 0) t3 n3 r3 s' (bS - (bS - 1) - 1) (sS - (sS - 4) - 4) := fun s' a1 a2 => hk s' ⟨a1, a2⟩
    clear hk
    generalize itr fW1 u i = v at *
    have hw := hs.wk
    have ci : (nI i).toNatClampNeg = i := nI_cl (by omega)
    have hLne : r3 a 9 ≠ r3 (r3 a 9) i := fun z => by
      have e1 := hs.wr.osc i (by omega)
      rw [← z, hs.wr.o9] at e1
      omega
    have c16 : s (r3 (r3 a 9) i) 0 = v 16 i := hw.rc (p := 16) (Or.inl ⟨rfl, rfl⟩) (by omega)
    have c17 : s (r3 (r3 a 9) i) 2 = v 17 i := hw.rc (p := 17) (Or.inr (Or.inl ⟨rfl, rfl⟩)) (by omega)
    refine ⟨fun g => ?_, fun _ => ⟨?_, hm, ?_⟩⟩
    · rw [hn] at g
      have := nI_inj (by omega) (by omega) g
      omega
    · rw [hn]
      exact vp_nI hi (by omega)
    · rw [ci]
      have hb := hK.be i hi
      have hsh : shV (s (r3 a 5)) (v 16 i).toNatClampNeg = shV (v 6) (v 16 i).toNatClampNeg := shV_eq (vp_lt hb) (fun k hk => hw.rb hk)
      refine m_shear (by rw [c16]; exact hb) (fun w25 e25 => ?_)
      rw [c16, hsh] at e25
      rw [← nI_succ]
      have e25' : w25 = up2 s (r3 (r3 a 9) i) 2 (v 17 i + (1 + shV (v 6) (v 16 i).toNatClampNeg / 20)) := e25.trans (congrArg (fun y => up2 s (r3 (r3 a 9) i) 2 (y + (1 + shV (v 6) (v 16 i).toNatClampNeg / 20))) c17)
      refine hk2 w25 (hs.st ?_) ?_
      · rw [e25']
        exact hw.c2 (by omega) _
      · rw [e25', up2_nr hLne]
        exact hm
theorem wN_st {w : Dt} {C : Nat} (hSN : SN w C) : wN w ≤ wN (fSt w) := by
  have h1 := hSN.blow C
  have h2 := h1.meet C (Nat.le_refl C)
  have h3 := h2.tear C (Nat.le_refl C)
  have m0 : wN (itr fB1 w C) = wN w := by
    have : ∀ i, wN (itr fB1 w i) = wN w := fun i => itr_ind (N := i) (fun _ v => wN v = wN w) rfl (fun i v _ hv => (wN_b1 v i).trans hv) i (Nat.le_refl i)
    exact this C
  have m1 := wN_meet h1 C 0 (by omega)
  have m2 := wN_tear h2 C 0 (by omega)
  have m3 := wN_split h3 12 0 (by omega)
  rw [Nat.zero_add] at m1 m2 m3
  unfold fSt
  rw [hSN.C.2]
  have e0 : ∀ (f : Dt → Nat → Dt) (w : Dt), itr f w 0 = w := fun f w => rfl
  rw [e0] at m1 m2 m3
  omega
theorem wN_go {M B U T : Int} {w : Dt} (hI : INV M B U T w) (hM : M ≤ 999000) (hB : B ≤ 20000000) (hU : U ≤ 1000000000) (hT : T ≤ 1000000000) : wN w ≤ wN (fGo w) := by
  obtain ⟨-, C, h1, h2, h3⟩ := hI.go hM hB hU hT
  have e1 : wN (fDr (fCol w)) = wN w := wN_ne (by rw [fDr_ne (by omega) (by omega), fCol_ne (by omega) (by omega) (by omega)]) (by rw [fDr_ne (by omega) (by omega), fCol_ne (by omega) (by omega) (by omega)])
  have e2 : wN (fGo w) = wN (fSt (fDr (fCol w))) := by
    unfold fGo
    exact wN_ne (by rw [up2_ne (by omega), fWd_ne (by omega)]) (by rw [up2_ne (by omega), fWd_ne (by omega)])
  rw [e2, ← e1]
  exact wN_st h1
theorem wN_72 {M B U T : Int} {w : Dt} (hI : INV M B U T w) : wN w ≤ 72 := by
  obtain ⟨C, D, rk, N, h1, h2⟩ := hI.sn
  unfold wN
  rw [ntc_eq h2, cnt_eq h1.hC h1.cC]
  have := h1.hC
  have := h2.hN
  omega
end MGO
