/-! THE PURE SIDE: frames are taken -/
def fSe (w : Dt) (lon : Int32) (x : Dt) (i : Nat) : Dt :=
  if w 13 i = 0 then x else if 900 < dis (w 9 i) lon then x else up2 (up2 (up2 x 1 (x 0 1).toNatClampNeg (w 12 i)) 2 (x 0 1).toNatClampNeg (w 9 i)) 0 1 (x 0 1 + 1)
/-- the frame x while i storms have been looked at, K of them in it -/
abbrev FX (w x : Dt) (i K : Nat) : Prop := ∃ _ : (K ≤ i), ∃ _ : (x 0 1 = nI K), ∃ _ : (x 0 0 = w 0 5), ∃ _ : (∀ k, k < K → ∃ i', i' < i ∧ w 13 i' = 1 ∧ x 1 k = w 12 i' ∧ x 2 k = w 9 i'), (∀ k k', k < K → k' < K → x 1 k = x 1 k' → x 1 k ≠ 45 → k = k')
theorem FX.hK {w x : Dt} {i K : Nat} (h : FX w x i K) : K ≤ i := ex1 h
theorem FX.cK {w x : Dt} {i K : Nat} (h : FX w x i K) : x 0 1 = nI K := ex1 (ex2 h)
theorem FX.tk {w x : Dt} {i K : Nat} (h : FX w x i K) : x 0 0 = w 0 5 := ex1 (ex2 (ex2 h))
theorem FX.sr {w x : Dt} {i K : Nat} (h : FX w x i K) : ∀ k, k < K → ∃ i', i' < i ∧ w 13 i' = 1 ∧ x 1 k = w 12 i' ∧ x 2 k = w 9 i' := ex1 (ex2 (ex2 (ex2 h)))
theorem FX.un {w x : Dt} {i K : Nat} (h : FX w x i K) : ∀ k k', k < K → k' < K → x 1 k = x 1 k' → x 1 k ≠ 45 → k = k' := ex2 (ex2 (ex2 (ex2 h)))
theorem FX.skip {w x : Dt} {i K : Nat} (h : FX w x i K) : FX w x (i + 1) K :=
  ⟨by have := h.hK; omega, h.cK, h.tk, fun k hk => by
    obtain ⟨i', a, b⟩ := h.sr k hk
    exact ⟨i', by omega, b⟩, h.un⟩
theorem FX.add {w x : Dt} {C D : Nat} {rk : Nat → Nat} (hS : IS w C D rk) {i K : Nat} (h : FX w x i K) (hi : i < C) (t1 : w 13 i = 1) : FX w (up2 (up2 (up2 x 1 (x 0 1).toNatClampNeg (w 12 i)) 2 (x 0 1).toNatClampNeg (w 9 i)) 0 1 (x 0 1 + 1)) (i + 1) (K + 1) := by
  have hC := hS.hC
  have hK := h.hK
  have ck : (x 0 1).toNatClampNeg = K := by rw [h.cK, nI_cl (by omega)]
  rw [ck]
  have e1 : ∀ k, up2 (up2 (up2 x 1 K (w 12 i)) 2 K (w 9 i)) 0 1 (x 0 1 + 1) 1 k = if k = K then w 12 i else x 1 k := fun k => by
    rw [up2_nr (by omega), up2_nr (by omega)]
    by_cases z : k = K
    · rw [z, up2_eq, if_pos rfl]
    · rw [up2_nk z, if_neg z]
  have e2 : ∀ k, up2 (up2 (up2 x 1 K (w 12 i)) 2 K (w 9 i)) 0 1 (x 0 1 + 1) 2 k = if k = K then w 9 i else x 2 k := fun k => by
    rw [up2_nr (by omega)]
    by_cases z : k = K
    · rw [z, up2_eq, if_pos rfl]
    · rw [up2_nk z, if_neg z, up2_nr (by omega)]
  refine ⟨by omega, by rw [up2_eq, h.cK, nI_succ], by rw [up2_nk (by omega), up2_nr (by omega), up2_nr (by omega)]; exact h.tk, fun k hk => ?_, fun k k' hk hk' => ?_⟩
  · rw [e1, e2]
    by_cases z : k = K
    · rw [if_pos z, if_pos z]
      exact ⟨i, by omega, t1, rfl, rfl⟩
    · rw [if_neg z, if_neg z]
      obtain ⟨i', a, b⟩ := h.sr k (by omega)
      exact ⟨i', by omega, b⟩
  · have new : ∀ k, k < K → x 1 k = w 12 i → w 12 i ≠ 45 → False := fun k hk e ne => by
      obtain ⟨i', a, b, c, -⟩ := h.sr k hk
      have := hS.na i' i (by omega) hi b t1 (c.symm.trans e) (by rw [← c, e]; exact ne)
      omega
    rw [e1, e1]
    by_cases z : k = K
    · rw [if_pos z]
      by_cases z' : k' = K
      · exact fun _ _ => z.trans z'.symm
      · rw [if_neg z']
        exact fun q1 q2 => (new k' (by omega) q1.symm q2).elim
    · rw [if_neg z]
      by_cases z' : k' = K
      · rw [if_pos z']
        exact fun q1 q2 => (new k (by omega) q1 (by rw [← q1]; exact q2)).elim
      · rw [if_neg z']
        exact h.un k k' (by omega) (by omega)
theorem FX.step {w x : Dt} {C D : Nat} {rk : Nat → Nat} (hS : IS w C D rk) {i K : Nat} (h : FX w x i K) (hi : i < C) (lon : Int32) : ∃ K', FX w (fSe w lon x i) (i + 1) K' := by
  have hC := hS.hC
  unfold fSe
  split
  · exact ⟨K, h.skip⟩
  · rename_i t0
    split
    · exact ⟨K, h.skip⟩
    · exact ⟨K + 1, h.add hS hi ((hS.th i (by omega)).resolve_left t0)⟩
theorem FX.itr {w x : Dt} {C D : Nat} {rk : Nat → Nat} (hS : IS w C D rk) (h : FX w x 0 0) (lon : Int32) : ∀ i, i ≤ C → ∃ K, FX w (itr (fSe w lon) x i) i K :=
  itr_ind (fun i v => ∃ K, FX w v i K) ⟨0, h⟩ (fun i v hi hv => by
    obtain ⟨K, hv⟩ := hv
    exact hv.step hS hi lon)
theorem x_see {post : Dt → Prop} {w x : Dt} {C D : Nat} {rk : Nat → Nat} (hS : IS w C D rk) (hx : FX w x 0 0) {lon : Int32} (h : post (itr (fSe w lon) x C)) : wp_X2_see post x w lon := by
  have hC := hS.hC
  refine ⟨C + 1, loopG (σ := Dt) (fun m y s => wp_X2_see_2 post m lon y s w) nI C (fun i s => s = itr (fSe w lon) x i) (fun m s hs => ?_) (fun i m s hi hs hk => ?_) C 0 x (by omega) rfl⟩
  · subst hs
    exact ⟨fun _ => h, fun g => absurd ((lt_cnt hC hS.cC (by omega)).mpr (Nat.le_refl C)) g⟩
  · obtain ⟨K, hf⟩ := FX.itr hS hx lon i (by omega)
    rw [← hs] at hf
    have hK := hf.hK
    have ci : (nI i).toNatClampNeg = i := nI_cl (by omega)
    have hk2 : wp_X2_see_2 post m lon (nI (i + 1)) (fSe w lon s i) w := hk _ (by rw [hs]; rfl)
    rw [nI_succ] at hk2
    unfold fSe at hk2
    refine ⟨fun g => absurd ((lt_cnt hC hS.cC (by omega)).mp g) (by omega), fun _ => ⟨fun g => absurd g (by rw [show (12 : Int32) = nI 12 from rfl, nI_le2 (by omega) (by omega)]; omega), fun _ => ⟨vp_nI (by omega) (by omega), fun g => ?_, fun g => ?_⟩⟩⟩
    · rw [ci] at g
      rw [if_pos g] at hk2
      exact ⟨fun _ => hk2, fun z => absurd rfl z⟩
    · rw [ci] at g
      rw [if_neg g] at hk2
      rw [ci]
      refine x_dis ⟨fun g2 => ?_, fun g2 => ⟨fun z => absurd z (by decide), fun _ => ⟨fun z => absurd z ?_, fun _ => ⟨vp_nI (by omega) (by omega), ?_, ?_, fun w10 e10 => ?_⟩⟩⟩⟩
      · rw [if_pos g2] at hk2
        exact ⟨fun _ => hk2, fun z => absurd rfl z⟩
      · rw [hf.cK, show (12 : Int32) = nI 12 from rfl, nI_le2 (by omega) (by omega)]
        omega
      · rw [hf.cK]
        exact vp_nI (by omega) (by omega)
      · rw [ci]
        exact nw_char (hS.ch i (by omega))
      · rw [if_neg g2] at hk2
        rw [ci] at e10
        have e1 : w10 0 1 = s 0 1 := by rw [e10, up2_nr (by omega)]
        refine ⟨by rw [e1, hf.cK]; exact vp_nI (by omega) (by omega), fun w12 e12 w13 e13 => ?_⟩
        have e2 : w12 0 1 = s 0 1 := by rw [e12, up2_nr (by omega), e1]
        rw [e13, e2, e12, e1, e10]
        exact hk2
/-- a frame while it is taken in the store -/
abbrev FRK (ow0 n0 : Nat → Nat) (rr0 : Nat → Nat → Nat) (ww0 : Dt) (b f : Nat) (T : Int) (ow t n : Nat → Nat) (rr : Nat → Nat → Nat) (ww x : Dt) : Prop := ∃ _ : (1000 ≤ b), ∃ _ : (FRR ow n rr ww b f x T), ∃ _ : (∀ c, ow c ≠ 0 → t c ≠ 0), ∃ _ : (∀ c, ow0 c ≠ 0 → ow c = ow0 c ∧ n c = n0 c ∧ rr c = rr0 c ∧ ww c = ww0 c), (∀ c, ow c = ow0 c ∨ ow c = 9 ∨ (b < ow c ∧ ow c < b + 100))
theorem FRK.hb {ow0 n0 : Nat → Nat} {rr0 : Nat → Nat → Nat} {ww0 : Dt} {b f : Nat} {T : Int} {ow t n : Nat → Nat} {rr : Nat → Nat → Nat} {ww x : Dt} (h : FRK ow0 n0 rr0 ww0 b f T ow t n rr ww x) : 1000 ≤ b := ex1 h
theorem FRK.wr {ow0 n0 : Nat → Nat} {rr0 : Nat → Nat → Nat} {ww0 : Dt} {b f : Nat} {T : Int} {ow t n : Nat → Nat} {rr : Nat → Nat → Nat} {ww x : Dt} (h : FRK ow0 n0 rr0 ww0 b f T ow t n rr ww x) : FRR ow n rr ww b f x T := ex1 (ex2 h)
theorem FRK.fr {ow0 n0 : Nat → Nat} {rr0 : Nat → Nat → Nat} {ww0 : Dt} {b f : Nat} {T : Int} {ow t n : Nat → Nat} {rr : Nat → Nat → Nat} {ww x : Dt} (h : FRK ow0 n0 rr0 ww0 b f T ow t n rr ww x) : ∀ c, ow c ≠ 0 → t c ≠ 0 := ex1 (ex2 (ex2 h))
theorem FRK.ko {ow0 n0 : Nat → Nat} {rr0 : Nat → Nat → Nat} {ww0 : Dt} {b f : Nat} {T : Int} {ow t n : Nat → Nat} {rr : Nat → Nat → Nat} {ww x : Dt} (h : FRK ow0 n0 rr0 ww0 b f T ow t n rr ww x) : ∀ c, ow0 c ≠ 0 → ow c = ow0 c ∧ n c = n0 c ∧ rr c = rr0 c ∧ ww c = ww0 c := ex1 (ex2 (ex2 (ex2 h)))
theorem FRK.nw {ow0 n0 : Nat → Nat} {rr0 : Nat → Nat → Nat} {ww0 : Dt} {b f : Nat} {T : Int} {ow t n : Nat → Nat} {rr : Nat → Nat → Nat} {ww x : Dt} (h : FRK ow0 n0 rr0 ww0 b f T ow t n rr ww x) : ∀ c, ow c = ow0 c ∨ ow c = 9 ∨ (b < ow c ∧ ow c < b + 100) := ex2 (ex2 (ex2 (ex2 h)))
theorem FRK.app {ow0 n0 : Nat → Nat} {rr0 : Nat → Nat → Nat} {ww0 : Dt} {b f : Nat} {T : Int} {ow t n : Nat → Nat} {rr : Nat → Nat → Nat} {ww w x : Dt} (h : FRK ow0 n0 rr0 ww0 b f T ow t n rr ww x) (hfree : ∀ c, ¬ (b < ow0 c ∧ ow0 c < b + 100)) {C D : Nat} {rk : Nat → Nat} (hS : IS w C D rk) {i K : Nat} (hX : FX w x i K) (hi : i < C) (t1 : w 13 i = 1) {q : Nat} (hq : t q = 0) {t' n' : Nat → Nat} {rr' : Nat → Nat → Nat} {ww' : Dt} (et : t' = va_up t q 3) (en : n' = va_up n (rr f 1) (n (rr f 1) + 1)) (er : rr' = va_up rr (rr f 1) (va_up (rr (rr f 1)) (n (rr f 1)) q))
    (hw : ∀ c, c ≠ rr f 1 → c ≠ q → ww' c = ww c) (h4 : ww' q 4 = w 12 i) (h1 : ww' q 1 = w 9 i) : FRK ow0 n0 rr0 ww0 b f T (va_up ow q 9) t' n' rr' ww' (up2 (up2 (up2 x 1 (x 0 1).toNatClampNeg (w 12 i)) 2 (x 0 1).toNatClampNeg (w 9 i)) 0 1 (x 0 1 + 1)) := by
  have hC := hS.hC
  have hXK := hX.hK
  have F := h.wr
  have eK : n (rr f 1) = K := nI_inj (by have := F.nK; omega) (by omega) (F.cK.symm.trans hX.cK)
  have hqo : ow q = 0 := Decidable.byContradiction fun z => h.fr q z hq
  have hb := h.hb
  have hLo := F.o1
  have hLq : rr f 1 ≠ q := fun z => by rw [z, hqo] at hLo; omega
  have hfq : f ≠ q := fun z => by have := F.of; rw [z, hqo] at this; omega
  have hfL : f ≠ rr f 1 := fun z => by have := F.of; rw [z, hLo] at this; omega
  have X' := hX.add hS hi t1
  have hk : ∀ c, c ≠ rr f 1 → c ≠ q → va_up ow q 9 c = ow c ∧ n' c = n c ∧ rr' c = rr c ∧ ww' c = ww c := fun c a1 a2 => ⟨vup_ne a2, by rw [en, vup_ne a1], by rw [er, vup_ne a1], hw c a1 a2⟩
  have kf := hk f hfL hfq
  have erf : rr' f 1 = rr f 1 := by rw [kf.2.2.1]
  have nL : n' (rr f 1) = K + 1 := by rw [en, vup_eq, eK]
  have rL : rr' (rr f 1) = va_up (rr (rr f 1)) K q := by rw [er, vup_eq, eK]
  have ck : (x 0 1).toNatClampNeg = K := by rw [hX.cK, nI_cl (by omega)]
  have old : ∀ k, k < K → rr (rr f 1) k ≠ rr f 1 ∧ rr (rr f 1) k ≠ q := fun k hk' => by
    have e := F.os k (by omega)
    exact ⟨fun z => by rw [z, hLo] at e; omega, fun z => by rw [z, hqo] at e; omega⟩
  refine ⟨hb, ?_, fun c hc => ?_, fun c hc => ?_, fun c => ?_⟩
  · refine ⟨kf.1.trans F.of, by rw [erf, vup_ne hLq]; exact hLo, by rw [erf, nL]; omega, by rw [erf, nL]; exact X'.cK, ?_, ?_, ?_, ?_, ?_, by rw [erf, nL]; exact X'.un⟩
    · rw [up2_nk (by omega), up2_nr (by omega), up2_nr (by omega), kf.2.2.2]
      exact F.tk
    · rw [up2_nk (by omega), up2_nr (by omega), up2_nr (by omega)]
      exact F.tr
    · rw [erf, nL, rL]
      intro k hk'
      by_cases z : k = K
      · rw [z, vup_eq, vup_eq]
      · rw [vup_ne z, vup_ne (old k (by omega)).2]
        exact F.os k (by omega)
    · rw [erf, nL, rL, ck]
      intro k hk'
      rw [up2_nr (by omega), up2_nr (by omega)]
      by_cases z : k = K
      · rw [z, vup_eq, up2_eq, h4]
      · rw [vup_ne z, up2_nk z, hw _ (old k (by omega)).1 (old k (by omega)).2]
        exact F.nm k (by omega)
    · rw [erf, nL, rL, ck]
      intro k hk'
      rw [up2_nr (by omega)]
      by_cases z : k = K
      · rw [z, vup_eq, up2_eq, h1]
        exact ⟨rfl, hS.lo i hi⟩
      · rw [vup_ne z, up2_nk z, up2_nr (by omega), hw _ (old k (by omega)).1 (old k (by omega)).2]
        exact F.pl k (by omega)
  · rw [et]
    by_cases z : c = q
    · rw [z, vup_eq]
      decide
    · rw [vup_ne z]
      rw [vup_ne z] at hc
      exact h.fr c hc
  · obtain ⟨g1, g2, g3, g4⟩ := h.ko c hc
    have hcL : c ≠ rr f 1 := fun z => by
      rw [z] at g1
      have := hfree (rr f 1)
      rw [← g1, hLo] at this
      omega
    have hcq : c ≠ q := fun z => by rw [z, hqo] at g1; exact hc (by rw [z]; exact g1.symm)
    obtain ⟨k1, k2, k3, k4⟩ := hk c hcL hcq
    exact ⟨k1.trans g1, k2.trans g2, k3.trans g3, k4.trans g4⟩
  · by_cases z : c = q
    · rw [z, vup_eq]
      exact Or.inr (Or.inl rfl)
    · rw [vup_ne z]
      exact h.nw c
set_option maxHeartbeats 4000000 in
theorem sim_frame : SIM_frame RELF := by
  intro j r w sums ns sw np pw nf fw spw q t n rr ww hj hR x1
  obtain ⟨ow, h0⟩ := id hR
  have h := h0.beg
  have f0 : (0 : Int32).toInt = 0 := rfl
  have f9 : (3599 : Int32).toInt = 3599 := rfl
  obtain ⟨hr1, hr2, hr3⟩ := h.rf
  obtain ⟨D, rk, N, hS, hI, hN⟩ := h.sn
  have hC := hS.hC
  have bad : ∀ k : Int32, ¬ k = 0 → (up2 (up2 ww q 0 0) q 0 k) q 0 = k ∧ (k = 0 → (0 : Int32) = -1) ∧ RELF (j + 1) r w sums ns sw np pw nf fw spw q t n rr (up2 (up2 ww q 0 0) q 0 k) := fun k hk => ⟨up2_q, fun z => absurd z hk, rf_T j r w sums ns sw np pw nf fw spw q t n rr ww hR _ up2_off2⟩
  unfold wp_X8_frame
  rw [hr1]
  refine x_rng (fun a b => x_room (C := nf) (N := 6) rfl (by omega) (by omega) (fun hlt => ⟨rfl, hlt, ?_⟩) (fun hge => ⟨Or.inr rfl, ?_⟩)) (fun hout => ⟨Or.inl rfl, ?_⟩)
  · have hx0 : FX w (frW (w 0 5)) 0 0 := ⟨Nat.le_refl 0, rfl, rfl, fun k hk => absurd hk (by omega), fun k k' hk => absurd hk (by omega)⟩
    refine x_see hS hx0 ?_
    unfold MM_frame wp_X13_frame
    refine m_begins (t := t) (n := n) (rr := rr) (m_place (fun _ _ => ⟨fun _ => m_ok up2_q ⟨fun z => absurd rfl z, fun _ => ⟨fun _ => m_ok up2_q ⟨fun _ => ⟨by omega, by omega, fun q12 t16 n17 r18 w19 hnew w23 e23 => ⟨by omega, by omega, ?_⟩⟩, fun z => absurd rfl z⟩, fun z => ?_⟩⟩, fun z => absurd z (by decide)⟩) (fun z => absurd ⟨by omega, by omega⟩ z))
    · obtain ⟨q1, hqq, tq, tq1, et, en, er, ew⟩ := hnew
      have hns := h.rs.2.1
      have hnp := h.rp.2.1
      have hfree : ∀ c, ¬ (20000 + 100 * nf < ow c ∧ ow c < 20000 + 100 * nf + 100) := fun c z => by
        have := h.cap c
        omega
      have oq0 : ow q12 = 0 := Decidable.byContradiction fun z => h.fr q12 z tq
      have oq1 : ow q1 = 0 := Decidable.byContradiction fun z => h.fr q1 z tq1
      have hne : ∀ c, ow c ≠ 0 → c ≠ q12 ∧ c ≠ q1 := fun c hc => ⟨fun z => hc (by rw [z]; exact oq0), fun z => hc (by rw [z]; exact oq1)⟩
      have hqne := hne q (by rw [h.oq]; omega)
      have hane := hne (rr q 1) (by rw [h.wr.oa]; omega)
      have old1 : ∀ c, ow c ≠ 0 → n17 c = n c ∧ r18 c = rr c ∧ w23 c = up2 ww q 0 0 c := fun c hc => by
        obtain ⟨a1, a2⟩ := hne c hc
        exact ⟨by rw [en, vup_ne a2], by rw [er, vup_ne a1], by rw [e23, up2_ne a1, ew, vup_ne a1, vup_ne a2]⟩
      have er1 : r18 q = rr q := (old1 q (by rw [h.oq]; omega)).2.1
      have e11 : w19 (r18 q 1) 11 = w 0 5 := by
        rw [er1, ew, vup_ne hane.1, vup_ne hane.2]
        exact h.k.rr11
      rw [e11] at e23
      have hfk : FRK ow n rr (up2 ww q 0 0) (20000 + 100 * nf) q12 (200 * ((j + 1 : Nat) : Int)) (va_up (va_up ow q12 (20000 + 100 * nf + 1)) q1 (20000 + 100 * nf + 2)) t16 n17 r18 w23 (frW (w 0 5)) := by
        have e12 : r18 q12 1 = q1 := by rw [er, vup_eq]
        have n1 : n17 q1 = 0 := by rw [en, vup_eq]
        refine ⟨by omega, ⟨by rw [vup_ne (by omega), vup_eq], by rw [e12, vup_eq], by rw [e12, n1]; omega, by rw [e12, n1]; rfl, by rw [e23, up2_eq]; rfl, ?_, fun k hk => by rw [e12, n1] at hk; omega, fun k hk => by rw [e12, n1] at hk; omega, fun k hk => by rw [e12, n1] at hk; omega, fun k k' hk => by rw [e12, n1] at hk; omega⟩, fun c hc => ?_, fun c hc => ?_, fun c => ?_⟩
        · have := h.iv.tu
          show 0 ≤ (w 0 5).toInt ∧ (w 0 5).toInt ≤ 200 * ((j + 1 : Nat) : Int)
          omega
        · rw [et]
          by_cases z : c = q12
          · rw [z, vup_eq]; decide
          · rw [vup_ne z]
            by_cases z1 : c = q1
            · rw [z1, vup_eq]; decide
            · rw [vup_ne z1]
              rw [vup_ne z1, vup_ne z] at hc
              exact h.fr c hc
        · obtain ⟨a1, a2⟩ := hne c hc
          obtain ⟨b1, b2, b3⟩ := old1 c hc
          exact ⟨by rw [vup_ne a2, vup_ne a1], b1, b2, b3⟩
        · by_cases z1 : c = q1
          · rw [z1, vup_eq]; omega
          · rw [vup_ne z1]
            by_cases z : c = q12
            · rw [z, vup_eq]; omega
            · rw [vup_ne z]
              exact Or.inl rfl
      have hL8 := old1 (rr (rr q 1) 8) (by rw [h.wr.o8]; omega)
      have era : r18 (rr q 1) = rr (rr q 1) := (old1 (rr q 1) (by rw [h.wr.oa]; omega)).2.1
      rw [er1, era, hL8.2.2]
      refine loopU (σ := Sto) (fun m y s => wp_X13_frame_85 _ m q x1 q12 (rr (rr q 1) 8) y (up2 ww q 0 0 (rr (rr q 1) 8) 0) s.1 s.2.1 s.2.2.1 s.2.2.2.1 s.2.2.2.2.1 s.2.2.2.2.2) (n (rr (rr q 1) 8)) (fun i s => (∃ ow', FRK ow n rr (up2 ww q 0 0) (20000 + 100 * nf) q12 (200 * ((j + 1 : Nat) : Int)) ow' s.1 s.2.1 s.2.2.1 s.2.2.2.1 (itr (fSe w x1) (frW (w 0 5)) i)) ∧ 2 * (12 - i) + 10 ≤ s.2.2.2.2.1 ∧ 50 * (12 - i) + 100 ≤ s.2.2.2.2.2) (t16, n17, r18, w23, 1400 - 2 - 1, 12000 - 5 - 4) ⟨⟨_, hfk⟩, by dsimp only; omega, by dsimp only; omega⟩ (fun m s hs => ?_) (fun i m s hi hs hk => ?_)
      · obtain ⟨t', n', rr', ww', B', S'⟩ := s
        obtain ⟨⟨ow', hg⟩, hb1, hb2⟩ := hs
        dsimp only at hg hb1 hb2
        have k8 := hg.ko (rr (rr q 1) 8) (by rw [h.wr.o8]; omega)
        have kq := hg.ko q (by rw [h.oq]; omega)
        have k4 := hg.ko (rr q 4) (by rw [h.o4]; omega)
        have erq : rr' q 4 = rr q 4 := by rw [kq.2.2.1]
        have en4 : n' (rr q 4) = nf := k4.2.1.trans hr3
        refine ⟨fun _ => ?_, fun g => absurd (by dsimp only; rw [k8.2.1]) g⟩
        dsimp only
        rw [erq, en4]
        refine ⟨by omega, by omega, by omega, fun n35 e35 r36 e36 w37 e37 => ?_⟩
        have hk1 : ∀ c, c ≠ rr q 4 → n35 c = n' c ∧ r36 c = rr' c ∧ w37 c = ww' c := fun c hc => ⟨by rw [e35, vup_ne hc], by rw [e36, vup_ne hc], by rw [e37, up2_ne hc]⟩
        have hk2 : ∀ c, ow c ≠ 0 → ow c ≠ 4 → ow' c = ow c ∧ n35 c = n c ∧ r36 c = rr c ∧ w37 c = up2 ww q 0 0 c := fun c h0 h2 => by
          obtain ⟨a1, a2, a3, a4⟩ := hg.ko c h0
          obtain ⟨b1, b2, b3⟩ := hk1 c (fun z => h2 (by rw [z]; exact h.o4))
          exact ⟨a1, b1.trans a2, b2.trans a3, b3.trans a4⟩
        have eq := hk2 q (by rw [h.oq]; omega) (by rw [h.oq]; omega)
        have e2 := hk2 (rr q 2) (by rw [h.o2]; omega) (by rw [h.o2]; omega)
        have e3 := hk2 (rr q 3) (by rw [h.o3]; omega) (by rw [h.o3]; omega)
        have erq' : r36 q = rr q := eq.2.2.1
        have n4 : n35 (rr q 4) = nf + 1 := by rw [e35, vup_eq]
        have r4 : r36 (rr q 4) = va_up (rr (rr q 4)) nf q12 := by rw [e36, vup_eq, k4.2.2.1]
        have harg : nI (n35 (r36 q 4)) - 1 = nI nf := by
          rw [erq', n4, nI_succ]
          exact q_r1 _
        rw [harg]
        refine ⟨by rw [eq.2.2.2]; exact up2_q, fun _ => rfl, ow', hg.fr, eq.1.trans h.oq, by rw [erq', e2.1, h.o2], by rw [erq', e3.1, h.o3], by rw [erq', k4.1, h.o4], ?_, h.iv.mono, ?_, fun i hi => ?_, ?_, fun i hi => ?_, ?_, fun i hi => ?_, fun c => ?_⟩
        · rw [erq']
          exact h.wr.keep (fun c hc => hk2 c (by omega) (by omega))
        · exact ⟨by rw [up2_nk (by omega)]; exact h.rs.1, h.rs.2.1, by rw [erq', e2.2.1]; exact h.rs.2.2⟩
        · rw [erq', e2.2.2.1]
          obtain ⟨s1, s2, s3⟩ := h.sv i hi
          exact ⟨s1.keep (fun c hc => hk2 c (by omega) (by omega)), s2.mono, s3⟩
        · exact ⟨by rw [up2_nk (by omega)]; exact h.rp.1, h.rp.2.1, by rw [erq', e3.2.1]; exact h.rp.2.2⟩
        · obtain ⟨tk, lvl, hp⟩ := h.pb i hi
          rw [erq', e3.2.2.1]
          exact ⟨tk, lvl, hp.keep (fun c hc => hk2 c (by omega) (by omega))⟩
        · exact ⟨by rw [up2_eq, nI_succ], by omega, by rw [erq', n4]⟩
        · rw [erq', r4]
          by_cases z : i = nf
          · subst z
            rw [vup_eq, vup_eq]
            refine hg.wr.keep (fun c hc => ⟨rfl, hk1 c (fun z => ?_)⟩)
            rw [z, k4.1, h.o4] at hc
            omega
          · rw [vup_ne z, vup_ne z]
            exact (h.mono.fb i (by omega)).keep (fun c hc => hk2 c (by omega) (by omega))
        · have := h.cap c
          rcases hg.nw c with z | z | z
          · rw [z]; omega
          · omega
          · omega
      · obtain ⟨t', n', rr', ww', B', S'⟩ := s
        obtain ⟨⟨ow', hg⟩, hb1, hb2⟩ := hs
        dsimp only at hg hb1 hb2
        obtain ⟨K, hX⟩ := FX.itr hS hx0 x1 i (by omega)
        have k8 := hg.ko (rr (rr q 1) 8) (by rw [h.wr.o8]; omega)
        have ke := hg.ko (rr (rr (rr q 1) 8) i) (by rw [h.wr.os i hi]; omega)
        have ci : (nI i).toNatClampNeg = i := nI_cl (by omega)
        have r13 : up2 ww q 0 0 (rr (rr (rr q 1) 8) i) 5 = 0 ↔ w 13 i = 1 := h.k.rg0 hi
        have r9 : up2 ww q 0 0 (rr (rr (rr q 1) 8) i) 1 = w 9 i := h.k.rs (p := 9) (by omega) (by omega) hi
        have estep : itr (fSe w x1) (frW (w 0 5)) (i + 1) = fSe w x1 (itr (fSe w x1) (frW (w 0 5)) i) i := rfl
        have hcont : ∀ t2 n2 r2 w2 B2 S2, (∃ ow', FRK ow n rr (up2 ww q 0 0) (20000 + 100 * nf) q12 (200 * ((j + 1 : Nat) : Int)) ow' t2 n2 r2 w2 (fSe w x1 (itr (fSe w x1) (frW (w 0 5)) i) i)) → 2 * (12 - (i + 1)) + 10 ≤ B2 → 50 * (12 - (i + 1)) + 100 ≤ S2 → _ := fun t2 n2 r2 w2 B2 S2 a1 a2 a3 => hk (t2, n2, r2, w2, B2, S2) ⟨a1, a2, a3⟩
        dsimp only at hcont
        rw [nI_succ] at hcont
        clear hk
        generalize itr (fSe w x1) (frW (w 0 5)) i = u at *
        unfold fSe at hcont
        refine ⟨fun g => ?_, fun _ => ⟨?_, ?_, ?_⟩⟩
        · dsimp only at g
          rw [k8.2.1] at g
          have := nI_inj (by omega) (by omega) g
          omega
        · dsimp only
          rw [k8.2.1]
          exact vp_nI hi (by omega)
        · dsimp only
          rw [k8.2.2.2]
        · dsimp only
          rw [ci, k8.2.2.1, ke.2.2.2, r9]
          refine x_fm ?_
          rw [dis_eq (hS.lo i hi) ⟨by omega, by omega⟩]
          refine ⟨fun g => ?_, fun g => ⟨fun g2 => ?_, fun g2 => ⟨1, 7, by omega, by omega, ?_⟩⟩⟩
          · rw [if_pos ((hS.th i (by omega)).resolve_right fun z => g (r13.mpr z))] at hcont
            exact hcont t' n' rr' ww' B' S' ⟨ow', hg⟩ (by omega) (by omega)
          · rw [if_neg (by rw [r13.mp g]; decide), if_pos g2] at hcont
            exact hcont t' n' rr' ww' B' S' ⟨ow', hg⟩ (by omega) (by omega)
          · rw [if_neg (by rw [r13.mp g]; decide), if_neg g2] at hcont
            have t1 := r13.mp g
            have hnm := h.wr.nm i hi t1
            have he0 : t' (rr (rr (rr q 1) 8) i) ≠ 0 := hg.fr _ (by rw [ke.1, h.wr.os i hi]; omega)
            refine m_scopy ⟨Nat.le_refl 1, Nat.le_refl 7⟩ he0 (by rw [ke.2.2.2, ← hnm]; exact hS.ch i (by omega)) (by rw [ke.2.2.2]; exact Or.inl g) (fun q2 w54 hq2 hw54 hq54 => ?_)
            have hF := hg.wr
            have hqo : ow' q2 = 0 := Decidable.byContradiction fun z => hg.fr q2 z hq2
            have hLq : rr' q12 1 ≠ q2 := fun z => by
              have := hF.o1
              rw [z, hqo] at this
              omega
            have hnK := hF.nK
            have hKi : n' (rr' q12 1) = K := nI_inj (by omega) (by have := hX.hK; omega) (hF.cK.symm.trans hX.cK)
            have hKl := hX.hK
            refine ⟨by omega, by omega, by omega, fun n64 e64 r65 e65 w66 e66 => ?_⟩
            have hg2 := hg.app hfree hS hX hi t1 hq2 rfl e64 e65 (ww' := w66) (fun c a1 a2 => by rw [e66, up2_ne a1, hw54 c a2]) (by rw [e66, up2_nr (Ne.symm hLq), hq54 4 (by omega), ke.2.2.2, ← hnm]) (by rw [e66, up2_nr (Ne.symm hLq), hq54 1 (by omega), ke.2.2.2, r9])
            exact hcont _ _ _ _ _ _ ⟨_, hg2⟩ (by omega) (by omega)
    · rw [hr3] at z
      have := nI_inj (by omega) (by omega) (show nI nf = nI 6 from z)
      omega
  · unfold MM_frame wp_X13_frame
    refine m_begins (t := t) (n := n) (rr := rr) (m_place (fun _ _ => ⟨fun _ => m_ok up2_q ⟨fun z => absurd rfl z, fun _ => ⟨fun z => absurd (by rw [hr3, show nf = 6 by omega]; rfl) z, fun _ => m_bad up2_q (by decide) ⟨fun z => absurd z (by decide), fun _ => bad 2 (by decide)⟩⟩⟩, fun z => absurd z (by decide)⟩) (fun z => absurd ⟨by omega, by omega⟩ z))
  · unfold MM_frame wp_X13_frame
    exact m_begins (t := t) (n := n) (rr := rr) (m_place (fun c d => absurd ⟨by omega, by omega⟩ hout) (fun _ => ⟨fun z => absurd rfl z, fun _ => m_bad up2_q (by decide) ⟨fun _ => bad 1 (by decide), fun z => absurd z (by decide)⟩⟩))
