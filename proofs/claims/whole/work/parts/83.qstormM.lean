/-! THE PURE SIDE: a turn of storms in the model -/
def wN (w : Dt) : Nat := ntc w + cnt w
theorem itr_le {f : Dt → Nat → Dt} {w : Dt} (g : Dt → Nat) {N : Nat} (h : ∀ i, i < N → g (itr f w i) ≤ g (itr f w (i + 1))) : ∀ d i, i + d ≤ N → g (itr f w i) ≤ g (itr f w (i + d))
  | 0, _, _ => Nat.le_refl _
  | d + 1, i, e => Nat.le_trans (itr_le g h d i (by omega)) (h (i + d) (by omega))
theorem wN_ne {w v : Dt} (h7 : v 7 = w 7) (h19 : v 19 = w 19) : wN v = wN w := by
  unfold wN
  rw [ntc_ne h19, cnt_ne h7]
theorem wN_b1 (w : Dt) (i : Nat) : wN (fB1 w i) = wN w := wN_ne (fB1_ne (by omega) (by omega)) (fB1_ne (by omega) (by omega))
theorem wN_mt {w : Dt} {C : Nat} (h : SN w C) (i j : Nat) : wN w ≤ wN (fMt w i j) := by
  obtain ⟨D, rk, N, h1, h2⟩ := h
  have hN := h2.hN
  unfold wN
  rw [cnt_ne (fMt_ne (by omega)), ntc_mt h2, ntc_eq h2]
  split <;> omega
theorem wN_mi {w : Dt} {C : Nat} (h : SN w C) (i : Nat) : ∀ d e, e + d ≤ C - (i + 1) → wN (itr (fun w d => fMt w i (i + 1 + d)) w e) ≤ wN (itr (fun w d => fMt w i (i + 1 + d)) w (e + d)) :=
  itr_le wN (fun k hk => wN_mt (h.mi k (by omega)) _ _)
theorem wN_meet {w : Dt} {C : Nat} (h : SN w C) : ∀ d e, e + d ≤ C → wN (itr (fMi C) w e) ≤ wN (itr (fMi C) w (e + d)) :=
  itr_le wN (fun k hk => by
    have := wN_mi (h.meet k (by omega)) k (C - (k + 1)) 0 (by omega)
    rw [Nat.zero_add] at this
    exact this)
theorem ntc_t1 {w : Dt} {N : Nat} (h : IN w N) (i : Nat) : ntc (fT1 w i) = N ∨ ntc (fT1 w i) = min 60 (N + 1) := by
  unfold fT1
  split
  · exact Or.inl (ntc_eq h)
  · split
    · exact Or.inl (ntc_eq h)
    · split
      · exact Or.inl ((ntc_ne (up2_ne (by omega))).trans (ntc_eq h))
      · exact Or.inr (ntc_wr (h.cg (fun p k a b _ => by rw [up2_ne (by omega), up2_ne (by omega)])) rfl _)
theorem wN_t1 {w : Dt} {C : Nat} (h : SN w C) (i : Nat) : wN w ≤ wN (fT1 w i) := by
  obtain ⟨D, rk, N, h1, h2⟩ := h
  have hN := h2.hN
  unfold wN
  rw [cnt_ne (fT1_ne (by omega)), ntc_eq h2]
  rcases ntc_t1 h2 i with e | e <;> omega
theorem wN_tear {w : Dt} {C : Nat} (h : SN w C) : ∀ d e, e + d ≤ C → wN (itr fT1 w e) ≤ wN (itr fT1 w (e + d)) :=
  itr_le wN (fun k hk => wN_t1 (h.tear k (by omega)) k)
theorem wN_s1 {w : Dt} {C : Nat} (h : SN w C) {i : Nat} (hi12 : i < 12) : wN w ≤ wN (fS1 w i) := by
  obtain ⟨D, rk, N, h1, h2⟩ := h
  have hN := h2.hN
  have hC := h1.hC
  unfold fS1
  split
  · exact Nat.le_refl _
  · rename_i g0
    have hi : i < C := Nat.not_le.mp fun q => g0 ((lt_cnt hC h1.cC (by omega)).mpr q)
    split
    · exact Nat.le_refl _
    · rename_i g1
      split
      · exact Nat.le_refl _
      · rename_i g2
        split
        · exact Nat.le_refl _
        · rename_i g3
          have hC2 : C < 12 := Nat.not_le.mp fun q => g3 (by rw [h1.cC, show (12 : Int32) = nI 12 from rfl, nI_le2 (by omega) (by omega)]; exact q)
          obtain ⟨q1, q2, q3⟩ := s1_ok h1 h2 hi g1 g2 hC2
          unfold wN
          rw [ntc_wr q2 rfl, cnt_ne (fWr_ne (by omega)), cnt_eq q1.hC q1.cC, cnt_eq hC h1.cC, ntc_eq h2]
          omega
theorem wN_split {w : Dt} {C : Nat} (h : SN w C) : ∀ d e, e + d ≤ 12 → wN (itr fS1 w e) ≤ wN (itr fS1 w (e + d)) :=
  itr_le wN (fun k hk => by
    obtain ⟨C', q1, q2⟩ := SS.itr h k (by omega)
    exact wN_s1 q2.1 hk)
abbrev Sto : Type := (Nat → Nat) × (Nat → Nat) × (Nat → Nat → Nat) × Dt × Nat × Nat
section MSTO2
variable {ow0 n0 : Nat → Nat} {rr0 : Nat → Nat → Nat} {ww0 : Dt} {b a : Nat}
theorem m_blow {post : (Nat → Nat) → (Nat → Nat) → (Nat → Nat → Nat) → Dt → Prop} {ow t n : Nat → Nat} {rr : Nat → Nat → Nat} {ww w : Dt} {C : Nat} (h : GK ow0 n0 rr0 ww0 b a ow t n rr ww w) (hSN : SN w C) {B S : Nat}
    (hp : ∀ ww', GK ow0 n0 rr0 ww0 b a ow t n rr ww' (itr fB1 w C) → ∃ k9 : Nat, wp_X12_storms_74 post k9 a 0 t n rr ww' B S) : ∃ k9 : Nat, wp_X12_storms_10 post k9 a (rr a 8) 0 (ww (rr a 8) 0) t n rr ww B S := by
  have hC := hSN.C.1
  refine loopU (fun m y s => wp_X12_storms_10 post m a (rr a 8) y (ww (rr a 8) 0) t n rr s B S) C (fun i s => GK ow0 n0 rr0 ww0 b a ow t n rr s (itr fB1 w i) ∧ s (rr a 8) 0 = ww (rr a 8) 0) ww ⟨h, rfl⟩ (fun m s hs => ?_) (fun i m s hi hs hk => ?_)
  · obtain ⟨hs, -⟩ := hs
    obtain ⟨D, rk, N, hS, -⟩ := hSN.blow C
    have hn : n (rr a 8) = C := nI_inj (by have := hs.wr.nC; omega) (by omega) (hs.wr.cC.symm.trans hS.cC)
    refine ⟨fun _ => hp s hs, fun g => absurd ?_ g⟩
    rw [hn]
  · obtain ⟨hs, hm⟩ := hs
    obtain ⟨D, rk, N, hS, -⟩ := hSN.blow i
    have hk2 : ∀ s', GK ow0 n0 rr0 ww0 b a ow t n rr s' (fB1 (itr fB1 w i) i) → s' (rr a 8) 0 = ww (rr a 8) 0 → wp_X12_storms_10 post m a (rr a 8) (nI (i + 1)) (ww (rr a 8) 0) t n rr s' B S := fun s' h1 h2 => hk s' ⟨h1, h2⟩
    clear hk
    revert hs hS hk2
    generalize itr fB1 w i = u
    intro hs hS hk2
    have hn : n (rr a 8) = C := nI_inj (by have := hs.wr.nC; omega) (by omega) (hs.wr.cC.symm.trans hS.cC)
    have hw := hs.wk
    have ci : (nI i).toNatClampNeg = i := nI_cl (by omega)
    have r13 : s (rr (rr a 8) i) 5 = 0 ↔ u 13 i = 1 := hw.rg0 (by omega)
    have r8 : s (rr (rr a 8) i) 0 = u 8 i := hw.rs (p := 8) (by omega) (by omega) (by omega)
    have r9 : s (rr (rr a 8) i) 1 = u 9 i := hw.rs (p := 9) (by omega) (by omega) (by omega)
    have r11 : s (rr (rr a 8) i) 3 = u 11 i := hw.rs (p := 11) (by omega) (by omega) (by omega)
    have hLne : rr a 8 ≠ rr (rr a 8) i := fun z => by
      have e1 := hs.wr.os i (by omega)
      rw [← z, hs.wr.o8] at e1
      omega
    unfold fB1 at hk2
    rw [nI_succ] at hk2
    refine ⟨fun g => ?_, fun _ => ⟨?_, hm, fun g => ?_, fun g => ?_⟩⟩
    · rw [hn] at g
      have := nI_inj (by omega) (by omega) g
      omega
    · rw [hn]
      exact vp_nI hi (by omega)
    · rw [ci] at g
      have t0 : u 13 i = 0 := (hS.th i (by omega)).resolve_right fun z => g (r13.mpr z)
      rw [if_pos t0] at hk2
      exact hk2 s hs hm
    · rw [ci] at g
      have t1 := r13.mp g
      rw [if_neg (by rw [t1]; decide)] at hk2
      rw [ci, r8, r9]
      refine m_wind (hS.be i hi) (x_fm (fun w91 e91 w93 e93 => ?_))
      rw [hw.rb (vp_lt (hS.be i hi))] at e91
      have f11 : w91 (rr (rr a 8) i) 3 = u 11 i := by rw [e91, up2_nk (by omega), r11]
      rw [f11] at e93
      refine hk2 w93 (hs.st ?_) ?_
      · have h1 := hw.s (p := 9) (k := i) (by omega) (by omega) (by omega) (fm (u 9 i + u 6 (u 8 i).toNatClampNeg / fWid (u 8 i).toNatClampNeg))
        have h2 := h1.s (p := 11) (k := i) (by omega) (by omega) (by omega) (u 11 i + 1)
        rw [e93, e91]
        exact h2
      · rw [e93, up2_nr hLne, e91, up2_nr hLne]
        exact hm
theorem m_meets {post : (Nat → Nat) → (Nat → Nat) → (Nat → Nat → Nat) → Dt → Prop} {ow t n : Nat → Nat} {rr : Nat → Nat → Nat} {ww w : Dt} {C : Nat} (h : GK ow0 n0 rr0 ww0 b a ow t n rr ww w) (hSN : SN w C) {B S X : Nat} (hX : wN (itr (fMi C) w C) ≤ X) (hB : 2 * (X - wN w) ≤ B ∧ 132 * (X - wN w) ≤ S)
    (hp : ∀ ow' t' n' rr' ww' B' S', GK ow0 n0 rr0 ww0 b a ow' t' n' rr' ww' (itr (fMi C) w C) → 2 * (X - wN (itr (fMi C) w C)) ≤ B' ∧ 132 * (X - wN (itr (fMi C) w C)) ≤ S' → ∃ k9 : Nat, wp_X12_storms_124 post k9 a 0 t' n' rr' ww' B' S') : ∃ k9 : Nat, wp_X12_storms_74 post k9 a 0 t n rr ww B S := by
  have hC := hSN.C.1
  have h0 : ∃ ow : Nat → Nat, GK ow0 n0 rr0 ww0 b a ow t n rr ww w := ⟨ow, h⟩
  refine loopU (σ := Sto) (fun m y s => wp_X12_storms_74 post m a y s.1 s.2.1 s.2.2.1 s.2.2.2.1 s.2.2.2.2.1 s.2.2.2.2.2) C (fun i s => (∃ ow, GK ow0 n0 rr0 ww0 b a ow s.1 s.2.1 s.2.2.1 s.2.2.2.1 (itr (fMi C) w i)) ∧ 2 * (X - wN (itr (fMi C) w i)) ≤ s.2.2.2.2.1 ∧ 132 * (X - wN (itr (fMi C) w i)) ≤ s.2.2.2.2.2) (t, n, rr, ww, B, S) ⟨h0, hB⟩ (fun m s hs => ?_) (fun i m s hi hs hk => ?_)
  · obtain ⟨t, n, rr, ww, B, S⟩ := s
    obtain ⟨⟨ow, hs⟩, hb⟩ := hs
    dsimp only at hs hb
    obtain ⟨D, rk, N, hS, -⟩ := hSN.meet C (Nat.le_refl C)
    have hn : n (rr a 8) = C := nI_inj (by have := hs.wr.nC; omega) (by omega) (hs.wr.cC.symm.trans hS.cC)
    refine ⟨fun _ => hp ow t n rr ww B S hs hb, fun g => absurd ?_ g⟩
    dsimp only
    rw [hn]
    exact Int32.le_refl _
  · obtain ⟨t, n, rr, ww, B, S⟩ := s
    obtain ⟨⟨ow, hs⟩, hb⟩ := hs
    have hSi := hSN.meet i (by omega)
    have hXi : wN (fMi C (itr (fMi C) w i) i) ≤ X := by
      have := wN_meet hSN (C - (i + 1)) (i + 1) (by omega)
      rw [show i + 1 + (C - (i + 1)) = C by omega] at this
      exact Nat.le_trans this hX
    have hk2 : ∀ s : Sto, (∃ ow, GK ow0 n0 rr0 ww0 b a ow s.1 s.2.1 s.2.2.1 s.2.2.2.1 (fMi C (itr (fMi C) w i) i)) ∧ 2 * (X - wN (fMi C (itr (fMi C) w i) i)) ≤ s.2.2.2.2.1 ∧ 132 * (X - wN (fMi C (itr (fMi C) w i) i)) ≤ s.2.2.2.2.2 → wp_X12_storms_74 post m a (nI (i + 1)) s.1 s.2.1 s.2.2.1 s.2.2.2.1 s.2.2.2.2.1 s.2.2.2.2.2 := hk
    clear hk
    dsimp only at hs hb
    revert hs hb hSi hXi hk2
    generalize itr (fMi C) w i = u
    intro hb hs hSi hXi hk2
    obtain ⟨D, rk, N, hS, -⟩ := id hSi
    have hn : n (rr a 8) = C := nI_inj (by have := hs.wr.nC; omega) (by omega) (hs.wr.cC.symm.trans hS.cC)
    refine ⟨fun g => absurd g ?_, fun _ => ?_⟩
    · dsimp only
      rw [hn, nI_le2 (by omega) (by omega)]
      omega
    · dsimp only
      rw [← nI_succ]
      refine ⟨C - (i + 1) + 1, loopG (σ := Sto) (fun m2 y s => wp_X12_storms_91 post (fun a0 a1 a2 a3 a4 a5 a6 a7 => wp_X12_storms_74 post m a0 a1 a2 a3 a4 a5 a6 a7) m2 a (nI i) y s.1 s.2.1 s.2.2.1 s.2.2.2.1 s.2.2.2.2.1 s.2.2.2.2.2) (fun d => nI (i + 1 + d)) (C - (i + 1)) (fun d s => (∃ ow, GK ow0 n0 rr0 ww0 b a ow s.1 s.2.1 s.2.2.1 s.2.2.2.1 (itr (fun w d => fMt w i (i + 1 + d)) u d)) ∧ 2 * (X - wN (itr (fun w d => fMt w i (i + 1 + d)) u d)) ≤ s.2.2.2.2.1 ∧ 132 * (X - wN (itr (fun w d => fMt w i (i + 1 + d)) u d)) ≤ s.2.2.2.2.2) (fun m2 s hv => ?_) (fun d m2 s hd hv hkk => ?_) (C - (i + 1)) 0 (t, n, rr, ww, B, S) (by omega) ⟨⟨ow, hs⟩, hb⟩⟩
      · obtain ⟨t, n, rr, ww, B, S⟩ := s
        obtain ⟨⟨ow, hv⟩, hb⟩ := hv
        dsimp only at hv hb
        obtain ⟨D2, rk2, N2, hS2, -⟩ := hSi.mi (C - (i + 1)) (Nat.le_refl _)
        have hn : n (rr a 8) = C := nI_inj (by have := hv.wr.nC; omega) (by omega) (hv.wr.cC.symm.trans hS2.cC)
        refine ⟨fun _ => ?_, fun g => absurd ?_ g⟩
        · have := hk2 (t, n, rr, ww, B, S) ⟨⟨ow, hv⟩, hb⟩
          rw [nI_succ] at this
          exact this
        · dsimp only
          rw [hn, nI_le2 (by omega) (by omega)]
          omega
      · obtain ⟨t, n, rr, ww, B, S⟩ := s
        obtain ⟨⟨ow, hv⟩, hb⟩ := hv
        dsimp only at hv hb
        have hSd : SN (itr (fun w d => fMt w i (i + 1 + d)) u d) C := hSi.mi d (by omega)
        have hXd : wN (fMt (itr (fun w d => fMt w i (i + 1 + d)) u d) i (i + 1 + d)) ≤ X := by
          have := wN_mi hSi i (C - (i + 1) - (d + 1)) (d + 1) (by omega)
          rw [show d + 1 + (C - (i + 1) - (d + 1)) = C - (i + 1) by omega] at this
          exact Nat.le_trans this hXi
        have hkk2 : ∀ s : Sto, (∃ ow, GK ow0 n0 rr0 ww0 b a ow s.1 s.2.1 s.2.2.1 s.2.2.2.1 (fMt (itr (fun w d => fMt w i (i + 1 + d)) u d) i (i + 1 + d))) ∧ 2 * (X - wN (fMt (itr (fun w d => fMt w i (i + 1 + d)) u d) i (i + 1 + d))) ≤ s.2.2.2.2.1 ∧ 132 * (X - wN (fMt (itr (fun w d => fMt w i (i + 1 + d)) u d) i (i + 1 + d))) ≤ s.2.2.2.2.2 → wp_X12_storms_91 post (fun a0 a1 a2 a3 a4 a5 a6 a7 => wp_X12_storms_74 post m a0 a1 a2 a3 a4 a5 a6 a7) m2 a (nI i) (nI (i + 1 + (d + 1))) s.1 s.2.1 s.2.2.1 s.2.2.2.1 s.2.2.2.2.1 s.2.2.2.2.2 := hkk
        clear hkk
        revert hv hb hSd hXd hkk2
        generalize itr (fun w d => fMt w i (i + 1 + d)) u d = v
        intro hb hv hSd hXd hkk2
        obtain ⟨D2, rk2, N2, hS2, hI2⟩ := id hSd
        have hn : n (rr a 8) = C := nI_inj (by have := hv.wr.nC; omega) (by omega) (hv.wr.cC.symm.trans hS2.cC)
        have hmono := wN_mt hSd i (i + 1 + d)
        have hcn : cnt (fMt v i (i + 1 + d)) = cnt v := cnt_ne (fMt_ne (by omega))
        have hwn : ntc (fMt v i (i + 1 + d)) - ntc v = wN (fMt v i (i + 1 + d)) - wN v := by
          unfold wN
          rw [hcn]
          omega
        refine ⟨fun g => absurd g ?_, fun _ => ⟨2 * (ntc (fMt v i (i + 1 + d)) - ntc v), 132 * (ntc (fMt v i (i + 1 + d)) - ntc v), ?_, ?_, ?_⟩⟩
        · dsimp only
          rw [hn, nI_le2 (by omega) (by omega)]
          omega
        · dsimp only
          omega
        · dsimp only
          omega
        · refine m_meet hv hSd (by omega) (by omega) ⟨Nat.le_refl _, Nat.le_refl _⟩ (fun ow' t' n' rr' ww' hg => ?_)
          have := hkk2 (t', n', rr', ww', B - 2 * (ntc (fMt v i (i + 1 + d)) - ntc v), S - 132 * (ntc (fMt v i (i + 1 + d)) - ntc v)) ⟨⟨ow', hg⟩, by dsimp only; omega, by dsimp only; omega⟩
          rw [show i + 1 + (d + 1) = i + 1 + d + 1 by omega, nI_succ] at this
          exact this
theorem m_tear {post : (Nat → Nat) → (Nat → Nat) → (Nat → Nat → Nat) → Dt → Prop} {ow t n : Nat → Nat} {rr : Nat → Nat → Nat} {ww w : Dt} {C : Nat} (h : GK ow0 n0 rr0 ww0 b a ow t n rr ww w) (hSN : SN w C) {B S X : Nat} (hX : wN (itr fT1 w C) ≤ X) (hB : 2 * (X - wN w) ≤ B ∧ 132 * (X - wN w) ≤ S)
    (hp : ∀ ow' t' n' rr' ww' B' S', GK ow0 n0 rr0 ww0 b a ow' t' n' rr' ww' (itr fT1 w C) → 2 * (X - wN (itr fT1 w C)) ≤ B' ∧ 132 * (X - wN (itr fT1 w C)) ≤ S' → ∃ k9 : Nat, wp_X12_storms_236 post k9 a (nI C) 0 t' n' rr' ww' B' S') : ∃ k9 : Nat, wp_X12_storms_124 post k9 a 0 t n rr ww B S := by
  have hC := hSN.C.1
  have h0 : ∃ ow : Nat → Nat, GK ow0 n0 rr0 ww0 b a ow t n rr ww w := ⟨ow, h⟩
  refine loopU (σ := Sto) (fun m y s => wp_X12_storms_124 post m a y s.1 s.2.1 s.2.2.1 s.2.2.2.1 s.2.2.2.2.1 s.2.2.2.2.2) C (fun i s => (∃ ow, GK ow0 n0 rr0 ww0 b a ow s.1 s.2.1 s.2.2.1 s.2.2.2.1 (itr fT1 w i)) ∧ 2 * (X - wN (itr fT1 w i)) ≤ s.2.2.2.2.1 ∧ 132 * (X - wN (itr fT1 w i)) ≤ s.2.2.2.2.2) (t, n, rr, ww, B, S) ⟨h0, hB⟩ (fun m s hs => ?_) (fun i m s hi hs hk => ?_)
  · obtain ⟨t, n, rr, ww, B, S⟩ := s
    obtain ⟨⟨ow, hs⟩, hb⟩ := hs
    dsimp only at hs hb
    obtain ⟨D, rk, N, hS, -⟩ := hSN.tear C (Nat.le_refl C)
    have hn : n (rr a 8) = C := nI_inj (by have := hs.wr.nC; omega) (by omega) (hs.wr.cC.symm.trans hS.cC)
    refine ⟨fun _ => ?_, fun g => absurd ?_ g⟩
    · dsimp only
      rw [hn]
      exact hp ow t n rr ww B S hs hb
    · dsimp only
      rw [hn]
      exact Int32.le_refl _
  · obtain ⟨t, n, rr, ww, B, S⟩ := s
    obtain ⟨⟨ow, hs⟩, hb⟩ := hs
    have hSi := hSN.tear i (by omega)
    have hXi : wN (fT1 (itr fT1 w i) i) ≤ X := by
      have := wN_tear hSN (C - (i + 1)) (i + 1) (by omega)
      rw [show i + 1 + (C - (i + 1)) = C by omega] at this
      exact Nat.le_trans this hX
    have hk2 : ∀ s : Sto, (∃ ow, GK ow0 n0 rr0 ww0 b a ow s.1 s.2.1 s.2.2.1 s.2.2.2.1 (fT1 (itr fT1 w i) i)) ∧ 2 * (X - wN (fT1 (itr fT1 w i) i)) ≤ s.2.2.2.2.1 ∧ 132 * (X - wN (fT1 (itr fT1 w i) i)) ≤ s.2.2.2.2.2 → wp_X12_storms_124 post m a (nI (i + 1)) s.1 s.2.1 s.2.2.1 s.2.2.2.1 s.2.2.2.2.1 s.2.2.2.2.2 := hk
    clear hk
    dsimp only at hs hb
    revert hs hb hSi hXi hk2
    generalize itr fT1 w i = u
    intro hb hs hSi hXi hk2
    obtain ⟨D, rk, N, hS, hI⟩ := id hSi
    have hN60 := hI.hN
    have hn : n (rr a 8) = C := nI_inj (by have := hs.wr.nC; omega) (by omega) (hs.wr.cC.symm.trans hS.cC)
    have hw := hs.wk
    have ci : (nI i).toNatClampNeg = i := nI_cl (by omega)
    have r13 : ww (rr (rr a 8) i) 5 = 0 ↔ u 13 i = 1 := hw.rg0 (by omega)
    have r8 : ww (rr (rr a 8) i) 0 = u 8 i := hw.rs (p := 8) (by omega) (by omega) (by omega)
    have r10 : ww (rr (rr a 8) i) 2 = u 10 i := hw.rs (p := 10) (by omega) (by omega) (by omega)
    have hmono := wN_t1 hSi i
    have hcn : cnt (fT1 u i) = cnt u := cnt_ne (fT1_ne (by omega))
    have hcont : ∀ t' n' rr' ww' B' S', (∃ ow, GK ow0 n0 rr0 ww0 b a ow t' n' rr' ww' (fT1 u i)) → 2 * (X - wN (fT1 u i)) ≤ B' ∧ 132 * (X - wN (fT1 u i)) ≤ S' → wp_X12_storms_218 post (fun a0 a1 a2 a3 a4 a5 a6 a7 => wp_X12_storms_124 post m a0 a1 a2 a3 a4 a5 a6 a7) a (nI i) t' n' rr' ww' B' S' := fun t' n' rr' ww' B' S' h1 h2 => by
      have := hk2 (t', n', rr', ww', B', S') ⟨h1, h2⟩
      rw [nI_succ] at this
      exact this
    clear hk2
    refine ⟨fun g => absurd g ?_, fun _ => ⟨?_, fun g => ?_, fun g => ?_⟩⟩
    · dsimp only
      rw [hn, nI_le2 (by omega) (by omega)]
      omega
    · dsimp only
      rw [hn]
      exact vp_nI hi (by omega)
    · dsimp only at g
      rw [ci] at g
      have t0 : u 13 i = 0 := (hS.th i (by omega)).resolve_right fun z => g (r13.mpr z)
      have e : fT1 u i = u := by unfold fT1; rw [if_pos t0]
      rw [e] at hcont
      exact hcont t n rr ww B S ⟨ow, hs⟩ hb
    · dsimp only at g ⊢
      rw [ci] at g ⊢
      have t1 := r13.mp g
      have t0 : ¬ u 13 i = 0 := by rw [t1]; decide
      have hsh : shV (ww (rr a 5)) (u 8 i).toNatClampNeg = shV (u 6) (u 8 i).toNatClampNeg := shV_eq (vp_lt (hS.be i hi)) (fun k hk => hw.rb hk)
      refine m_shear (by rw [r8]; exact hS.be i hi) ⟨fun g2 => ?_, fun g2 w59 e59 => ?_⟩ <;> rw [r8, hsh] at g2
      · have e : fT1 u i = u := by unfold fT1; rw [if_neg t0, if_pos g2]
        rw [e] at hcont
        exact hcont t n rr ww B S ⟨ow, hs⟩ hb
      · have h1 := hw.s (p := 10) (k := i) (by omega) (by omega) (by omega) (tsz (u 10 i))
        have e59' : w59 = up2 ww (rr (rr a 8) i) (10 - 8) (tsz (u 10 i)) := e59.trans (congrArg (fun y => up2 ww (rr (rr a 8) i) 2 (tsz y)) r10)
        rw [← e59'] at h1
        have f59 : w59 (rr (rr a 8) i) 2 = tsz (u 10 i) := by rw [e59', up2_eq]
        rw [f59]
        refine ⟨fun g3 => ?_, fun g3 w61 e61 w62 e62 => ?_⟩
        · have e : fT1 u i = up2 u 10 i (tsz (u 10 i)) := by unfold fT1; rw [if_neg t0, if_neg g2, if_pos g3]
          have e' : wN (fT1 u i) = wN u := by rw [e]; exact wN_ne (up2_ne (by omega)) (up2_ne (by omega))
          refine hcont t n rr w59 B S ⟨ow, by rw [e]; exact hs.st h1⟩ ?_
          rw [e']
          exact hb
        · have e : fT1 u i = fWr (up2 (up2 u 10 i (tsz (u 10 i))) 13 i 0) 100 (nI i) := by unfold fT1; rw [if_neg t0, if_neg g2, if_neg g3]
          have h2 := h1.kill (k := i) (by omega)
          rw [← e61, ← e62] at h2
          have hI2 : IN (up2 (up2 u 10 i (tsz (u 10 i))) 13 i 0) N := hI.cg (fun p k a b _ => by rw [up2_ne (by omega), up2_ne (by omega)])
          have hnt : ntc (fT1 u i) = min 60 (N + 1) := by rw [e]; exact ntc_wr hI2 rfl _
          have hwn : ntc (fT1 u i) - ntc u = wN (fT1 u i) - wN u := by
            unfold wN
            rw [hcn]
            omega
          have hnu : ntc u = N := ntc_eq hI
          have hs2 := hs.st h2
          clear hs h1 h2 hw hsh h0 hp e59 e59' f59 e61 e62 r13 r8 r10 hcn
          generalize hd : ntc (fT1 u i) - ntc u = d at *
          refine ⟨2 * d, 132 * d, by omega, by omega, ?_⟩
          refine m_notes hs2 hI2 (fun q => by omega) rfl (fun ow' t' n' rr' ww' hg => ?_)
          rw [← e] at hg
          exact hcont t' n' rr' ww' (B - 2 * d) (S - 132 * d) ⟨ow', hg⟩ (by omega)
end MSTO2
