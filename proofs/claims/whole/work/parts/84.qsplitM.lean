/-! THE PURE SIDE: splits in the model -/
section MSPL
variable {ow0 n0 : Nat → Nat} {rr0 : Nat → Nat → Nat} {ww0 : Dt} {b a : Nat}
theorem gxx {p : Nat} {x y : Int32} (h : p ≠ 13) (e : y = x) : y = gx p x := by rw [gx_n h, e]
set_option maxHeartbeats 1000000 in
/-- a storm more in the model: q is the new cell -/
theorem GK.addS {ow t n : Nat → Nat} {rr : Nat → Nat → Nat} {ww w : Dt} {C : Nat} (h : GK ow0 n0 rr0 ww0 b a ow t n rr ww w) (hn : n (rr a 8) = C) (hC : C < 12) {q : Nat} (hq : t q = 0) {t' n' : Nat → Nat} {rr' : Nat → Nat → Nat} {ww' : Dt} {be lo sz : Int32} (et : t' = va_up t q 3) (en : n' = va_up n (rr a 8) (C + 1)) (er : rr' = va_up rr (rr a 8) (va_up (rr (rr a 8)) C q))
    (hw : ∀ c, c ≠ rr a 8 → c ≠ q → ww' c = ww c) (hwq : ww' q 0 = be ∧ ww' q 1 = lo ∧ ww' q 2 = sz ∧ ww' q 3 = 0 ∧ ww' q 4 = 45 ∧ ww' q 5 = 0 ∧ ww' q 6 = -1) :
    GK ow0 n0 rr0 ww0 b a (va_up ow q (b + 30 + C)) t' n' rr' ww' (fBg w be lo sz) := by
  have hqo : ow q = 0 := Decidable.byContradiction fun z => h.fr q z hq
  have hLo := h.wr.o8
  have hb := h.hb
  have hLq : rr a 8 ≠ q := fun z => by rw [z] at hLo; omega
  have hkeep : ∀ cc, cc ≠ rr a 8 → cc ≠ q → va_up ow q (b + 30 + C) cc = ow cc ∧ n' cc = n cc ∧ rr' cc = rr cc ∧ ww' cc = ww cc := fun cc h1 h2 =>
    ⟨vup_ne h2, by rw [en, vup_ne h1], by rw [er, vup_ne h1], hw cc h1 h2⟩
  have hoL : va_up ow q (b + 30 + C) (rr a 8) = ow (rr a 8) := vup_ne hLq
  have hoq : va_up ow q (b + 30 + C) q = b + 30 + C := vup_eq _ _ _
  have hw7 : w 7 0 = nI C := by rw [h.wr.cC, hn]
  obtain ⟨a7, a8, a9, a10, a11, a12, a13, a14, ak⟩ := fBg_at (b := be) (l := lo) (s := sz) (by omega : C ≤ 12) hw7
  refine h.gap (L := rr a 8) (q := q) (by omega) hq hkeep hoL (Or.inr (by omega)) (fun cc hcc => ?_) ?_
  · rw [et]
    by_cases z : cc = q
    · rw [z, vup_eq]
      decide
    · rw [vup_ne z]
      rw [vup_ne z] at hcc
      exact h.fr cc hcc
  · obtain ⟨w0, w1, w2, w3, w4, w5, w6⟩ := hwq
    refine h.wr.appS hb hqo (by omega) hkeep hoL (by rw [en, vup_eq, hn]) (by rw [er, vup_eq, hn]) (by rw [hoq, hn]) (by rw [a7, hn]) (fun p k h1 h2 => ?_) ⟨fun p h1 h2 h3 => ?_, fun _ => ?_, fun _ => w4⟩
    · rw [hn] at h2
      by_cases z : 7 ≤ p ∧ p ≤ 14
      · by_cases z7 : p = 7
        · subst z7
          have hk : k ≠ 0 := fun z => h1 ⟨rfl, z⟩
          unfold fBg
          rw [up2_nk hk, up2_nr (by omega), up2_nr (by omega), up2_nr (by omega), up2_nr (by omega), up2_nr (by omega), up2_nr (by omega), up2_nr (by omega)]
        · exact ak p k (by omega) (by omega)
      · rw [fBg_ne (by omega)]
    · rw [hn]
      have hp' : p = 8 ∨ p = 9 ∨ p = 10 ∨ p = 11 ∨ p = 13 ∨ p = 14 := by omega
      rcases hp' with z | z | z | z | z | z
      · subst z; exact gxx (by omega) (a8.trans w0.symm)
      · subst z; exact gxx (by omega) (a9.trans w1.symm)
      · subst z; exact gxx (by omega) (a10.trans w2.symm)
      · subst z; exact gxx (by omega) (a11.trans w3.symm)
      · subst z
        rw [gx_13, a13, show ww' q (13 - 8) = 0 from w5]
        rfl
      · subst z; exact gxx (by omega) (a14.trans w6.symm)
    · rw [hn, a12, w4]
theorem cnt_s1 {w : Dt} {C D : Nat} {rk : Nat → Nat} (h : IS w C D rk) {v : Dt} {D' : Nat} {rk' : Nat → Nat} (h' : IS v (C + 1) D' rk') : cnt v = cnt w + 1 := by
  rw [cnt_eq h.hC h.cC, cnt_eq h'.hC h'.cC]
set_option maxHeartbeats 1000000 in
theorem m_split {post : (Nat → Nat) → (Nat → Nat) → (Nat → Nat → Nat) → Dt → Prop} {ow t n : Nat → Nat} {rr : Nat → Nat → Nat} {ww w : Dt} {C : Nat} (h : GK ow0 n0 rr0 ww0 b a ow t n rr ww w) (hSN : SN w C) {B S X : Nat} (hX : wN (itr fS1 w 12) ≤ X) (hB : 2 * (X - wN w) ≤ B ∧ 132 * (X - wN w) ≤ S)
    (hp : ∀ ow' t' n' rr' ww', GK ow0 n0 rr0 ww0 b a ow' t' n' rr' ww' (itr fS1 w 12) → post t' n' rr' ww') : ∃ k9 : Nat, wp_X12_storms_236 post k9 a (nI C) 0 t n rr ww B S := by
  have hC := hSN.C.1
  have h0 : ∃ ow : Nat → Nat, GK ow0 n0 rr0 ww0 b a ow t n rr ww w := ⟨ow, h⟩
  refine loopU (σ := Sto) (fun m y s => wp_X12_storms_236 post m a (nI C) y s.1 s.2.1 s.2.2.1 s.2.2.2.1 s.2.2.2.2.1 s.2.2.2.2.2) C (fun i s => (∃ ow, GK ow0 n0 rr0 ww0 b a ow s.1 s.2.1 s.2.2.1 s.2.2.2.1 (itr fS1 w i)) ∧ 2 * (X - wN (itr fS1 w i)) ≤ s.2.2.2.2.1 ∧ 132 * (X - wN (itr fS1 w i)) ≤ s.2.2.2.2.2) (t, n, rr, ww, B, S) ⟨h0, hB⟩ (fun m s hs => ?_) (fun i m s hi hs hk => ?_)
  · obtain ⟨t, n, rr, ww, B, S⟩ := s
    obtain ⟨⟨ow, hs⟩, hb⟩ := hs
    rw [itr_S1 hSN (12 - C) C (Nat.le_refl C) (by omega)] at hp
    exact ⟨fun _ => hp ow t n rr ww hs, fun g => absurd (Int32.le_refl _) g⟩
  · obtain ⟨t, n, rr, ww, B, S⟩ := s
    obtain ⟨⟨ow, hs⟩, hb⟩ := hs
    dsimp only at hs hb
    obtain ⟨C', q1, q2⟩ := SS.itr hSN i (by omega)
    have hXi : wN (fS1 (itr fS1 w i) i) ≤ X := by
      have := wN_split hSN (12 - (i + 1)) (i + 1) (by omega)
      rw [show i + 1 + (12 - (i + 1)) = 12 by omega] at this
      exact Nat.le_trans this hX
    have hmono : wN (itr fS1 w i) ≤ wN (fS1 (itr fS1 w i) i) := wN_s1 q2.1 (by omega)
    have hk2 : ∀ s : Sto, (∃ ow, GK ow0 n0 rr0 ww0 b a ow s.1 s.2.1 s.2.2.1 s.2.2.2.1 (fS1 (itr fS1 w i) i)) ∧ 2 * (X - wN (fS1 (itr fS1 w i) i)) ≤ s.2.2.2.2.1 ∧ 132 * (X - wN (fS1 (itr fS1 w i) i)) ≤ s.2.2.2.2.2 → wp_X12_storms_236 post m a (nI C) (nI (i + 1)) s.1 s.2.1 s.2.2.1 s.2.2.2.1 s.2.2.2.2.1 s.2.2.2.2.2 := hk
    have hcont : ∀ t' n' rr' ww' B' S', (∃ ow, GK ow0 n0 rr0 ww0 b a ow t' n' rr' ww' (fS1 (itr fS1 w i) i)) → 2 * (X - wN (fS1 (itr fS1 w i) i)) ≤ B' ∧ 132 * (X - wN (fS1 (itr fS1 w i) i)) ≤ S' → wp_X12_storms_378 post (fun a0 a1 a2 a3 a4 a5 a6 a7 a8 => wp_X12_storms_236 post m a0 a1 a2 a3 a4 a5 a6 a7 a8) a (nI C) (nI i) t' n' rr' ww' B' S' := fun t' n' rr' ww' B' S' h1 h2 => by
      have := hk2 (t', n', rr', ww', B', S') ⟨h1, h2⟩
      rw [nI_succ] at this
      exact this
    clear hk2 hk hp
    generalize itr fS1 w i = u at *
    obtain ⟨⟨D, rk, N, hS, hI⟩, q3, q4⟩ := id q2
    have hN60 := hI.hN
    have hC' := hS.hC
    have hn : n (rr a 8) = C' := nI_inj (by have := hs.wr.nC; omega) (by omega) (hs.wr.cC.symm.trans hS.cC)
    have hw := hs.wk
    have ci : (nI i).toNatClampNeg = i := nI_cl (by omega)
    have hi' : i < C' := by omega
    have r13 : ww (rr (rr a 8) i) 5 = 0 ↔ u 13 i = 1 := hw.rg0 (by omega)
    have r8 : ww (rr (rr a 8) i) 0 = u 8 i := hw.rs (p := 8) (by omega) (by omega) (by omega)
    have r9 : ww (rr (rr a 8) i) 1 = u 9 i := hw.rs (p := 9) (by omega) (by omega) (by omega)
    have r10 : ww (rr (rr a 8) i) 2 = u 10 i := hw.rs (p := 10) (by omega) (by omega) (by omega)
    have g0 : ¬ u 7 0 ≤ nI i := fun z => absurd ((lt_cnt hC' hS.cC (by omega)).mp z) (by omega)
    refine ⟨fun g => absurd g (by rw [nI_le2 (by omega) (by omega)]; omega), fun _ => ⟨?_, fun g => ?_, fun g => ?_⟩⟩
    · dsimp only
      rw [hn]
      exact vp_nI hi' (by omega)
    · dsimp only at g
      rw [ci] at g
      have t0 : u 13 i = 0 := (hS.th i (by omega)).resolve_right fun z => g (r13.mpr z)
      have e : fS1 u i = u := by unfold fS1; rw [if_neg g0, if_pos t0]
      rw [e] at hcont
      exact hcont t n rr ww B S ⟨ow, hs⟩ hb
    · dsimp only at g ⊢
      rw [ci] at g ⊢
      have t1 := r13.mp g
      have t0 : ¬ u 13 i = 0 := by rw [t1]; decide
      refine ⟨fun g2 => ?_, fun g2 => ⟨fun g3 => ?_, fun g3 => ?_⟩⟩
      · have g2' : u 10 i ≤ 300 := r10 ▸ g2
        have e : fS1 u i = u := by unfold fS1; rw [if_neg g0, if_neg t0, if_pos g2']
        rw [e] at hcont
        exact hcont t n rr ww B S ⟨ow, hs⟩ hb
      · have g2' : ¬ u 10 i ≤ 300 := r10 ▸ g2
        rw [hn, show (12 : Int32) = nI 12 from rfl, nI_le2 (by omega) (by omega)] at g3
        have e : fS1 u i = u := by
          unfold fS1
          rw [if_neg g0, if_neg t0, if_neg g2', if_pos]
          rw [hS.cC, show (12 : Int32) = nI 12 from rfl, nI_le2 (by omega) (by omega)]
          exact g3
        rw [e] at hcont
        exact hcont t n rr ww B S ⟨ow, hs⟩ hb
      · have g2' : ¬ u 10 i ≤ 300 := r10 ▸ g2
        rw [hn, show (12 : Int32) = nI 12 from rfl, nI_le2 (by omega) (by omega)] at g3
        have hC2 : C' < 12 := by omega
        obtain ⟨p1, p2, p3⟩ := s1_ok hS hI hi' t0 g2' hC2
        have e : fS1 u i = fWr (up2 (fBg u (u 8 i) (fm (u 9 i + u 10 i)) (u 10 i / 3)) 10 i (fBg u (u 8 i) (fm (u 9 i + u 10 i)) (u 10 i / 3) 10 i - u 10 i / 3)) 115 (nI C') := by
          unfold fS1
          rw [if_neg g0, if_neg t0, if_neg g2', if_neg, hS.cC]
          rw [hS.cC, show (12 : Int32) = nI 12 from rfl, nI_le2 (by omega) (by omega)]
          omega
        have hwn : wN (fS1 u i) = min 60 (N + 1) + (C' + 1) := by
          rw [e]
          unfold wN
          rw [ntc_wr p2 rfl, cnt_ne (fWr_ne (by omega)), cnt_eq p1.hC p1.cC]
        have hwu : wN u = N + C' := by
          unfold wN
          rw [ntc_eq hI, cnt_eq hC' hS.cC]
        refine ⟨by omega, by omega, fun q hq t25 e25 w26 e26 w29 e29 => ?_⟩
        have hqo : ow q = 0 := Decidable.byContradiction fun z => hs.fr q z hq
        have hqs : rr (rr a 8) i ≠ q := fun z => by
          have e1 := hs.wr.os i (by omega)
          rw [z, hqo] at e1
          omega
        have hLo := hs.wr.o8
        have hLq : rr a 8 ≠ q := fun z => by rw [z, hqo] at hLo; omega
        have hLs : rr (rr a 8) i ≠ rr a 8 := fun z => by
          have e1 := hs.wr.os i (by omega)
          rw [z, hLo] at e1
          omega
        have f26 : w26 (rr (rr a 8) i) = ww (rr (rr a 8) i) := by rw [e26, vup_ne hqs]
        have f29 : w29 (rr (rr a 8) i) = ww (rr (rr a 8) i) := by rw [e29, up2_ne hqs, f26]
        rw [f29, r9]
        refine x_fm ?_
        have key : ∀ y : Int32, y = u 10 i → (∀ w31 : Dt, w31 = up2 w29 q 1 (fm (u 9 i + y)) → ∀ w32 : Dt, w32 = up2 w31 q 2 (w31 (rr (rr a 8) i) 2 / 3) → ∀ w33 : Dt, w33 = up2 w32 (rr (rr a 8) i) 2 (w32 (rr (rr a 8) i) 2 - w32 q 2) → ∀ (n38 : Nat → Nat) (r39 : Nat → Nat → Nat) (w40 : Dt), n38 = va_up n (rr a 8) (C' + 1) → r39 = va_up rr (rr a 8) (va_up (rr (rr a 8)) C' q) → w40 = up2 w33 (rr a 8) 0 (w33 (rr a 8) 0 + 1) → GK ow0 n0 rr0 ww0 b a (va_up ow q (b + 30 + C')) t25 n38 r39 w40 (up2 (fBg u (u 8 i) (fm (u 9 i + u 10 i)) (u 10 i / 3)) 10 i (fBg u (u 8 i) (fm (u 9 i + u 10 i)) (u 10 i / 3) 10 i - u 10 i / 3))) := fun y hy w31 e31 w32 e32 w33 e33 n38 r39 w40 e38 e39 e40 => by
          subst hy
          have f31 : w31 (rr (rr a 8) i) = ww (rr (rr a 8) i) := by rw [e31, up2_ne hqs, f29]
          have f32 : w32 (rr (rr a 8) i) = ww (rr (rr a 8) i) := by rw [e32, up2_ne hqs, f31]
          have f31' : w31 (rr (rr a 8) i) 2 = u 10 i := by rw [f31]; exact r10
          have f32' : w32 (rr (rr a 8) i) 2 = u 10 i := by rw [f32]; exact r10
          have f32q : w32 q 2 = u 10 i / 3 := by rw [e32, up2_eq, f31']
          rw [f31'] at e32
          rw [f32', f32q] at e33
          -- first the size, then the new one
          have s1 := hw.s (p := 10) (k := i) (by omega) (by omega) (by omega) (u 10 i - u 10 i / 3)
          have g1 := hs.st s1
          have hu7 : up2 u 10 i (u 10 i - u 10 i / 3) 7 0 = nI C' := by rw [up2_nr (by omega)]; exact hS.cC
          have res := g1.addS (C := C') hn hC2 (q := q) hq (t' := t25) (n' := n38) (rr' := r39) (ww' := w40) (be := u 8 i) (lo := fm (u 9 i + u 10 i)) (sz := u 10 i / 3) e25 e38 e39 (fun c h1 h2 => ?_) ⟨?_, ?_, ?_, ?_, ?_, ?_, ?_⟩
          · have ee : fBg (up2 u 10 i (u 10 i - u 10 i / 3)) (u 8 i) (fm (u 9 i + u 10 i)) (u 10 i / 3) = up2 (fBg u (u 8 i) (fm (u 9 i + u 10 i)) (u 10 i / 3)) 10 i (fBg u (u 8 i) (fm (u 9 i + u 10 i)) (u 10 i / 3) 10 i - u 10 i / 3) := by
              obtain ⟨a7, a8, a9, a10, a11, a12, a13, a14, ak⟩ := fBg_at (b := u 8 i) (l := fm (u 9 i + u 10 i)) (s := u 10 i / 3) hC' hS.cC
              obtain ⟨b7, b8, b9, b10, b11, b12, b13, b14, bk⟩ := fBg_at (b := u 8 i) (l := fm (u 9 i + u 10 i)) (s := u 10 i / 3) hC' hu7
              have hci : i ≠ C' := by omega
              rw [ak 10 i (by omega) hci]
              funext p k
              by_cases hp8 : 8 ≤ p
              · by_cases hk : k = C'
                · subst hk
                  rw [up2_nk (Ne.symm hci)]
                  by_cases hp14 : p ≤ 14
                  · have hpp : p = 8 ∨ p = 9 ∨ p = 10 ∨ p = 11 ∨ p = 12 ∨ p = 13 ∨ p = 14 := by omega
                    rcases hpp with z | z | z | z | z | z | z <;> subst z
                    · rw [b8, a8]
                    · rw [b9, a9]
                    · rw [b10, a10]
                    · rw [b11, a11]
                    · rw [b12, a12]
                    · rw [b13, a13]
                    · rw [b14, a14]
                  · rw [fBg_ne (by omega), fBg_ne (by omega), up2_nr (by omega)]
                · rw [bk p k hp8 hk]
                  by_cases hz : p = 10 ∧ k = i
                  · obtain ⟨rfl, rfl⟩ := hz
                    rw [up2_eq, up2_eq]
                  · rw [up2_no hz, up2_no hz, ak p k hp8 hk]
              · by_cases hp7 : p = 7
                · subst hp7
                  rw [up2_nr (by omega)]
                  by_cases hk : k = 0
                  · subst hk
                    rw [b7, a7]
                  · unfold fBg
                    rw [up2_nk hk, up2_nk hk, up2_nr (by omega), up2_nr (by omega), up2_nr (by omega), up2_nr (by omega), up2_nr (by omega), up2_nr (by omega), up2_nr (by omega), up2_nr (by omega), up2_nr (by omega), up2_nr (by omega), up2_nr (by omega), up2_nr (by omega), up2_nr (by omega), up2_nr (by omega), up2_nr (by omega)]
                · rw [fBg_ne (by omega), up2_nr (by omega), up2_nr (by omega), fBg_ne (by omega)]
            rw [ee] at res
            exact res
          · show w40 c = up2 ww (rr (rr a 8) i) (10 - 8) (u 10 i - u 10 i / 3) c
            rw [e40, up2_ne h1, e33]
            by_cases hz : c = rr (rr a 8) i
            · subst hz
              funext k
              by_cases hk : k = 2
              · subst hk
                rw [up2_eq, up2_eq]
              · rw [up2_nk hk, up2_nk hk, f32]
            · rw [up2_ne hz, up2_ne hz, e32, up2_ne h2, e31, up2_ne h2, e29, up2_ne h2, e26, vup_ne h2]
          · rw [e40, up2_nr (Ne.symm hLq), e33, up2_nr (Ne.symm hqs), e32, up2_nk (by omega), e31, up2_nk (by omega), e29, up2_eq, f26]
            exact r8
          · rw [e40, up2_nr (Ne.symm hLq), e33, up2_nr (Ne.symm hqs), e32, up2_nk (by omega), e31, up2_eq]
          · rw [e40, up2_nr (Ne.symm hLq), e33, up2_nr (Ne.symm hqs)]
            exact f32q
          · rw [e40, up2_nr (Ne.symm hLq), e33, up2_nr (Ne.symm hqs), e32, up2_nk (by omega), e31, up2_nk (by omega), e29, up2_nk (by omega), e26, vup_eq]
            rfl
          · rw [e40, up2_nr (Ne.symm hLq), e33, up2_nr (Ne.symm hqs), e32, up2_nk (by omega), e31, up2_nk (by omega), e29, up2_nk (by omega), e26, vup_eq]
            rfl
          · rw [e40, up2_nr (Ne.symm hLq), e33, up2_nr (Ne.symm hqs), e32, up2_nk (by omega), e31, up2_nk (by omega), e29, up2_nk (by omega), e26, vup_eq]
            rfl
          · rw [e40, up2_nr (Ne.symm hLq), e33, up2_nr (Ne.symm hqs), e32, up2_nk (by omega), e31, up2_nk (by omega), e29, up2_nk (by omega), e26, vup_eq]
            rfl
        intro w31 e31 w32 e32 w33 e33
        rw [hn]
        refine ⟨by omega, by omega, by omega, fun n38 e38 r39 e39 w40 e40 => ?_⟩
        have hg := key _ r10 w31 e31 w32 e32 w33 e33 n38 r39 w40 e38 e39 e40
        have hra : r39 a = rr a := by
          have oa := hs.wr.oa
          rw [e39, vup_ne (fun z => by rw [z, hLo] at oa; omega)]
        have harg : nI (n38 (r39 a 8)) - 1 = nI C' := by
          rw [hra, e38, vup_eq, nI_succ]
          grind
        refine ⟨2 * (min 60 (N + 1) - N), 132 * (min 60 (N + 1) - N), by omega, by omega, ?_⟩
        rw [harg]
        refine m_notes hg p2 (fun q => by omega) rfl (fun ow' t' n' rr' ww' hg2 => ?_)
        rw [← e] at hg2
        exact hcont t' n' rr' ww' _ _ ⟨ow', hg2⟩ (by omega)
end MSPL
