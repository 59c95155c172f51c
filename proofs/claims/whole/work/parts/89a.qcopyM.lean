/-! THE PURE SIDE: a world copied in the model, whole -/
theorem cutw_lv {w v : Dt} {i j l : Nat} (h : ∀ p k, ¬ ((p = 7 ∨ p = 15 ∨ p = 19) ∧ k = 0) → v p k = w p k) {C S N p k : Nat} (hl : lv C S N p k) : cutw v i j l p k = w p k := by
  have hp : ¬ ((p = 7 ∨ p = 15 ∨ p = 19) ∧ k = 0) := fun z => by rcases hl with z' | z' | z' | z' | z' | z' | z' | z' | z' <;> omega
  rw [cutw_o hp, h p k hp]
set_option maxHeartbeats 4000000 in
theorem m_copy {post : Nat → (Nat → Nat) → (Nat → Nat) → (Nat → Nat → Nat) → Dt → Prop} {M B U T : Int} {ow t n : Nat → Nat} {rr : Nat → Nat → Nat} {ww w : Dt} {b a : Nat} (hb : 1000 ≤ b) (hW : WR ow n rr ww b a w) (hI : INV M B U T w) (hf : ∀ c, ow c ≠ 0 → t c ≠ 0) {b' : Nat} (hb' : 1000 ≤ b') (hfree : ∀ c, ¬ (b' < ow c ∧ ow c < b' + 100)) {bS sS : Nat} (hB : 100 ≤ bS ∧ 1300 ≤ sS)
    (hp : ∀ a' ow' t' n' rr' ww', GK ow n rr ww b' a' ow' t' n' rr' ww' w → post a' t' n' rr' ww') : wp_X12_copy post t n rr ww bS sS a := by
  obtain ⟨C, D, rk, N, hS, hIN⟩ := hI.sn
  obtain ⟨S, hK⟩ := hI.sk
  have hC := hS.hC
  have hN60 := hIN.hN
  have hS8 := hK.hS
  have nC : n (rr a 8) = C := nI_inj (by have := hW.nC; omega) (by omega) (hW.cC.symm.trans hS.cC)
  have nS : n (rr a 9) = S := nI_inj (by have := hW.nS; omega) (by omega) (hW.cS.symm.trans hK.cS)
  have nN : n (rr a 10) = N := nI_inj (by have := hW.nN; omega) (by omega) (hW.cN.symm.trans hIN.cN)
  refine ⟨by omega, by omega, fun a' t5 n6 r7 w8 hnew => ?_⟩
  obtain ⟨ow1, hg1, hk1⟩ := new_w hf hb' hnew
  -- what stays of the old store
  have old : ∀ {ow' t' n' : Nat → Nat} {rr' : Nat → Nat → Nat} {ww' u : Dt}, GK ow n rr ww b' a' ow' t' n' rr' ww' u → ∀ c, ow c ≠ 0 → ow' c = ow c ∧ n' c = n c ∧ rr' c = rr c ∧ ww' c = ww c := fun hg c hc => hg.ko c hc (hfree c)
  have src : ∀ {ow' t' n' : Nat → Nat} {rr' : Nat → Nat → Nat} {ww' u : Dt}, GK ow n rr ww b' a' ow' t' n' rr' ww' u → WK ow' n' rr' ww' b a ww' w := fun hg => WK.rfl0 hb (hW.keep (fun c hc => old hg c (by omega)))
  have ra : ∀ {ow' t' n' : Nat → Nat} {rr' : Nat → Nat → Nat} {ww' u : Dt}, GK ow n rr ww b' a' ow' t' n' rr' ww' u → rr' a = rr a := fun hg => (old hg a (by rw [hW.oa]; omega)).2.2.1
  have d8 : ∀ {ow' t' n' : Nat → Nat} {rr' : Nat → Nat → Nat} {ww' u : Dt}, GK ow n rr ww b' a' ow' t' n' rr' ww' u → n' (rr a 8) = C ∧ rr' (rr a 8) = rr (rr a 8) ∧ ww' (rr a 8) = ww (rr a 8) := fun hg => by
    have := old hg (rr a 8) (by rw [hW.o8]; omega)
    exact ⟨this.2.1.trans nC, this.2.2.1, this.2.2.2⟩
  have d9 : ∀ {ow' t' n' : Nat → Nat} {rr' : Nat → Nat → Nat} {ww' u : Dt}, GK ow n rr ww b' a' ow' t' n' rr' ww' u → n' (rr a 9) = S ∧ rr' (rr a 9) = rr (rr a 9) ∧ ww' (rr a 9) = ww (rr a 9) := fun hg => by
    have := old hg (rr a 9) (by rw [hW.o9]; omega)
    exact ⟨this.2.1.trans nS, this.2.2.1, this.2.2.2⟩
  have d10 : ∀ {ow' t' n' : Nat → Nat} {rr' : Nat → Nat → Nat} {ww' u : Dt}, GK ow n rr ww b' a' ow' t' n' rr' ww' u → n' (rr a 10) = N ∧ rr' (rr a 10) = rr (rr a 10) ∧ ww' (rr a 10) = ww (rr a 10) ∧ ∀ k, k < N → ow' (rr (rr a 10) k) = 9 ∧ ww' (rr (rr a 10) k) = ww (rr (rr a 10) k) := fun hg => by
    have := old hg (rr a 10) (by rw [hW.o10]; omega)
    refine ⟨this.2.1.trans nN, this.2.2.1, this.2.2.2, fun k hk => ?_⟩
    have e := hW.on k (by omega)
    have := old hg (rr (rr a 10) k) (by omega)
    exact ⟨this.1.trans e, this.2.2.2⟩
  -- the scars, the notes, the turns
  have scars : ∀ (ow' t' n' : Nat → Nat) (rr' : Nat → Nat → Nat) (ww' v0 : Dt) (B' S' : Nat), (∀ p k, ¬ (p = 0 ∧ k = 5) → v0 p k = w p k) → GK ow n rr ww b' a' ow' t' n' rr' ww' (cutw v0 C 0 0) → 2 * 8 + 4 ≤ B' → 29 * 8 + 250 ≤ S' → ∃ k9 : Nat, wp_X12_copy_173 post k9 a a' (rr a 9) 0 (ww (rr a 9) 0) t' n' rr' ww' B' S' := fun ow' t' n' rr' ww' v0 B' S' hv0 hg hB' hS' => by
    refine loopU (σ := Sto) (fun m y s => wp_X12_copy_173 post m a a' (rr a 9) y (ww (rr a 9) 0) s.1 s.2.1 s.2.2.1 s.2.2.2.1 s.2.2.2.2.1 s.2.2.2.2.2) S (fun j s => (∃ ow', GK ow n rr ww b' a' ow' s.1 s.2.1 s.2.2.1 s.2.2.2.1 (cutw v0 C j 0)) ∧ 2 * (8 - j) + 4 ≤ s.2.2.2.2.1 ∧ 29 * (8 - j) + 250 ≤ s.2.2.2.2.2) (t', n', rr', ww', B', S') ⟨⟨ow', hg⟩, by dsimp only; omega, by dsimp only; omega⟩ (fun m s hs => ?_) (fun j m s hj hs hk => ?_)
    · obtain ⟨t', n', rr', ww', B', S'⟩ := s
      obtain ⟨⟨ow', hg⟩, hb1, hb2⟩ := hs
      dsimp only at hg hb1 hb2
      obtain ⟨c1, c2, c3, c4⟩ := d10 hg
      have hn10 : n' (rr' a' 10) = 0 := nI_inj (by have := hg.wr.nN; omega) (by omega) (hg.wr.cN.symm.trans (cutw_19 _ _ _ _))
      have hne : rr a 10 ≠ rr' a' 10 := fun z => by
        have e1 := hg.wr.o10
        have e2 := (old hg (rr a 10) (by rw [hW.o10]; omega)).1
        rw [← z, e2] at e1
        exact hfree (rr a 10) (by omega)
      refine ⟨fun _ => ?_, fun g => absurd (by dsimp only; rw [(d9 hg).1]) g⟩
      dsimp only
      rw [ra hg, c1, c2]
      refine ⟨hn10, hne, by omega, by omega, by omega, fun n38 e38 r39 e39 w40 e40 w42 e42 => ?_⟩
      have hg2 : GK ow n rr ww b' a' ow' t' n38 r39 w40 (cutw v0 C S N) := by
        refine hg.bulk hn10 (N := N) (g := rr (rr a 10)) hN60 (fun k hk => (c4 k hk).1) e38 e39 (fun c hc => by rw [e40, up2_ne hc]) (cutw_19 _ _ _ _) (fun p k hpk => ?_) (fun p k h1 h2 hk => ?_)
        · unfold cutw
          by_cases q1 : p = 7 ∧ k = 0
          · rw [if_pos q1, if_pos q1]
          · rw [if_neg q1, if_neg q1]
            by_cases q2 : p = 15 ∧ k = 0
            · rw [if_pos q2, if_pos q2]
            · rw [if_neg q2, if_neg q2, if_neg hpk, if_neg hpk]
        · rw [cutw_o (by omega), hv0 p k (by omega), (c4 k hk).2]
          have := hW.da p k (lvn h1 h2 (by omega))
          rw [gx_n (by omega), RA_nt (by omega) h2, RI_nt h1 h2] at this
          exact this
      have hg3 := hg2.st (hg2.wk.r11 (w40 a 11))
      have e11 : w40 a 11 = w 0 5 := by
        have := (src hg2).rr11
        exact this
      rw [e11, ← e11] at hg3
      rw [← e42] at hg3
      refine hp a' ow' t' n38 r39 w42 ⟨hg3.hb, ?_, hg3.fr, hg3.ko, hg3.nw⟩
      have hw42 := hg3.wr
      rw [e11] at hw42
      have m8 : n38 (r39 a' 8) = C := nI_inj (by have := hw42.nC; omega) (by omega) (hw42.cC.symm.trans (by rw [up2_nr (by omega)]; exact cutw_7 _ _ _ _))
      refine hw42.cg2 ?_ ?_ ?_ (fun p k hl => ?_) (fun k hk => ?_)
      · rw [up2_nr (by omega), cutw_7]; exact hS.cC
      · rw [up2_nr (by omega), cutw_15]; exact hK.cS
      · rw [up2_nr (by omega), cutw_19]; exact hIN.cN
      · by_cases z : p = 0 ∧ k = 5
        · obtain ⟨rfl, rfl⟩ := z
          rw [up2_eq]
        · have hpn : ¬ ((p = 7 ∨ p = 15 ∨ p = 19) ∧ k = 0) := fun z => by rcases hl with z' | z' | z' | z' | z' | z' | z' | z' | z' <;> omega
          rw [up2_no z, cutw_o hpn, hv0 p k z]
      · rw [up2_nr (by omega), cutw_o (by omega), hv0 12 k (by omega)]
    · obtain ⟨t', n', rr', ww', B', S'⟩ := s
      obtain ⟨⟨ow', hg⟩, hb1, hb2⟩ := hs
      dsimp only at hg hb1 hb2
      obtain ⟨c1, c2, c3⟩ := d9 hg
      have cj : (nI j).toNatClampNeg = j := nI_cl (by omega)
      have hn9 : n' (rr' a' 9) = j := nI_inj (by have := hg.wr.nS; omega) (by omega) (hg.wr.cS.symm.trans (cutw_15 _ _ _ _))
      have eo := hW.osc j (by omega)
      have ex := old hg (rr (rr a 9) j) (by omega)
      refine ⟨fun g => ?_, fun _ => ⟨?_, ?_, by dsimp only; omega, by dsimp only; omega, fun q hq t52 e52 w53 e53 => ?_⟩⟩
      · dsimp only at g
        rw [c1] at g
        have := nI_inj (by omega) (by omega) g
        omega
      · dsimp only
        rw [c1]
        exact vp_nI hj (by omega)
      · dsimp only
        rw [c3]
      · dsimp only at hq e52 e53 ⊢
        rw [c2, cj] at e53
        have hqo : ow' q = 0 := Decidable.byContradiction fun z => hg.fr q z hq
        have hLq : rr' a' 9 ≠ q := fun z => by
          have := hg.wr.o9
          rw [z] at this
          omega
        rw [hn9]
        refine ⟨by omega, by omega, by omega, fun n62 e62 r63 e63 w64 e64 => ?_⟩
        have hd64 : ∀ k, w64 q k = ww (rr (rr a 9) j) k := fun k => by rw [e64, up2_nr (Ne.symm hLq), e53, vup_eq, ex.2.2.2]
        have hg2 := hg.appC hn9 (by omega) hq e52 e62 e63 (ww' := w64) (fun c h1 h2 => by rw [e64, up2_ne h1, e53, vup_ne h2]) (w' := cutw v0 C (j + 1) 0) (cutw_15 _ _ _ _) (fun p k h1 _ => ?_) (fun p h1 h2 => ?_)
        · have := hk (t52, n62, r63, w64, B' - 1 - 1, S' - 3 - (2 * j + 10)) ⟨⟨_, hg2⟩, by dsimp only; omega, by dsimp only; omega⟩
          rw [nI_succ] at this
          exact this
        · unfold cutw
          by_cases q1 : p = 7 ∧ k = 0
          · rw [if_pos q1, if_pos q1]
          · rw [if_neg q1, if_neg q1, if_neg h1, if_neg h1]
        · rw [cutw_o (by omega), hv0 p j (by omega), hd64]
          have := hW.da p j (lvc h1 h2 (by omega))
          rw [gx_n (by omega), RA_sc (by omega) h2] at this
          exact this
  -- the storms
  have storms : ∀ (ow' t' n' : Nat → Nat) (rr' : Nat → Nat → Nat) (ww' v0 : Dt) (B' S' : Nat), (∀ p k, ¬ (p = 0 ∧ k = 5) → v0 p k = w p k) → GK ow n rr ww b' a' ow' t' n' rr' ww' (cutw v0 0 0 0) → 2 * 12 + 40 ≤ B' → 41 * 12 + 600 ≤ S' → ∃ k9 : Nat, wp_X12_copy_127 post k9 a a' (rr a 8) 0 (ww (rr a 8) 0) t' n' rr' ww' B' S' := fun ow' t' n' rr' ww' v0 B' S' hv0 hg hB' hS' => by
    refine loopU (σ := Sto) (fun m y s => wp_X12_copy_127 post m a a' (rr a 8) y (ww (rr a 8) 0) s.1 s.2.1 s.2.2.1 s.2.2.2.1 s.2.2.2.2.1 s.2.2.2.2.2) C (fun j s => (∃ ow', GK ow n rr ww b' a' ow' s.1 s.2.1 s.2.2.1 s.2.2.2.1 (cutw v0 j 0 0)) ∧ 2 * (12 - j) + 40 ≤ s.2.2.2.2.1 ∧ 41 * (12 - j) + 600 ≤ s.2.2.2.2.2) (t', n', rr', ww', B', S') ⟨⟨ow', hg⟩, by dsimp only; omega, by dsimp only; omega⟩ (fun m s hs => ?_) (fun j m s hj hs hk => ?_)
    · obtain ⟨t', n', rr', ww', B', S'⟩ := s
      obtain ⟨⟨ow', hg⟩, hb1, hb2⟩ := hs
      dsimp only at hg hb1 hb2
      refine ⟨fun _ => ⟨by dsimp only; omega, by dsimp only; omega, ?_⟩, fun g => absurd (by dsimp only; rw [(d8 hg).1]) g⟩
      dsimp only
      rw [ra hg, (d9 hg).2.2]
      exact scars ow' t' n' rr' ww' v0 (B' - 1) (S' - 4) hv0 hg (by omega) (by omega)
    · obtain ⟨t', n', rr', ww', B', S'⟩ := s
      obtain ⟨⟨ow', hg⟩, hb1, hb2⟩ := hs
      dsimp only at hg hb1 hb2
      obtain ⟨c1, c2, c3⟩ := d8 hg
      have cj : (nI j).toNatClampNeg = j := nI_cl (by omega)
      have hn8 : n' (rr' a' 8) = j := nI_inj (by have := hg.wr.nC; omega) (by omega) (hg.wr.cC.symm.trans (cutw_7 _ _ _ _))
      have eo := hW.os j (by omega)
      have ex := old hg (rr (rr a 8) j) (by omega)
      have g13 : w 13 j = 1 - ww (rr (rr a 8) j) 5 := (WK.rfl0 hb hW).rg (by omega)
      have h5 : ww (rr (rr a 8) j) 5 = 0 ∨ ww (rr (rr a 8) j) 5 = 1 := by
        rcases hS.th j (by omega) with z | z
        · right
          have : (1 : Int32) - (1 - ww (rr (rr a 8) j) 5) = 1 - 0 := by rw [← g13, z]
          grind
        · left
          have : (1 : Int32) - (1 - ww (rr (rr a 8) j) 5) = 1 - 1 := by rw [← g13, z]
          grind
      have h4 : chr9 (ww (rr (rr a 8) j) 4) = ww (rr (rr a 8) j) 4 := by
        rcases hS.th j (by omega) with z | z
        · rw [hW.ng j (by omega) z]; rfl
        · rw [← hW.nm j (by omega) z]; exact hS.ch j (by omega)
      refine ⟨fun g => ?_, fun _ => ⟨?_, ?_, 1, 7, by dsimp only; omega, by dsimp only; omega, ?_⟩⟩
      · dsimp only at g
        rw [c1] at g
        have := nI_inj (by omega) (by omega) g
        omega
      · dsimp only
        rw [c1]
        exact vp_nI hj (by omega)
      · dsimp only
        rw [c3]
      · dsimp only
        rw [c2, cj]
        refine m_scopy ⟨Nat.le_refl 1, Nat.le_refl 7⟩ (hg.fr _ (by rw [ex.1]; omega)) (by rw [ex.2.2.2]; exact h4) (by rw [ex.2.2.2]; exact h5) (fun q w77 hq hw77 hq77 => ?_)
        have hqo : ow' q = 0 := Decidable.byContradiction fun z => hg.fr q z hq
        have hLq : rr' a' 8 ≠ q := fun z => by
          have := hg.wr.o8
          rw [z] at this
          omega
        rw [hn8]
        refine ⟨by omega, by omega, by omega, fun n87 e87 r88 e88 w89 e89 => ?_⟩
        have hd89 : ∀ k, k ≤ 6 → w89 q k = ww (rr (rr a 8) j) k := fun k hk => by rw [e89, up2_nr (Ne.symm hLq), hq77 k hk, ex.2.2.2]
        have hg2 := hg.appS hn8 (by omega) hq rfl e87 e88 (ww' := w89) (fun c h1 h2 => by rw [e89, up2_ne h1, hw77 c h2]) (w' := cutw v0 (j + 1) 0 0) (cutw_7 _ _ _ _) (fun p k h1 _ => ?_) ⟨fun p h1 h2 h3 => ?_, ?_, ?_⟩
        · have := hk (va_up t' q 3, n87, r88, w89, B' - 1 - 1, S' - 7 - (2 * j + 10)) ⟨⟨_, hg2⟩, by dsimp only; omega, by dsimp only; omega⟩
          rw [nI_succ] at this
          exact this
        · unfold cutw
          rw [if_neg h1, if_neg h1]
        · rw [cutw_o (by omega), hv0 p j (by omega), hd89 _ (by omega)]
          have := hW.da p j (lvs h1 h2 h3 (by omega))
          rw [RA_st (by omega) h2, RI_st h1 h2] at this
          exact this
        · rw [cutw_o (by omega), cutw_o (by omega), hv0 13 j (by omega), hv0 12 j (by omega), hd89 4 (by omega)]
          exact hW.nm j (by omega)
        · rw [cutw_o (by omega), hv0 13 j (by omega), hd89 4 (by omega)]
          exact hW.ng j (by omega)
  -- the column and the belts
  refine loopU (fun m y s => wp_X12_copy_10 post m a a' y t5 n6 r7 s (bS - 28) (sS - 123)) 10 (fun i s => ∃ u, GK ow n rr ww b' a' ow1 t5 n6 r7 s u ∧ AGS (P1 i) u w ∧ RU (fun p => p = 0 ∨ p = 7 ∨ p = 15 ∨ p = 19) u zw) w8 ⟨zw, hg1, fun p k z => by omega, fun p _ => rfl⟩ (fun m s hs => ?_) (fun i m s hi hs hk => ?_)
  · obtain ⟨u, hg, hu, hr⟩ := hs
    refine ⟨fun _ w12 e12 w13 e13 w16 e16 w17 e17 w18 e18 => ⟨by omega, by omega, ?_⟩, fun g => absurd (Int32.le_refl _) g⟩
    have g2 := hg.st (hg.wk.r3 (s a 3))
    rw [← e12, (src hg).rr3] at g2
    have a2 := hu.up (P' := fun p k => P1 10 p k ∨ (p = 1 ∧ k = 3)) 1 3 (fun p k z => z)
    have r2 := hr.up 1 3 (w 1 3) (fun q z => by omega)
    have g3 := g2.st (g2.wk.r4 (w12 a 4))
    rw [← e13, (src g2).rr4] at g3
    have a3 := a2.up (P' := fun p k => P1 10 p k ∨ (p = 1 ∧ 3 ≤ k ∧ k ≤ 4)) 1 4 (fun p k z => by omega)
    have r3 := r2.up 1 4 (w 1 4) (fun q z => by omega)
    rw [row_cpy] at e16
    have g4 := g3.st (g3.wk.rowb (w13 (r7 a 5)) 12 (by omega))
    rw [← e16] at g4
    have a4 := a3.row (P' := fun p k => (P1 10 p k ∨ (p = 1 ∧ 3 ≤ k ∧ k ≤ 4)) ∨ (p = 6 ∧ k < 12)) 6 (f := w13 (r7 a 5)) (m := 12) (fun k hk => (src g3).rb hk) (fun p k z => z)
    have r4 : RU (fun p => p = 0 ∨ p = 7 ∨ p = 15 ∨ p = 19) (rowN (up2 (up2 u 1 3 (w 1 3)) 1 4 (w 1 4)) 6 (w13 (r7 a 5)) 12) zw := fun p hp' => by
      rw [rowN_nr (by omega)]
      exact r3 p hp'
    have g5 := g4.st (g4.wk.r6 (w16 a 6))
    rw [← e17, (src g4).rr6] at g5
    have a5 := a4.up (P' := fun p k => ((P1 10 p k ∨ (p = 1 ∧ 3 ≤ k ∧ k ≤ 4)) ∨ (p = 6 ∧ k < 12)) ∨ (p = 5 ∧ k = 1)) 5 1 (fun p k z => z)
    have r5 := r4.up 5 1 (w 5 1) (fun q z => by omega)
    have g6 := g5.st (g5.wk.r7 (w17 a 7))
    rw [← e18, (src g5).rr7] at g6
    have a6 := a5.up (P' := fun p k => ((P1 10 p k ∨ (p = 1 ∧ 3 ≤ k ∧ k ≤ 4)) ∨ (p = 6 ∧ k < 12)) ∨ (p = 5 ∧ 1 ≤ k ∧ k ≤ 2)) 5 2 (fun p k z => by omega)
    have r6 := r5.up 5 2 (w 5 2) (fun q z => by omega)
    generalize up2 (up2 (rowN (up2 (up2 u 1 3 (w 1 3)) 1 4 (w 1 4)) 6 (w13 (r7 a 5)) 12) 5 1 (w 5 1)) 5 2 (w 5 2) = x at g6 a6 r6
    have n8 : n6 (r7 a' 8) = 0 := nI_inj (by have := g6.wr.nC; omega) (by omega) (g6.wr.cC.symm.trans (by rw [r6 7 (by omega)]; rfl))
    have n9 : n6 (r7 a' 9) = 0 := nI_inj (by have := g6.wr.nS; omega) (by omega) (g6.wr.cS.symm.trans (by rw [r6 15 (by omega)]; rfl))
    have n10 : n6 (r7 a' 10) = 0 := nI_inj (by have := g6.wr.nN; omega) (by omega) (g6.wr.cN.symm.trans (by rw [r6 19 (by omega)]; rfl))
    have g7 : GK ow n rr ww b' a' ow1 t5 n6 r7 w18 (cutw (up2 w 0 5 0) 0 0 0) := by
      refine ⟨g6.hb, g6.wr.cg2 ?_ ?_ ?_ (fun p k hl => ?_) (fun k hk => ?_), g6.fr, g6.ko, g6.nw⟩
      · rw [cutw_7, r6 7 (by omega)]; rfl
      · rw [cutw_15, r6 15 (by omega)]; rfl
      · rw [cutw_19, r6 19 (by omega)]; rfl
      · rw [n8, n9, n10] at hl
        by_cases z : p = 0
        · subst z
          have hk5 : k = 5 := by rcases hl with z' | z' | z' | z' | z' | z' | z' | z' | z' <;> omega
          subst hk5
          rw [cutw_o (by omega), up2_eq, r6 0 (by omega)]
          rfl
        · have hpn : ¬ ((p = 7 ∨ p = 15 ∨ p = 19) ∧ k = 0) := fun z => by rcases hl with z' | z' | z' | z' | z' | z' | z' | z' | z' <;> omega
          rw [cutw_o hpn, up2_nr z]
          refine (a6 p k ?_).symm
          rcases hl with z' | z' | z' | z' | z' | z' | z' | z' | z' <;> omega
      · rw [n8] at hk
        omega
    rw [ra g7, (d8 g7).2.2]
    exact storms ow1 t5 n6 r7 w18 (up2 w 0 5 0) _ _ (fun p k z => up2_no z) g7 (by omega) (by omega)
  · obtain ⟨u, hg, hu, hr⟩ := hs
    have ci : (nI i).toNatClampNeg = i := nI_cl (by omega)
    refine ⟨fun g => absurd g (by rw [show (10 : Int32) = nI 10 from rfl, nI_le2 (by omega) (by omega)]; omega), fun _ => ⟨vp_nI hi (by omega), fun w93 e93 w98 e98 w103 e103 => ?_⟩⟩
    rw [ci] at e93 e98 e103
    have g2 := hg.st (hg.wk.t hi (s (r7 a 0) i))
    rw [← e93, (src hg).rt hi] at g2
    have a2 := hu.up (P' := fun p k => P1 i p k ∨ (p = 2 ∧ k = i)) 2 i (fun p k z => z)
    have r2 := hr.up 2 i (w 2 i) (fun q z => by omega)
    rw [row_cpy] at e98 e103
    have g3 := g2.st (g2.wk.rowv hi (w93 (r7 (r7 a 1) i)) 3 (by omega))
    rw [← e98] at g3
    have a3 := a2.row (P' := fun p k => (P1 i p k ∨ (p = 2 ∧ k = i)) ∨ (p = i + 22 ∧ k < 3)) (i + 22) (f := w93 (r7 (r7 a 1) i)) (m := 3) (fun k hk => (src g2).rv hi hk) (fun p k z => z)
    have r3 : RU (fun p => p = 0 ∨ p = 7 ∨ p = 15 ∨ p = 19) (rowN (up2 u 2 i (w 2 i)) (i + 22) (w93 (r7 (r7 a 1) i)) 3) zw := fun p hp' => by
      rw [rowN_nr (by omega)]
      exact r2 p hp'
    have g4 := g3.st (g3.wk.rowi hi (w98 (r7 (r7 a 2) i)) 3 (by omega))
    rw [← e103] at g4
    have a4 := a3.row (P' := P1 (i + 1)) (i + 32) (f := w98 (r7 (r7 a 2) i)) (m := 3) (fun k hk => (src g3).ri hi hk) (fun p k z => by omega)
    have r4 : RU (fun p => p = 0 ∨ p = 7 ∨ p = 15 ∨ p = 19) (rowN (rowN (up2 u 2 i (w 2 i)) (i + 22) (w93 (r7 (r7 a 1) i)) 3) (i + 32) (w98 (r7 (r7 a 2) i)) 3) zw := fun p hp' => by
      rw [rowN_nr (by omega)]
      exact r3 p hp'
    rw [← nI_succ]
    exact hk w103 ⟨_, g4, a4, r4⟩
