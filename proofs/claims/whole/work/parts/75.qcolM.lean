/-! THE PURE SIDE: a turn of the column in the model -/
section MCOL
variable {ow t n : Nat → Nat} {rr : Nat → Nat → Nat} {ww0 : Dt} {b a : Nat}
theorem m_weight {post : Int32 → Prop} {ww w : Dt} (hw : WK ow n rr ww0 b a ww w) {k : Nat} (hk : k < 10) (h : post (amt w k)) : wp_X12_weight post t n rr ww a (nI k) := by
  have ck : (nI k).toNatClampNeg = k := nI_cl (by omega)
  refine ⟨4, ⟨fun g => absurd g (by decide), fun _ => ⟨vp_nI hk (by omega), vp_in_iff.mpr (by decide), fun v e => ?_⟩⟩⟩
  refine ⟨fun g => absurd g (by decide), fun _ => ⟨vp_nI hk (by omega), vp_in_iff.mpr (by decide), fun v' e' => ?_⟩⟩
  refine ⟨fun g => absurd g (by decide), fun _ => ⟨vp_nI hk (by omega), vp_in_iff.mpr (by decide), fun v'' e'' => ?_⟩⟩
  refine ⟨fun _ => ?_, fun g => absurd (by decide) g⟩
  rw [ck] at e e' e''
  rw [show (0 : Int32).toNatClampNeg = 0 from rfl, hw.rv hk (by omega), hw.ri hk (by omega)] at e
  rw [show (0 + 1 : Int32).toNatClampNeg = 1 from rfl, hw.rv hk (by omega), hw.ri hk (by omega)] at e'
  rw [show (0 + 1 + 1 : Int32).toNatClampNeg = 2 from rfl, hw.rv hk (by omega), hw.ri hk (by omega)] at e''
  have : v'' = amt w k := by
    rw [e'', e', e]
    unfold amt
    grind
  rw [this]
  exact h
theorem holds_eq : ∀ v : Fin 3, ∀ (post : Int32 → Prop) (t n : Nat → Nat) (rr : Nat → Nat → Nat) (ww : Dt), post (fHel v.1) → wp_X13_holdsEach post t n rr ww (nI v.1) := by
  intro v post t n rr ww h
  match v, h with
  | ⟨0, _⟩, h => exact ⟨fun g => absurd rfl g, fun _ => h⟩
  | ⟨1, _⟩, h => exact ⟨fun _ => ⟨fun g => absurd rfl g, fun _ => h⟩, fun g => absurd g (show ¬ nI 1 = 0 by decide)⟩
  | ⟨2, _⟩, h => exact ⟨fun _ => ⟨fun _ => h, fun g => absurd g (show ¬ nI 2 = 1 by decide)⟩, fun g => absurd g (show ¬ nI 2 = 0 by decide)⟩
/-- one level: what freezes -/
theorem m_freeze {post : Dt → Prop} {K : Nat → Int32 → Dt → Prop} {M B : Int} (hM : M ≤ 1000000) (hB : B ≤ 20000000) {ww w : Dt} (hw : WK ow n rr ww0 b a ww w) (hI : IC M B w) {k : Nat} (hk : k < 10) (h : ∀ ww', WK ow n rr ww0 b a ww' (fF w k) → K a (nI k + 1) ww') : ∃ k9 : Nat, wp_X12_column_24 post t n rr K k9 a (nI k) 0 ww := by
  refine loopU (fun m y s => wp_X12_column_24 post t n rr K m a (nI k) y s) 3 (fun i s => WK ow n rr ww0 b a s (itr (fun w v => tr w (k + 22) v (k + 32) v (frz w k v)) w i) ∧ IC M B (itr (fun w v => tr w (k + 22) v (k + 32) v (frz w k v)) w i)) ww ⟨hw, hI⟩ (fun m s hs => ?_) (fun i m s hi hs hk' => ?_)
  · exact ⟨fun _ => h s hs.1, fun g => absurd (Int32.le_refl _) g⟩
  · have ck : (nI k).toNatClampNeg = k := nI_cl (by omega)
    have ci : (nI i).toNatClampNeg = i := nI_cl (by omega)
    obtain ⟨hs1, hs2⟩ := hs
    have hfin := hs2.k_frz hM hB hk hi
    have hz := (frz_ok hs2 hM hB hk hi).2.2
    revert hs1 hs2 hfin hz
    rw [show itr (fun w v => tr w (k + 22) v (k + 32) v (frz w k v)) w (i + 1) = (fun w v => tr w (k + 22) v (k + 32) v (frz w k v)) (itr (fun w v => tr w (k + 22) v (k + 32) v (frz w k v)) w i) i from rfl] at hk'
    revert hk'
    generalize itr (fun w v => tr w (k + 22) v (k + 32) v (frz w k v)) w i = u
    intro hk' hs1 hs2 hfin hz
    refine ⟨fun g => absurd g (by rw [show (3 : Int32) = nI 3 from rfl, nI_le2 (by omega) (by omega)]; omega), fun _ => holds_eq ⟨i, hi⟩ _ _ _ _ _ ⟨vp_nI hk (by omega), vp_nI hi (by omega), fun v e => ?_⟩⟩
    rw [ck, ci, hs1.rt hk, hs1.rv hk hi] at e
    have fin : ∀ y : Int32, y = -(frz u k i) → wp_X12_column_82 post t n rr K (fun a0 a1 a2 a3 => wp_X12_column_24 post t n rr K m a0 a1 a2 a3) a (nI k) (nI i) y s := fun y ey => by
      refine ⟨vp_nI hk (by omega), vp_nI hi (by omega), fun w10 e10 w11 e11 => ?_⟩
      rw [ck, ci] at e10 e11
      rw [← nI_succ]
      refine hk' w11 ⟨?_, hfin⟩
      have h1 := hs1.v hk hi (u (k + 22) i - frz u k i)
      have h2 := h1.i hk hi (up2 u (k + 22) i (u (k + 22) i - frz u k i) (k + 32) i + frz u k i)
      have e1 : ww = ww := rfl
      have q1 : s (rr (rr a 1) k) i + y = u (k + 22) i - frz u k i := by rw [hs1.rv hk hi, ey]; grind
      have q2 : w10 (rr (rr a 2) k) i - y = up2 u (k + 22) i (u (k + 22) i - frz u k i) (k + 32) i + frz u k i := by
        rw [e10, q1, h1.ri hk hi, ey]
        grind
      rw [e11, q2, e10, q1]
      exact h2
    subst e
    refine ⟨fun g => fin _ ?_, fun g => fin _ ?_⟩
    · rw [ck, ci, hs1.ri hk hi]
      exact hz _ (fun _ => rfl) (fun g' => absurd g g')
    · exact hz _ (fun g' => absurd g' g) (fun _ => rfl)
theorem m_dropIce {post : Dt → Prop} {K : Nat → Int32 → Dt → Prop} {ww w : Dt} (hw : WK ow n rr ww0 b a ww w) {k : Nat} (hk : k < 9) (h : ∀ ww', WK ow n rr ww0 b a ww' (fD w k) → K a (nI k + (-1)) ww') : ∃ k9 : Nat, wp_X12_column_131 post t n rr K k9 a (nI k) 0 ww := by
  refine loopU (fun m y s => wp_X12_column_131 post t n rr K m a (nI k) y s) 3 (fun i s => WK ow n rr ww0 b a s (itr (fun w v => tr w (k + 32) v (k + 1 + 32) v ((w (k + 32) v + 1) / 2)) w i)) ww hw (fun m s hs => ?_) (fun i m s hi hs1 hk' => ?_)
  · exact ⟨fun _ => h s hs, fun g => absurd (Int32.le_refl _) g⟩
  · have ck : (nI k).toNatClampNeg = k := nI_cl (by omega)
    have ck1 : (nI k + 1).toNatClampNeg = k + 1 := by rw [← nI_succ]; exact nI_cl (by omega)
    have ci : (nI i).toNatClampNeg = i := nI_cl (by omega)
    rw [show itr (fun w v => tr w (k + 32) v (k + 1 + 32) v ((w (k + 32) v + 1) / 2)) w (i + 1) = (fun w v => tr w (k + 32) v (k + 1 + 32) v ((w (k + 32) v + 1) / 2)) (itr (fun w v => tr w (k + 32) v (k + 1 + 32) v ((w (k + 32) v + 1) / 2)) w i) i from rfl] at hk'
    revert hk' hs1
    generalize itr (fun w v => tr w (k + 32) v (k + 1 + 32) v ((w (k + 32) v + 1) / 2)) w i = u
    intro hs1 hk'
    refine ⟨fun g => absurd g (by rw [show (3 : Int32) = nI 3 from rfl, nI_le2 (by omega) (by omega)]; omega), fun _ => ⟨vp_nI (by omega) (by omega), vp_nI hi (by omega), fun v4 e4 w5 e5 => ⟨by rw [← nI_succ]; exact vp_nI (by omega) (by omega), fun w7 e7 => ?_⟩⟩⟩
    rw [ck, ci, hs1.ri (by omega) hi] at e4 e5
    rw [ck1, ci] at e7
    rw [← nI_succ i]
    refine hk' w7 ?_
    have h1 := hs1.i (k := k) (by omega) hi (u (k + 32) i - (u (k + 32) i + 1) / 2)
    have h2 := h1.i (k := k + 1) (by omega) hi (up2 u (k + 32) i (u (k + 32) i - (u (k + 32) i + 1) / 2) (k + 1 + 32) i + (u (k + 32) i + 1) / 2)
    rw [e7, e5, e4, h1.ri (k := k + 1) (by omega) hi]
    exact h2
theorem m_riseV {post : Dt → Prop} {K : Nat → Int32 → Dt → Prop} {ww w : Dt} (hw : WK ow n rr ww0 b a ww w) {k : Nat} (hk : k < 9) (h : ∀ ww', WK ow n rr ww0 b a ww' (fV w k) → K a (nI k + (-1)) ww') : ∃ k9 : Nat, wp_X12_column_273 post t n rr K k9 a (nI k) 0 ww := by
  refine loopU (fun m y s => wp_X12_column_273 post t n rr K m a (nI k) y s) 3 (fun i s => WK ow n rr ww0 b a s (itr (fun w v => tr w (k + 1 + 22) v (k + 22) v (w (k + 1 + 22) v / 10)) w i)) ww hw (fun m s hs => ?_) (fun i m s hi hs1 hk' => ?_)
  · exact ⟨fun _ => h s hs, fun g => absurd (Int32.le_refl _) g⟩
  · have ck : (nI k).toNatClampNeg = k := nI_cl (by omega)
    have ck1 : (nI k + 1).toNatClampNeg = k + 1 := by rw [← nI_succ]; exact nI_cl (by omega)
    have ci : (nI i).toNatClampNeg = i := nI_cl (by omega)
    rw [show itr (fun w v => tr w (k + 1 + 22) v (k + 22) v (w (k + 1 + 22) v / 10)) w (i + 1) = (fun w v => tr w (k + 1 + 22) v (k + 22) v (w (k + 1 + 22) v / 10)) (itr (fun w v => tr w (k + 1 + 22) v (k + 22) v (w (k + 1 + 22) v / 10)) w i) i from rfl] at hk'
    revert hk' hs1
    generalize itr (fun w v => tr w (k + 1 + 22) v (k + 22) v (w (k + 1 + 22) v / 10)) w i = u
    intro hs1 hk'
    refine ⟨fun g => absurd g (by rw [show (3 : Int32) = nI 3 from rfl, nI_le2 (by omega) (by omega)]; omega), fun _ => ⟨by rw [← nI_succ]; exact vp_nI (by omega) (by omega), vp_nI hi (by omega), fun v4 e4 w5 e5 => ⟨vp_nI (by omega) (by omega), fun w7 e7 => ?_⟩⟩⟩
    rw [ck1, ci, hs1.rv (k := k + 1) (by omega) hi] at e4 e5
    rw [ck, ci] at e7
    rw [← nI_succ i]
    refine hk' w7 ?_
    have h1 := hs1.v (k := k + 1) (by omega) hi (u (k + 1 + 22) i - u (k + 1 + 22) i / 10)
    have h2 := h1.v (k := k) (by omega) hi (up2 u (k + 1 + 22) i (u (k + 1 + 22) i - u (k + 1 + 22) i / 10) (k + 22) i + u (k + 1 + 22) i / 10)
    rw [e7, e5, e4, h1.rv (k := k) (by omega) hi]
    exact h2
theorem sub_le_not {x y : Int32} : ¬ (x < y) ↔ y ≤ x := by
  rw [Int32.lt_iff_toInt_lt, Int32.le_iff_toInt_le]
  omega
theorem m_column {post : Dt → Prop} {M B : Int} (hM : M ≤ 999000) (hB : B ≤ 20000000) {ww w : Dt} (hw : WK ow n rr ww0 b a ww w) (hI : IC M B w) (h : ∀ ww', WK ow n rr ww0 b a ww' (fCol w) → post ww') : wp_X12_column post t n rr ww a := by
  intro w2 e2
  have h0 : WK ow n rr ww0 b a w2 (fC0 w) := by
    rw [hw.rt (by omega), hw.rr3] at e2
    rw [e2]
    exact (hw.t (k := 9) (by omega) _).told (Or.inl ⟨rfl, by omega⟩) _
  refine loopU (fun m y s => wp_X12_column_16 post t n rr m a y s) 10 (fun i s => WK ow n rr ww0 b a s (itr fF (fC0 w) i)) w2 h0 (fun m s hs => ?_) (fun i m s hi hs hk => ?_)
  · refine ⟨fun _ => ?_, fun g => absurd (Int32.le_refl _) g⟩
    refine loopD (fun m y s => wp_X12_column_125 post t n rr m a y s) (fun i s => WK ow n rr ww0 b a s (itr (fun w i => fD w (8 - i)) (fC1 w) i)) s hs (fun m s y hy hs => ?_) (fun i m s hi hs hk => ?_)
    · refine ⟨fun _ => ?_, fun g => absurd hy g⟩
      refine loopD (fun m y s => wp_X12_column_190 post t n rr m a y s) (fun i s => WK ow n rr ww0 b a s (itr (fun w i => fR w (8 - i)) (fC2 w) i)) s hs (fun m s y hy hs => ?_) (fun i m s hi hs hk => ?_)
      · refine ⟨fun _ w6 e6 w7 e7 => ?_, fun g => absurd hy g⟩
        have hs' : WK ow n rr ww0 b a s (fC3 w) := hs
        have h1 := hs'.t (k := 0) (by omega) (fC3 w 2 0 - fC3 w 2 0 / 100)
        have h2 := h1.r4 (up2 (fC3 w) 2 0 (fC3 w 2 0 - fC3 w 2 0 / 100) 1 4 + fC3 w 2 0 / 100)
        rw [hs'.rt (by omega)] at e6 e7
        rw [e7, e6, h1.rr4]
        exact h _ h2
      · have hkk : 8 - i < 9 := by omega
        have hk2 : ∀ s', WK ow n rr ww0 b a s' (fR (itr (fun w i => fR w (8 - i)) (fC2 w) i) (8 - i)) → wp_X12_column_190 post t n rr m a (nI (8 - i) + -1) s' := fun s' hs' => hk s' _ rfl hs'
        have hI2 : IC (M + 9) B (itr (fun w i => fR w (8 - i)) (fC2 w) i) := hI.c3 hM hB i (by omega)
        clear hk
        revert hk2 hs hI2
        generalize itr (fun w i => fR w (8 - i)) (fC2 w) i = u
        generalize 8 - i = k at hkk
        intro hs hk2 hI2
        have ck : (nI k).toNatClampNeg = k := nI_cl (by omega)
        have ck1 : (nI k + 1).toNatClampNeg = k + 1 := by rw [← nI_succ]; exact nI_cl (by omega)
        refine ⟨fun g => absurd g (nI_nn' (by omega)), fun _ => ⟨by rw [← nI_succ]; exact vp_nI (by omega) (by omega), vp_nI (by omega) (by omega), fun v14 e14 => ?_⟩⟩
        rw [ck, ck1, hs.rt (by omega), hs.rt (k := k) (by omega), show u 2 (k + 1) - u 2 k - 25 = ovr u k from rfl] at e14
        subst e14
        unfold fR at hk2
        refine ⟨fun g => ?_, fun g => ?_⟩
        · rw [if_pos g] at hk2
          exact hk2 s hs
        · rw [if_neg g] at hk2
          rw [← nI_succ]
          refine m_weight hs (by omega) ?_
          refine m_weight hs (by omega) ?_
          refine ⟨fun g2 => ?_, fun g2 w20 e20 w22 e22 => ?_⟩
          · rw [if_neg (sub_le_not.mpr g2)] at hk2
            exact hk2 s hs
          · rw [if_pos (Decidable.of_not_not fun z => g2 (sub_le_not.mp z))] at hk2
            rw [nI_succ, ck1, hs.rt (by omega)] at e20
            rw [ck] at e22
            have h1 := hs.t (k := k + 1) (by omega) (u 2 (k + 1) - (ovr u k + 1) / 2)
            have h2 := h1.t (k := k) (by omega) (up2 u 2 (k + 1) (u 2 (k + 1) - (ovr u k + 1) / 2) 2 k + (ovr u k + 1) / 2)
            rw [e20, h1.rt (k := k) (by omega)] at e22
            rw [e22]
            exact m_riseV h2 hkk (fun ww' h' => hk2 ww' h')
    · refine ⟨fun g => absurd g (nI_nn' (by omega)), fun _ => m_dropIce hs (by omega) (fun ww' h' => hk ww' _ rfl h')⟩
  · refine ⟨fun g => absurd g (by rw [show (10 : Int32) = nI 10 from rfl, nI_le2 (by omega) (by omega)]; omega), fun _ => m_freeze (M := M + 9) (by omega) hB hs (hI.c1 hM hB i (by omega)) hi (fun ww' h' => ?_)⟩
    have := hk ww' h'
    rw [nI_succ] at this
    exact this
end MCOL
