/-! THE PURE SIDE: sums and copies of the class -/
def sCol (w : Dt) : Nat → Int64
  | 0 => 7
  | k + 1 => 31 * (31 * sCol w k + (w 2 k).toInt64) + (amt w k).toInt64
def sBel (w : Dt) (s : Int64) : Nat → Int64
  | 0 => s
  | k + 1 => 31 * sBel w s k + (w 6 k).toInt64
def sSto (w : Dt) (s : Int64) : Nat → Int64
  | 0 => s
  | k + 1 => 31 * (31 * sSto w s k + (if w 13 k = 0 then 0 else w 10 k).toInt64) + (w 9 k).toInt64
def fSum (w : Dt) : Int64 := 31 * sSto w (sBel w (sCol w 10) 12) (cnt w) + (w 0 5).toInt64
theorem sCol_cg {w v : Dt} (h : ∀ p k, dm p k → v p k = w p k) : ∀ k, k ≤ 10 → sCol v k = sCol w k
  | 0, _ => rfl
  | k + 1, hk => by
    have e : amt v k = amt w k := by
      unfold amt
      rw [h (k + 32) 0 (by unfold dm; omega), h (k + 32) 1 (by unfold dm; omega), h (k + 32) 2 (by unfold dm; omega), h (k + 22) 0 (by unfold dm; omega), h (k + 22) 1 (by unfold dm; omega), h (k + 22) 2 (by unfold dm; omega)]
    show 31 * (31 * sCol v k + (v 2 k).toInt64) + (amt v k).toInt64 = 31 * (31 * sCol w k + (w 2 k).toInt64) + (amt w k).toInt64
    rw [e, sCol_cg h k (by omega), h 2 k (by unfold dm; omega)]
theorem sBel_cg {w v : Dt} (s : Int64) (h : ∀ p k, dm p k → v p k = w p k) : ∀ k, k ≤ 12 → sBel v s k = sBel w s k
  | 0, _ => rfl
  | k + 1, hk => by
    show 31 * sBel v s k + (v 6 k).toInt64 = 31 * sBel w s k + (w 6 k).toInt64
    rw [sBel_cg s h k (by omega), h 6 k (by unfold dm; omega)]
theorem sSto_cg {w v : Dt} (s : Int64) (h : ∀ p k, dm p k → v p k = w p k) : ∀ k, k ≤ 12 → sSto v s k = sSto w s k
  | 0, _ => rfl
  | k + 1, hk => by
    show 31 * (31 * sSto v s k + (if v 13 k = 0 then 0 else v 10 k).toInt64) + (v 9 k).toInt64 = 31 * (31 * sSto w s k + (if w 13 k = 0 then 0 else w 10 k).toInt64) + (w 9 k).toInt64
    rw [sSto_cg s h k (by omega), h 13 k (by unfold dm; omega), h 10 k (by unfold dm; omega), h 9 k (by unfold dm; omega)]
theorem fSum_cg {w v : Dt} (hc : cnt w ≤ 12) (h : ∀ p k, dm p k → v p k = w p k) : fSum v = fSum w := by
  have e : cnt v = cnt w := by
    unfold cnt
    rw [h 7 0 (by unfold dm; omega)]
  unfold fSum
  rw [e, sCol_cg h 10 (by omega), sBel_cg _ h 12 (by omega), sSto_cg _ h _ hc, h 0 5 (by unfold dm; omega)]
theorem x_sumUp {post : Int64 → Prop} {w : Dt} {C : Nat} (hC : C ≤ 12) (hw : w 7 0 = nI C) (h : post (fSum w)) : wp_X7_sumUp post w := by
  unfold fSum at h
  rw [cnt_eq hC hw] at h
  refine ⟨10 + 1, loopG (fun m y (s : Int64) => wp_X1_addTo_5 _ m s y w) nI 10 (fun i s => s = sCol w i) (fun m s hs => ?_) (fun i m s hi hs hk => ?_) 10 0 7 (by omega) rfl⟩
  · refine ⟨fun _ => ?_, fun g => absurd (Int32.le_refl _) g⟩
    subst hs
    refine ⟨12 + 1, loopG (fun m y (s : Int64) => wp_X0_addTo_5 _ m s y w) nI 12 (fun i s => s = sBel w (sCol w 10) i) (fun m s hs => ?_) (fun i m s hi hs hk => ?_) 12 0 (sCol w 10) (by omega) rfl⟩
    · refine ⟨fun _ => ?_, fun g => absurd (Int32.le_refl _) g⟩
      subst hs
      refine ⟨C + 1, loopG (fun m y (s : Int64) => wp_X6_addTo_5 _ m s y w) nI C (fun i s => s = sSto w (sBel w (sCol w 10) 12) i) (fun m s hs => ?_) (fun i m s hi hs hk => ?_) C 0 _ (by omega) rfl⟩
      · subst hs
        exact ⟨fun _ => h, fun g => absurd ((lt_cnt hC hw (by omega)).mpr (Nat.le_refl C)) g⟩
      · have ci : (nI i).toNatClampNeg = i := nI_cl (by omega)
        have hk2 : ∀ s', s' = sSto w (sBel w (sCol w 10) 12) (i + 1) → _ := hk
        refine ⟨fun g => absurd ((lt_cnt hC hw (by omega)).mp g) (by omega), fun _ => ⟨fun g => absurd g (by rw [show (12 : Int32) = nI 12 from rfl, nI_le2 (by omega) (by omega)]; omega), fun _ => ⟨vp_nI (by omega) (by omega), fun g => ⟨vp_nI (by omega) (by omega), fun v6 e6 => ?_⟩, fun g => ⟨vp_nI (by omega) (by omega), fun v6 e6 => ?_⟩⟩⟩⟩
        · rw [ci] at g e6
          rw [← nI_succ]
          refine hk2 v6 ?_
          rw [e6, hs]
          show _ = 31 * (31 * sSto w (sBel w (sCol w 10) 12) i + (if w 13 i = 0 then 0 else w 10 i).toInt64) + (w 9 i).toInt64
          rw [if_pos g]
        · rw [ci] at g e6
          rw [← nI_succ]
          refine hk2 v6 ?_
          rw [e6, hs]
          show _ = 31 * (31 * sSto w (sBel w (sCol w 10) 12) i + (if w 13 i = 0 then 0 else w 10 i).toInt64) + (w 9 i).toInt64
          rw [if_neg g]
    · have ci : (nI i).toNatClampNeg = i := nI_cl (by omega)
      refine ⟨fun g => absurd g (by rw [show (12 : Int32) = nI 12 from rfl, nI_le2 (by omega) (by omega)]; omega), fun _ => ⟨vp_nI hi (by omega), fun v3 e3 => ?_⟩⟩
      rw [ci] at e3
      rw [← nI_succ]
      refine hk v3 ?_
      rw [e3, hs]
      rfl
  · have ci : (nI i).toNatClampNeg = i := nI_cl (by omega)
    refine ⟨fun g => absurd g (by rw [show (10 : Int32) = nI 10 from rfl, nI_le2 (by omega) (by omega)]; omega), fun _ => ⟨vp_nI hi (by omega), fun v3 e3 => x_amt hi ?_⟩⟩
    rw [ci] at e3
    rw [← nI_succ]
    refine hk _ ?_
    rw [e3, hs]
    rfl
/-- alike at some places -/
def AGS (P : Nat → Nat → Prop) (s v : Dt) : Prop := ∀ p k, P p k → s p k = v p k
theorem AGS.up {P P' : Nat → Nat → Prop} {s v : Dt} (h : AGS P s v) (p k : Nat) (hP : ∀ p' k', P' p' k' → P p' k' ∨ (p' = p ∧ k' = k)) : AGS P' (up2 s p k (v p k)) v := fun p' k' z => by
  by_cases hz : p' = p ∧ k' = k
  · obtain ⟨rfl, rfl⟩ := hz
    rw [up2_eq]
  · rw [up2_no hz]
    exact h p' k' ((hP p' k' z).resolve_right hz)
theorem AGS.imp {P P' : Nat → Nat → Prop} {s v : Dt} (h : AGS P s v) (hP : ∀ p k, P' p k → P p k) : AGS P' s v := fun p k z => h p k (hP p k z)
/-- rows that stay -/
def RU (R : Nat → Prop) (s w : Dt) : Prop := ∀ p, R p → s p = w p
theorem RU.up {R : Nat → Prop} {s w : Dt} (h : RU R s w) (p k : Nat) (x : Int32) (hp : ∀ q, R q → q ≠ p) : RU R (up2 s p k x) w := fun q hq => by
  rw [up2_ne (hp q hq)]
  exact h q hq
abbrev P1 (i p k : Nat) : Prop := (p = 2 ∧ k < i) ∨ (22 ≤ p ∧ p < 22 + i ∧ k < 3) ∨ (32 ≤ p ∧ p < 32 + i ∧ k < 3)
abbrev R1 (p : Nat) : Prop := p = 0 ∨ (2 < p ∧ p < 22) ∨ 41 < p
theorem x_copyCol {post : Dt → Prop} {w v : Dt} (h : ∀ s, AGS (fun p k => P1 10 p k ∨ (p = 1 ∧ 3 ≤ k ∧ k ≤ 7)) s v → RU R1 s w → post s) : wp_X1_copyFrom post w v := by
  refine loopU (fun m y s => wp_X1_copyFrom_2 post m y s v) 10 (fun i s => AGS (P1 i) s v ∧ RU R1 s w) w ⟨fun p k z => by omega, fun p _ => rfl⟩ (fun m s hs => ?_) (fun i m s hi hs hk => ?_)
  · obtain ⟨hs, hr⟩ := hs
    refine ⟨fun _ w2 e2 w3 e3 w4 e4 w5 e5 w6 e6 => ?_, fun g => absurd (Int32.le_refl _) g⟩
    have h1 := hs.up (P' := fun p k => P1 10 p k ∨ (p = 1 ∧ k = 3)) 1 3 (fun p k z => z.imp id fun q => q)
    have h2 := h1.up (P' := fun p k => P1 10 p k ∨ (p = 1 ∧ 3 ≤ k ∧ k ≤ 4)) 1 4 (fun p k z => by omega)
    have h3 := h2.up (P' := fun p k => P1 10 p k ∨ (p = 1 ∧ 3 ≤ k ∧ k ≤ 5)) 1 5 (fun p k z => by omega)
    have h4 := h3.up (P' := fun p k => P1 10 p k ∨ (p = 1 ∧ 3 ≤ k ∧ k ≤ 6)) 1 6 (fun p k z => by omega)
    have h5 := h4.up (P' := fun p k => P1 10 p k ∨ (p = 1 ∧ 3 ≤ k ∧ k ≤ 7)) 1 7 (fun p k z => by omega)
    have r5 := ((((hr.up 1 3 (v 1 3) (fun q z => by omega)).up 1 4 (v 1 4) (fun q z => by omega)).up 1 5 (v 1 5) (fun q z => by omega)).up 1 6 (v 1 6) (fun q z => by omega)).up 1 7 (v 1 7) (fun q z => by omega)
    rw [e6, e5, e4, e3, e2]
    exact h _ h5 r5
  · obtain ⟨hs, hr⟩ := hs
    have ci : (nI i).toNatClampNeg = i := nI_cl (by omega)
    refine ⟨fun g => absurd g (by rw [show (10 : Int32) = nI 10 from rfl, nI_le2 (by omega) (by omega)]; omega), fun _ => ⟨vp_nI hi (by omega), fun w8 e8 => ?_⟩⟩
    rw [ci] at e8
    have h8 : AGS (fun p k => P1 i p k ∨ (p = 2 ∧ k = i)) w8 v := by
      rw [e8]
      exact hs.up 2 i (fun p k z => z)
    have r8 : RU R1 w8 w := by
      rw [e8]
      exact hr.up 2 i _ (fun q z => by omega)
    refine loopU (fun m2 y s => wp_X1_copyFrom_22 post (fun a0 w v => wp_X1_copyFrom_2 post m a0 w v) m2 (nI i) y s v) 3 (fun u s => AGS (fun p k => (P1 i p k ∨ (p = 2 ∧ k = i)) ∨ (p = i + 22 ∧ k < u) ∨ (p = i + 32 ∧ k < u)) s v ∧ RU R1 s w) w8 ⟨h8.imp fun p k z => by omega, r8⟩ (fun m2 s hs => ?_) (fun u m2 s hu hs hkk => ?_)
    · obtain ⟨hs, hr⟩ := hs
      refine ⟨fun _ => ?_, fun g => absurd (Int32.le_refl _) g⟩
      rw [← nI_succ]
      exact hk s ⟨hs.imp fun p k z => by omega, hr⟩
    · obtain ⟨hs, hr⟩ := hs
      have cu : (nI u).toNatClampNeg = u := nI_cl (by omega)
      refine ⟨fun g => absurd g (by rw [show (3 : Int32) = nI 3 from rfl, nI_le2 (by omega) (by omega)]; omega), fun _ => ⟨vp_nI hi (by omega), vp_nI hu (by omega), fun w12 e12 w13 e13 => ?_⟩⟩
      rw [ci, cu] at e12 e13
      rw [← nI_succ]
      refine hkk w13 ?_
      have h1 := hs.up (P' := fun p k => ((P1 i p k ∨ (p = 2 ∧ k = i)) ∨ (p = i + 22 ∧ k < u) ∨ (p = i + 32 ∧ k < u)) ∨ (p = i + 22 ∧ k = u)) (i + 22) u (fun p k z => z)
      have h2 := h1.up (P' := fun p k => (P1 i p k ∨ (p = 2 ∧ k = i)) ∨ (p = i + 22 ∧ k < u + 1) ∨ (p = i + 32 ∧ k < u + 1)) (i + 32) u (fun p k z => by omega)
      have r2 := (hr.up (i + 22) u (v (i + 22) u) (fun q z => by omega)).up (i + 32) u (v (i + 32) u) (fun q z => by omega)
      rw [e13, e12]
      exact ⟨h2, r2⟩
theorem x_copyBel {post : Dt → Prop} {w v : Dt} (h : ∀ s, AGS (fun p k => (p = 6 ∧ k < 12) ∨ (p = 5 ∧ 1 ≤ k ∧ k ≤ 3)) s v → RU (fun p => p < 5 ∨ 6 < p) s w → post s) : wp_X0_copyFrom post w v := by
  refine loopU (fun m y s => wp_X0_copyFrom_2 post m y s v) 12 (fun i s => AGS (fun p k => p = 6 ∧ k < i) s v ∧ RU (fun p => p < 5 ∨ 6 < p) s w) w ⟨fun p k z => by omega, fun p _ => rfl⟩ (fun m s hs => ?_) (fun i m s hi hs hk => ?_)
  · obtain ⟨hs, hr⟩ := hs
    refine ⟨fun _ w2 e2 w3 e3 w4 e4 => ?_, fun g => absurd (Int32.le_refl _) g⟩
    have h1 := hs.up (P' := fun p k => (p = 6 ∧ k < 12) ∨ (p = 5 ∧ k = 1)) 5 1 (fun p k z => z)
    have h2 := h1.up (P' := fun p k => (p = 6 ∧ k < 12) ∨ (p = 5 ∧ 1 ≤ k ∧ k ≤ 2)) 5 2 (fun p k z => by omega)
    have h3 := h2.up (P' := fun p k => (p = 6 ∧ k < 12) ∨ (p = 5 ∧ 1 ≤ k ∧ k ≤ 3)) 5 3 (fun p k z => by omega)
    have r3 := ((hr.up 5 1 (v 5 1) (fun q z => by omega)).up 5 2 (v 5 2) (fun q z => by omega)).up 5 3 (v 5 3) (fun q z => by omega)
    rw [e4, e3, e2]
    exact h _ h3 r3
  · obtain ⟨hs, hr⟩ := hs
    have ci : (nI i).toNatClampNeg = i := nI_cl (by omega)
    refine ⟨fun g => absurd g (by rw [show (12 : Int32) = nI 12 from rfl, nI_le2 (by omega) (by omega)]; omega), fun _ => ⟨vp_nI hi (by omega), fun w6 e6 => ?_⟩⟩
    rw [ci] at e6
    rw [← nI_succ]
    refine hk w6 ?_
    rw [e6]
    exact ⟨hs.up 6 i (fun p k z => by omega), hr.up 6 i _ (fun q z => by omega)⟩
theorem x_copySto {post : Dt → Prop} {w v : Dt} (hc : ∀ i, i < 12 → chr9 (v 12 i) = v 12 i) (ht : ∀ i, i < 12 → v 13 i = 0 ∨ v 13 i = 1) (h : ∀ s, AGS (fun p k => (p = 7 ∧ k = 0) ∨ (8 ≤ p ∧ p < 15 ∧ k < 12)) s v → RU (fun p => p < 7 ∨ 14 < p) s w → post s) : wp_X6_copyFrom post w v := by
  intro w1 e1
  have h1 : AGS (fun p k => p = 7 ∧ k = 0) w1 v := by
    rw [e1]
    exact AGS.up (P := fun _ _ => False) (fun p k z => z.elim) 7 0 (fun p k z => Or.inr z)
  have r1 : RU (fun p => p < 7 ∨ 14 < p) w1 w := by
    rw [e1]
    exact RU.up (fun p _ => rfl) 7 0 _ (fun q z => by omega)
  refine loopU (fun m y s => wp_X6_copyFrom_10 post m y s v) 12 (fun i s => AGS (fun p k => (p = 7 ∧ k = 0) ∨ (8 ≤ p ∧ p < 15 ∧ k < i)) s v ∧ RU (fun p => p < 7 ∨ 14 < p) s w) w1 ⟨h1.imp fun p k z => by omega, r1⟩ (fun m s hs => ?_) (fun i m s hi hs hk => ?_)
  · exact ⟨fun _ => h s hs.1 hs.2, fun g => absurd (Int32.le_refl _) g⟩
  · obtain ⟨hs, hr⟩ := hs
    have ci : (nI i).toNatClampNeg = i := nI_cl (by omega)
    refine ⟨fun g => absurd g (by rw [show (12 : Int32) = nI 12 from rfl, nI_le2 (by omega) (by omega)]; omega), fun _ => ⟨vp_nI hi (by omega), fun w4 e4 w5 e5 w6 e6 w7 e7 => ⟨by rw [ci]; exact nw_char (hc i hi), fun w9 e9 => ⟨by rw [ci]; exact nw_bool (ht i hi), fun w11 e11 w12 e12 => ?_⟩⟩⟩⟩
    rw [ci] at e4 e5 e6 e7 e9 e11 e12
    rw [← nI_succ]
    refine hk w12 ?_
    have q1 := hs.up (P' := fun p k => ((p = 7 ∧ k = 0) ∨ (8 ≤ p ∧ p < 15 ∧ k < i)) ∨ (8 ≤ p ∧ p < 9 ∧ k = i)) 8 i (fun p k z => by omega)
    have q2 := q1.up (P' := fun p k => ((p = 7 ∧ k = 0) ∨ (8 ≤ p ∧ p < 15 ∧ k < i)) ∨ (8 ≤ p ∧ p < 10 ∧ k = i)) 9 i (fun p k z => by omega)
    have q3 := q2.up (P' := fun p k => ((p = 7 ∧ k = 0) ∨ (8 ≤ p ∧ p < 15 ∧ k < i)) ∨ (8 ≤ p ∧ p < 11 ∧ k = i)) 10 i (fun p k z => by omega)
    have q4 := q3.up (P' := fun p k => ((p = 7 ∧ k = 0) ∨ (8 ≤ p ∧ p < 15 ∧ k < i)) ∨ (8 ≤ p ∧ p < 12 ∧ k = i)) 11 i (fun p k z => by omega)
    have q5 := q4.up (P' := fun p k => ((p = 7 ∧ k = 0) ∨ (8 ≤ p ∧ p < 15 ∧ k < i)) ∨ (8 ≤ p ∧ p < 13 ∧ k = i)) 12 i (fun p k z => by omega)
    have q6 := q5.up (P' := fun p k => ((p = 7 ∧ k = 0) ∨ (8 ≤ p ∧ p < 15 ∧ k < i)) ∨ (8 ≤ p ∧ p < 14 ∧ k = i)) 13 i (fun p k z => by omega)
    have q7 := q6.up (P' := fun p k => (p = 7 ∧ k = 0) ∨ (8 ≤ p ∧ p < 15 ∧ k < i + 1)) 14 i (fun p k z => by omega)
    have r7 := ((((((hr.up 8 i (v 8 i) (fun q z => by omega)).up 9 i (v 9 i) (fun q z => by omega)).up 10 i (v 10 i) (fun q z => by omega)).up 11 i (v 11 i) (fun q z => by omega)).up 12 i (v 12 i) (fun q z => by omega)).up 13 i (v 13 i) (fun q z => by omega)).up 14 i (v 14 i) (fun q z => by omega)
    rw [e12, e11, e9, e7, e6, e5, e4]
    exact ⟨q7, r7⟩
theorem x_copySca {post : Dt → Prop} {w v : Dt} (h : ∀ s, AGS (fun p k => (p = 15 ∧ k = 0) ∨ (16 ≤ p ∧ p < 19 ∧ k < 8)) s v → RU (fun p => p < 15 ∨ 18 < p) s w → post s) : wp_X5_copyFrom post w v := by
  intro w1 e1
  have h1 : AGS (fun p k => p = 15 ∧ k = 0) w1 v := by
    rw [e1]
    exact AGS.up (P := fun _ _ => False) (fun p k z => z.elim) 15 0 (fun p k z => Or.inr z)
  have r1 : RU (fun p => p < 15 ∨ 18 < p) w1 w := by
    rw [e1]
    exact RU.up (fun p _ => rfl) 15 0 _ (fun q z => by omega)
  refine loopU (fun m y s => wp_X5_copyFrom_10 post m y s v) 8 (fun i s => AGS (fun p k => (p = 15 ∧ k = 0) ∨ (16 ≤ p ∧ p < 19 ∧ k < i)) s v ∧ RU (fun p => p < 15 ∨ 18 < p) s w) w1 ⟨h1.imp fun p k z => by omega, r1⟩ (fun m s hs => ?_) (fun i m s hi hs hk => ?_)
  · exact ⟨fun _ => h s hs.1 hs.2, fun g => absurd (Int32.le_refl _) g⟩
  · obtain ⟨hs, hr⟩ := hs
    have ci : (nI i).toNatClampNeg = i := nI_cl (by omega)
    refine ⟨fun g => absurd g (by rw [show (8 : Int32) = nI 8 from rfl, nI_le2 (by omega) (by omega)]; omega), fun _ => ⟨vp_nI hi (by omega), fun w4 e4 w5 e5 w6 e6 => ?_⟩⟩
    rw [ci] at e4 e5 e6
    rw [← nI_succ]
    refine hk w6 ?_
    have q1 := hs.up (P' := fun p k => ((p = 15 ∧ k = 0) ∨ (16 ≤ p ∧ p < 19 ∧ k < i)) ∨ (16 ≤ p ∧ p < 17 ∧ k = i)) 16 i (fun p k z => by omega)
    have q2 := q1.up (P' := fun p k => ((p = 15 ∧ k = 0) ∨ (16 ≤ p ∧ p < 19 ∧ k < i)) ∨ (16 ≤ p ∧ p < 18 ∧ k = i)) 17 i (fun p k z => by omega)
    have q3 := q2.up (P' := fun p k => (p = 15 ∧ k = 0) ∨ (16 ≤ p ∧ p < 19 ∧ k < i + 1)) 18 i (fun p k z => by omega)
    have r3 := ((hr.up 16 i (v 16 i) (fun q z => by omega)).up 17 i (v 17 i) (fun q z => by omega)).up 18 i (v 18 i) (fun q z => by omega)
    rw [e6, e5, e4]
    exact ⟨q3, r3⟩
theorem x_copyNot {post : Dt → Prop} {w v : Dt} (hc : ∀ i, i < 60 → chr9 (v 20 i) = v 20 i) (h : ∀ s, AGS (fun p k => (p = 19 ∧ k = 0) ∨ (20 ≤ p ∧ p < 22 ∧ k < 60)) s v → RU (fun p => p < 19 ∨ 21 < p) s w → post s) : wp_X3_copyFrom post w v := by
  intro w1 e1
  have h1 : AGS (fun p k => p = 19 ∧ k = 0) w1 v := by
    rw [e1]
    exact AGS.up (P := fun _ _ => False) (fun p k z => z.elim) 19 0 (fun p k z => Or.inr z)
  have r1 : RU (fun p => p < 19 ∨ 21 < p) w1 w := by
    rw [e1]
    exact RU.up (fun p _ => rfl) 19 0 _ (fun q z => by omega)
  refine loopU (fun m y s => wp_X3_copyFrom_10 post m y s v) 60 (fun i s => AGS (fun p k => (p = 19 ∧ k = 0) ∨ (20 ≤ p ∧ p < 22 ∧ k < i)) s v ∧ RU (fun p => p < 19 ∨ 21 < p) s w) w1 ⟨h1.imp fun p k z => by omega, r1⟩ (fun m s hs => ?_) (fun i m s hi hs hk => ?_)
  · exact ⟨fun _ => h s hs.1 hs.2, fun g => absurd (Int32.le_refl _) g⟩
  · obtain ⟨hs, hr⟩ := hs
    have ci : (nI i).toNatClampNeg = i := nI_cl (by omega)
    refine ⟨fun g => absurd g (by rw [show (60 : Int32) = nI 60 from rfl, nI_le2 (by omega) (by omega)]; omega), fun _ => ⟨vp_nI hi (by omega), by rw [ci]; exact nw_char (hc i hi), fun w5 e5 w6 e6 => ?_⟩⟩
    rw [ci] at e5 e6
    rw [← nI_succ]
    refine hk w6 ?_
    have q1 := hs.up (P' := fun p k => ((p = 19 ∧ k = 0) ∨ (20 ≤ p ∧ p < 22 ∧ k < i)) ∨ (20 ≤ p ∧ p < 21 ∧ k = i)) 20 i (fun p k z => by omega)
    have q2 := q1.up (P' := fun p k => (p = 19 ∧ k = 0) ∨ (20 ≤ p ∧ p < 22 ∧ k < i + 1)) 21 i (fun p k z => by omega)
    have r2 := (hr.up 20 i (v 20 i) (fun q z => by omega)).up 21 i (v 21 i) (fun q z => by omega)
    rw [e6, e5]
    exact ⟨q2, r2⟩
theorem x_copyFrom {post : Dt → Prop} {M B U T : Int} {w v : Dt} (hI : INV M B U T v) (h : ∀ s, (∀ p k, dm p k → s p k = v p k) → post s) : wp_X7_copyFrom post w v := by
  obtain ⟨C, D, rk, N, h1, h2⟩ := hI.sn
  refine x_copyCol (fun s1 q1 r1 => x_copyBel (fun s2 q2 r2 => x_copySto h1.ch h1.th (fun s3 q3 r3 => x_copySca (fun s4 q4 r4 => x_copyNot h2.ln (fun s5 q5 r5 w6 e6 => h w6 ?_)))))
  intro p k hd
  rw [e6]
  unfold dm at hd
  by_cases z0 : p = 0
  · subst z0
    rw [show k = 5 by omega, up2_eq]
  rw [up2_nr z0]
  by_cases z5 : 19 ≤ p ∧ p ≤ 21
  · exact q5 p k (by omega)
  rw [r5 p (by omega)]
  by_cases z4 : 15 ≤ p ∧ p ≤ 18
  · exact q4 p k (by omega)
  rw [r4 p (by omega)]
  by_cases z3 : 7 ≤ p ∧ p ≤ 14
  · exact q3 p k (by omega)
  rw [r3 p (by omega)]
  by_cases z2 : 5 ≤ p ∧ p ≤ 6
  · exact q2 p k (by omega)
  rw [r2 p (by omega)]
  exact q1 p k (by omega)
