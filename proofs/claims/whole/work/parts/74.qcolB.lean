/-! THE PURE SIDE: a turn of the column -/
def fF (w : Dt) (k : Nat) : Dt := itr (fun w v => tr w (k + 22) v (k + 32) v (frz w k v)) w 3
def fD (w : Dt) (k : Nat) : Dt := itr (fun w v => tr w (k + 32) v (k + 1 + 32) v ((w (k + 32) v + 1) / 2)) w 3
def amt (w : Dt) (k : Nat) : Int32 := 0 + w (k + 32) 0 + w (k + 32) 1 + w (k + 32) 2 + w (k + 22) 0 + w (k + 22) 1 + w (k + 22) 2
def fV (w : Dt) (k : Nat) : Dt := itr (fun w v => tr w (k + 1 + 22) v (k + 22) v (w (k + 1 + 22) v / 10)) w 3
def ovr (w : Dt) (k : Nat) : Int32 := w 2 (k + 1) - w 2 k - 25
def fR (w : Dt) (k : Nat) : Dt := if ovr w k ≤ 0 then w else if amt w (k + 1) / 1000 - amt w k / 1000 < ovr w k then fV (tr w 2 (k + 1) 2 k ((ovr w k + 1) / 2)) k else w
def fC0 (w : Dt) : Dt := up2 (up2 w 2 9 (w 2 9 + w 1 3)) 1 6 (up2 w 2 9 (w 2 9 + w 1 3) 1 6 + up2 w 2 9 (w 2 9 + w 1 3) 1 3)
def fC1 (w : Dt) : Dt := itr fF (fC0 w) 10
def fC2 (w : Dt) : Dt := itr (fun w i => fD w (8 - i)) (fC1 w) 9
def fC3 (w : Dt) : Dt := itr (fun w i => fR w (8 - i)) (fC2 w) 9
def fCol (w : Dt) : Dt := tr (fC3 w) 2 0 1 4 (fC3 w 2 0 / 100)
theorem itr_ind {f : Dt → Nat → Dt} {w : Dt} (P : Nat → Dt → Prop) (h0 : P 0 w) {N : Nat} (hs : ∀ i v, i < N → P i v → P (i + 1) (f v i)) : ∀ i, i ≤ N → P i (itr f w i)
  | 0, _ => h0
  | i + 1, h => hs i _ (by omega) (itr_ind P h0 hs i (by omega))
theorem IC.k_frz {M B : Int} {w : Dt} (hM : M ≤ 1000000) (hB : B ≤ 20000000) (h : IC M B w) {k v : Nat} (hk : k < 10) (hv : v < 3) : IC M B (tr w (k + 22) v (k + 32) v (frz w k v)) := by
  obtain ⟨h1, h2, -⟩ := frz_ok h hM hB hk hv
  exact h.mv (p := k) (p' := k + 10) (by omega) (by omega) (by omega) hv h1 h2 (by omega)
theorem IC.k_fF {M B : Int} {w : Dt} (hM : M ≤ 1000000) (hB : B ≤ 20000000) (h : IC M B w) {k : Nat} (hk : k < 10) : IC M B (fF w k) :=
  itr_ind (fun _ v => IC M B v) h (fun _ _ hi hv => hv.k_frz hM hB hk hi) 3 (Nat.le_refl 3)
theorem half_ok {x : Int32} (h0 : 0 ≤ x.toInt) (h1 : x.toInt ≤ 2000000000) : ((x + 1) / 2).toInt = (x.toInt + 1) / 2 := by
  have e1 : (1 : Int32).toInt = 1 := rfl
  have e2 : (2 : Int32).toInt = 2 := rfl
  have e : (x + 1).toInt = x.toInt + 1 := by rw [ti_add (by omega) (by omega), e1]
  rw [ti_divp (by omega) (by omega), e, e2]
theorem IC.drop {M B : Int} {w : Dt} (hB : B ≤ 20000000) (h : IC M B w) {k v : Nat} (hk : k < 9) (hv : v < 3) : IC M B (tr w (k + 32) v (k + 1 + 32) v ((w (k + 32) v + 1) / 2)) := by
  have g1 := h.le (p := k + 10) (by omega) hv
  have g2 := h.le (p := k + 1 + 10) (by omega) hv
  have e := half_ok (x := w (k + 32) v) g1.1 (by have := g1.2; rw [show k + 10 + 22 = k + 32 from rfl] at this; omega)
  exact h.mv (p := k + 10) (p' := k + 1 + 10) (by omega) (by omega) (by omega) hv (by rw [e, show k + 10 + 22 = k + 32 from rfl]; rw [show k + 10 + 22 = k + 32 from rfl] at g1; omega) (by rw [e]; rw [show k + 10 + 22 = k + 32 from rfl] at g1; omega) (by omega)
theorem IC.k_fD {M B : Int} {w : Dt} (hB : B ≤ 20000000) (h : IC M B w) {k : Nat} (hk : k < 9) : IC M B (fD w k) :=
  itr_ind (fun _ v => IC M B v) h (fun _ _ hi hv => hv.drop hB hk hi) 3 (Nat.le_refl 3)
theorem IC.rise {M B : Int} {w : Dt} (hB : B ≤ 20000000) (h : IC M B w) {k v : Nat} (hk : k < 9) (hv : v < 3) : IC M B (tr w (k + 1 + 22) v (k + 22) v (w (k + 1 + 22) v / 10)) := by
  have g1 := h.le (p := k + 1) (by omega) hv
  have g2 := h.le (p := k) (by omega) hv
  have e : (w (k + 1 + 22) v / 10).toInt = (w (k + 1 + 22) v).toInt / 10 := by rw [ti_divp g1.1 (by decide)]; rfl
  exact h.mv (p := k + 1) (p' := k) (by omega) (by omega) (by omega) hv (by rw [e]; omega) (by rw [e]; omega) (by omega)
theorem IC.k_fV {M B : Int} {w : Dt} (hB : B ≤ 20000000) (h : IC M B w) {k : Nat} (hk : k < 9) : IC M B (fV w k) :=
  itr_ind (fun _ v => IC M B v) h (fun _ _ hi hv => hv.rise hB hk hi) 3 (Nat.le_refl 3)
theorem IC.up {M B : Int} {w : Dt} (hM : M ≤ 1000000) (h : IC M B w) {k : Nat} (hk : k < 9) (h0 : ¬ ovr w k ≤ 0) : IC M B (tr w 2 (k + 1) 2 k ((ovr w k + 1) / 2)) := by
  have g1 := h.te (k + 1) (by omega)
  have g2 := h.te k (by omega)
  have e5 : (25 : Int32).toInt = 25 := rfl
  have z0 : (0 : Int32).toInt = 0 := rfl
  have e1 : (w 2 (k + 1) - w 2 k).toInt = (w 2 (k + 1)).toInt - (w 2 k).toInt := ti_sub (by omega) (by omega)
  have e2 : (ovr w k).toInt = (w 2 (k + 1)).toInt - (w 2 k).toInt - 25 := by
    unfold ovr
    rw [ti_sub (by omega) (by omega), e1, e5]
  rw [Int32.le_iff_toInt_le, z0, e2] at h0
  have e3 := half_ok (x := ovr w k) (by omega) (by omega)
  exact h.tmv (by omega) (by omega) (by omega) (by omega) (by omega) (by omega) (by omega)
theorem IC.k_fR {M B : Int} {w : Dt} (hM : M ≤ 1000000) (hB : B ≤ 20000000) (h : IC M B w) {k : Nat} (hk : k < 9) : IC M B (fR w k) := by
  unfold fR
  split
  · exact h
  · split
    · rename_i h0 _
      exact (h.up hM hk h0).k_fV hB hk
    · exact h
theorem IC.c0 {M B : Int} {w : Dt} (hM : M ≤ 999000) (h : IC M B w) : IC (M + 9) B (fC0 w) := by
  have n13 : up2 w 2 9 (w 2 9 + w 1 3) 1 3 = w 1 3 := up2_nr (by omega)
  have n16 : up2 w 2 9 (w 2 9 + w 1 3) 1 6 = w 1 6 := up2_nr (by omega)
  have hT : TOT (fC0 w) = TOT w := TOT_12 fun p hp => by
    unfold fC0
    rw [up2_ne (by omega), up2_ne (by omega)]
  have g := h.co
  have g9 := h.te 9 (by omega)
  have e9 : (w 2 9 + w 1 3).toInt = (w 2 9).toInt + (w 1 3).toInt := ti_add (by omega) (by omega)
  have f9 : fC0 w 2 9 = w 2 9 + w 1 3 := by
    unfold fC0
    rw [up2_nr (by omega), up2_eq]
  have fk : ∀ k, k ≠ 9 → fC0 w 2 k = w 2 k := fun k hk => by
    unfold fC0
    rw [up2_nr (by omega), up2_nk hk]
  have f1 : ∀ k, k ≠ 6 → fC0 w 1 k = w 1 k := fun k hk => by
    unfold fC0
    rw [up2_nk hk, up2_nr (by omega)]
  have f6 : fC0 w 1 6 = w 1 6 + w 1 3 := by
    unfold fC0
    rw [up2_eq, n13, n16]
  refine ⟨by rw [f1 3 (by omega)]; exact h.co, fun k hk => ?_, fun p v hp hv => ?_, by rw [hT, f1 7 (by omega)]; exact h.tot, by rw [hT]; exact h.bnd, ?_⟩
  · by_cases z : k = 9
    · subst z
      rw [f9, e9]
      omega
    · rw [fk k z]
      have := h.te k hk
      omega
  · have : fC0 w (p + 22) v = w (p + 22) v := by
      unfold fC0
      rw [up2_nr (by omega), up2_nr (by omega)]
    rw [this]
    exact h.va p v hp hv
  · rw [sum32_1 (g := w 2) (i := 9) 10 (by omega) (fun k hk hn => fk k hn), f9, f6, f1 5 (by omega), f1 4 (by omega), h.deg]
    grind
theorem IC.c1 {M B : Int} {w : Dt} (hM : M ≤ 999000) (hB : B ≤ 20000000) (h : IC M B w) : ∀ i, i ≤ 10 → IC (M + 9) B (itr fF (fC0 w) i) :=
  itr_ind (fun _ v => IC (M + 9) B v) (h.c0 hM) (fun i v hi (hv : IC (M + 9) B v) => (hv.k_fF (by omega) hB hi : IC (M + 9) B (fF v i)))
theorem IC.c2 {M B : Int} {w : Dt} (hM : M ≤ 999000) (hB : B ≤ 20000000) (h : IC M B w) : ∀ i, i ≤ 9 → IC (M + 9) B (itr (fun w i => fD w (8 - i)) (fC1 w) i) :=
  itr_ind (fun _ v => IC (M + 9) B v) (h.c1 hM hB 10 (by omega)) (fun i v hi (hv : IC (M + 9) B v) => (hv.k_fD hB (by omega) : IC (M + 9) B (fD v (8 - i))))
theorem IC.c3 {M B : Int} {w : Dt} (hM : M ≤ 999000) (hB : B ≤ 20000000) (h : IC M B w) : ∀ i, i ≤ 9 → IC (M + 9) B (itr (fun w i => fR w (8 - i)) (fC2 w) i) :=
  itr_ind (fun _ v => IC (M + 9) B v) (h.c2 hM hB 9 (by omega)) (fun i v hi (hv : IC (M + 9) B v) => (hv.k_fR (by omega) hB (by omega) : IC (M + 9) B (fR v (8 - i))))
theorem IC.col {M B : Int} {w : Dt} (hM : M ≤ 999000) (hB : B ≤ 20000000) (h0 : IC M B w) : IC (M + 9) B (fCol w) := by
  have h : IC (M + 9) B (fC3 w) := h0.c3 hM hB 9 (by omega)
  unfold fCol
  generalize fC3 w = v at h
  have g := h.te 0 (by omega)
  have e : (v 2 0 / 100).toInt = (v 2 0).toInt / 100 := by rw [ti_divp g.1 (by decide)]; rfl
  have e1 : (v 2 0 - v 2 0 / 100).toInt = (v 2 0).toInt - (v 2 0).toInt / 100 := by rw [ti_sub (by omega) (by omega), e]
  have hT : TOT (tr v 2 0 1 4 (v 2 0 / 100)) = TOT v := TOT_12 fun p hp => tr_ne (by omega) (by omega)
  have f0 : tr v 2 0 1 4 (v 2 0 / 100) 2 0 = v 2 0 - v 2 0 / 100 := tr_from (by omega)
  have f4 : tr v 2 0 1 4 (v 2 0 / 100) 1 4 = v 1 4 + v 2 0 / 100 := tr_to (by omega)
  refine ⟨by rw [tr_at (by omega) (by omega)]; exact h.co, fun k hk => ?_, fun q k hq hk => by rw [tr_at (by omega) (by omega)]; exact h.va q k hq hk, by rw [hT, tr_at (by omega) (by omega)]; exact h.tot, by rw [hT]; exact h.bnd, ?_⟩
  · by_cases z : k = 0
    · subst z
      rw [f0, e1]
      omega
    · rw [tr_at (by omega) (by omega)]
      exact h.te k hk
  · rw [sum32_1 (g := v 2) (i := 0) 10 (by omega) (fun k hk hn => tr_at (by omega) (by omega)), f0, f4, tr_at (k := 5) (by omega) (by omega), tr_at (k := 6) (by omega) (by omega), h.deg]
    grind
/-- the rows that the column leaves alone -/
theorem fCol_ne {w : Dt} {p : Nat} (hp : p ≠ 1) (hp2 : p ≠ 2) (hp3 : p < 22 ∨ 42 ≤ p) : fCol w p = w p := by
  have hF : ∀ (v : Dt) (k : Nat), k < 10 → fF v k p = v p := fun v k hk => itr_ind (fun _ u => u p = v p) rfl (fun i u _ hu => (tr_ne (by omega) (by omega)).trans hu) 3 (Nat.le_refl 3)
  have hD : ∀ (v : Dt) (k : Nat), k < 9 → fD v k p = v p := fun v k hk => itr_ind (fun _ u => u p = v p) rfl (fun i u _ hu => (tr_ne (by omega) (by omega)).trans hu) 3 (Nat.le_refl 3)
  have hV : ∀ (v : Dt) (k : Nat), k < 9 → fV v k p = v p := fun v k hk => itr_ind (fun _ u => u p = v p) rfl (fun i u _ hu => (tr_ne (by omega) (by omega)).trans hu) 3 (Nat.le_refl 3)
  have hR : ∀ (v : Dt) (k : Nat), k < 9 → fR v k p = v p := fun v k hk => by
    unfold fR
    split
    · rfl
    · split
      · rw [hV _ _ hk, tr_ne hp2 hp2]
      · rfl
  have h0 : fC0 w p = w p := by
    unfold fC0
    rw [up2_ne hp, up2_ne hp2]
  have h1 : fC1 w p = w p := itr_ind (fun _ u => u p = w p) h0 (fun i u hi hu => (hF u i hi).trans hu) 10 (Nat.le_refl 10)
  have h2 : fC2 w p = w p := itr_ind (fun _ u => u p = w p) h1 (fun i u hi hu => (hD u (8 - i) (by omega)).trans hu) 9 (Nat.le_refl 9)
  have h3 : fC3 w p = w p := itr_ind (fun _ u => u p = w p) h2 (fun i u hi hu => (hR u (8 - i) (by omega)).trans hu) 9 (Nat.le_refl 9)
  unfold fCol
  rw [tr_ne hp2 hp, h3]
theorem x_freeze {post : Dt → Prop} {w : Dt} {k : Nat} (hk : k < 10) (h : post (fF w k)) : wp_X1_freezeOrThaw post w (nI k) := by
  refine loopU (fun n y s => wp_X1_freezeOrThaw_2 post n (nI k) y s) 3 (fun i s => s = itr (fun w v => tr w (k + 22) v (k + 32) v (frz w k v)) w i) w rfl (fun n s hs => ?_) (fun i n s hi hs hk' => ?_)
  · subst hs
    exact ⟨fun _ => h, fun g => absurd (Int32.le_refl _) g⟩
  · have ck : (nI k).toNatClampNeg = k := nI_cl (by omega)
    have ci : (nI i).toNatClampNeg = i := nI_cl (by omega)
    refine ⟨fun g => absurd g (by rw [show (3 : Int32) = nI 3 from rfl, nI_le2 (by omega) (by omega)]; omega), fun _ => ⟨vp_nI hk (by omega), vp_nI hi (by omega), fun v4 e4 v5 e5 v6 e6 => ?_⟩⟩
    rw [ck, ci] at e4 e6
    rw [ci] at e5
    have fin : ∀ y : Int32, y = frz s k i → wp_X1_freezeOrThaw_68 post (fun a0 a1 w => wp_X1_freezeOrThaw_2 post n a0 a1 w) (nI k) (nI i) y s := fun y ey => by
      refine ⟨vp_nI hk (by omega), vp_nI hi (by omega), fun w10 e10 w11 e11 => ?_⟩
      rw [ck, ci] at e10 e11
      rw [← nI_succ]
      refine hk' w11 ?_
      rw [e11, e10, ey, hs]
      rfl
    subst e4 e5 e6
    refine ⟨fun g => fin _ (by unfold frz; rw [if_pos g]), fun g v12 e12 => fin _ ?_⟩
    rw [e12, ck, ci]
    unfold frz
    rw [if_neg g]
theorem x_dropIce {post : Dt → Prop} {w : Dt} {k : Nat} (hk : k < 9) (h : post (fD w k)) : wp_X1_dropIce post w (nI k) := by
  refine loopU (fun n y s => wp_X1_dropIce_2 post n (nI k) y s) 3 (fun i s => s = itr (fun w v => tr w (k + 32) v (k + 1 + 32) v ((w (k + 32) v + 1) / 2)) w i) w rfl (fun n s hs => ?_) (fun i n s hi hs hk' => ?_)
  · subst hs
    exact ⟨fun _ => h, fun g => absurd (Int32.le_refl _) g⟩
  · have ck : (nI k).toNatClampNeg = k := nI_cl (by omega)
    have ck1 : (nI k + 1).toNatClampNeg = k + 1 := by rw [← nI_succ]; exact nI_cl (by omega)
    have ci : (nI i).toNatClampNeg = i := nI_cl (by omega)
    refine ⟨fun g => absurd g (by rw [show (3 : Int32) = nI 3 from rfl, nI_le2 (by omega) (by omega)]; omega), fun _ => ⟨vp_nI (by omega) (by omega), vp_nI hi (by omega), fun v4 e4 w5 e5 => ⟨by rw [← nI_succ]; exact vp_nI (by omega) (by omega), fun w7 e7 => ?_⟩⟩⟩
    rw [ck, ci] at e4 e5
    rw [ck1, ci] at e7
    rw [← nI_succ]
    refine hk' w7 ?_
    rw [e7, e5, e4, hs]
    rfl
theorem x_amt {post : Int32 → Prop} {w : Dt} {k : Nat} (hk : k < 10) (h : post (amt w k)) : wp_X1_amountIn post w (nI k) := by
  have ck : (nI k).toNatClampNeg = k := nI_cl (by omega)
  refine ⟨4, ⟨fun g => absurd g (by decide), fun _ => ⟨vp_nI hk (by omega), vp_in_iff.mpr (by decide), fun v e => ?_⟩⟩⟩
  refine ⟨fun g => absurd g (by decide), fun _ => ⟨vp_nI hk (by omega), vp_in_iff.mpr (by decide), fun v' e' => ?_⟩⟩
  refine ⟨fun g => absurd g (by decide), fun _ => ⟨vp_nI hk (by omega), vp_in_iff.mpr (by decide), fun v'' e'' => ?_⟩⟩
  refine ⟨fun _ => ⟨4, ⟨fun g => absurd g (by decide), fun _ => ⟨vp_nI hk (by omega), vp_in_iff.mpr (by decide), fun u f => ?_⟩⟩⟩, fun g => absurd (by decide) g⟩
  refine ⟨fun g => absurd g (by decide), fun _ => ⟨vp_nI hk (by omega), vp_in_iff.mpr (by decide), fun u' f' => ?_⟩⟩
  refine ⟨fun g => absurd g (by decide), fun _ => ⟨vp_nI hk (by omega), vp_in_iff.mpr (by decide), fun u'' f'' => ?_⟩⟩
  refine ⟨fun _ => ?_, fun g => absurd (by decide) g⟩
  rw [ck] at e e' e'' f f' f''
  rw [f'', f', f, e'', e', e]
  exact h
theorem x_riseV {post : Dt → Prop} {w : Dt} {k : Nat} (hk : k < 9) (h : post (fV w k)) : ∃ k9 : Nat, wp_X1_riseInto_73 post k9 (nI k) (nI k + 1) 0 w := by
  refine loopU (fun n y s => wp_X1_riseInto_73 post n (nI k) (nI k + 1) y s) 3 (fun i s => s = itr (fun w v => tr w (k + 1 + 22) v (k + 22) v (w (k + 1 + 22) v / 10)) w i) w rfl (fun n s hs => ?_) (fun i n s hi hs hk' => ?_)
  · subst hs
    exact ⟨fun _ => h, fun g => absurd (Int32.le_refl _) g⟩
  · have ck : (nI k).toNatClampNeg = k := nI_cl (by omega)
    have ck1 : (nI k + 1).toNatClampNeg = k + 1 := by rw [← nI_succ]; exact nI_cl (by omega)
    have ci : (nI i).toNatClampNeg = i := nI_cl (by omega)
    refine ⟨fun g => absurd g (by rw [show (3 : Int32) = nI 3 from rfl, nI_le2 (by omega) (by omega)]; omega), fun _ => ⟨by rw [← nI_succ]; exact vp_nI (by omega) (by omega), vp_nI hi (by omega), fun v4 e4 w5 e5 => ⟨vp_nI (by omega) (by omega), fun w7 e7 => ?_⟩⟩⟩
    rw [ck1, ci] at e4 e5
    rw [ck, ci] at e7
    rw [← nI_succ i]
    refine hk' w7 ?_
    rw [e7, e5, e4, hs]
    rfl
theorem x_rise {post : Dt → Prop} {w : Dt} {k : Nat} (hk : k < 9) (h : post (fR w k)) : wp_X1_riseInto post w (nI k) := by
  have ck : (nI k).toNatClampNeg = k := nI_cl (by omega)
  have ck1 : (nI k + 1).toNatClampNeg = k + 1 := by rw [← nI_succ]; exact nI_cl (by omega)
  unfold fR at h
  refine ⟨by rw [← nI_succ]; exact vp_nI (by omega) (by omega), vp_nI (by omega) (by omega), fun v3 e3 => ?_⟩
  rw [ck, ck1, show w 2 (k + 1) - w 2 k - 25 = ovr w k from rfl] at e3
  subst e3
  refine ⟨fun g => ?_, fun g => ?_⟩
  · rw [if_pos g] at h
    exact h
  · rw [if_neg g] at h
    have b1 : wp_X1_amountIn (fun r1 => (fun r5 => wp_X1_weightOf (fun r6 => ((r5 - r6) < ovr w k → ∀ w8 : Dt, w8 = up2 w 2 (nI k + 1).toNatClampNeg ((w 2 (nI k + 1).toNatClampNeg) - ((ovr w k + 1) / 2)) → (∀ w9 : Dt, w9 = up2 w8 2 (nI k).toNatClampNeg ((w8 2 (nI k).toNatClampNeg) + ((ovr w k + 1) / 2)) → (∃ k9 : Nat, wp_X1_riseInto_73 post k9 (nI k) (nI k + 1) 0 w9))) ∧ (¬ (r5 - r6) < ovr w k → wp_X1_riseInto_40 post w)) w (nI k)) (r1 / 1000)) w (nI k + 1) := by
      rw [← nI_succ]
      refine x_amt (by omega) ?_
      refine x_amt (post := fun r1 => _) (by omega) ?_
      refine ⟨fun g2 w8 e8 w9 e9 => ?_, fun g2 => ?_⟩
      · rw [if_pos g2] at h
        rw [nI_succ, ck1] at e8
        rw [ck] at e9
        rw [nI_succ]
        refine x_riseV hk ?_
        rw [e9, e8]
        exact h
      · rw [if_neg g2] at h
        exact h
    exact b1
theorem x_column {post : Dt → Prop} {w : Dt} (h : post (fCol w)) : wp_X1_goOn post w := by
  intro w1 e1 w2 e2
  have e0 : w2 = fC0 w := by rw [e2, e1]; rfl
  refine loopU (fun n y s => wp_X1_goOn_29 post n y s) 10 (fun i s => s = itr fF (fC0 w) i) w2 e0 (fun n s hs => ?_) (fun i n s hi hs hk => ?_)
  · refine ⟨fun _ => ?_, fun g => absurd (Int32.le_refl _) g⟩
    refine loopD (fun n y s => wp_X1_goOn_49 post n y s) (fun i s => s = itr (fun w i => fD w (8 - i)) (fC1 w) i) s hs (fun n s y hy hs => ?_) (fun i n s hi hs hk => ?_)
    · refine ⟨fun _ => ?_, fun g => absurd hy g⟩
      refine loopD (fun n y s => wp_X1_goOn_67 post n y s) (fun i s => s = itr (fun w i => fR w (8 - i)) (fC2 w) i) s hs (fun n s y hy hs => ?_) (fun i n s hi hs hk => ?_)
      · refine ⟨fun _ w6 e6 w7 e7 => ?_, fun g => absurd hy g⟩
        rw [e7, e6, hs]
        exact h
      · refine ⟨fun g => absurd g (nI_nn' (by omega)), fun _ => x_rise (by omega) ?_⟩
        exact hk _ _ rfl (by rw [hs]; rfl)
    · refine ⟨fun g => absurd g (nI_nn' (by omega)), fun _ => x_dropIce (by omega) ?_⟩
      exact hk _ _ rfl (by rw [hs]; rfl)
  · refine ⟨fun g => absurd g (by rw [show (10 : Int32) = nI 10 from rfl, nI_le2 (by omega) (by omega)]; omega), fun _ => x_freeze hi ?_⟩
    have := hk (fF s i) (by rw [hs]; rfl)
    rw [nI_succ] at this
    exact this
