/-! THE PURE SIDE: storms torn and split -/
def tsz (x : Int32) : Int32 := x - (if 1 < x / 10 then x / 10 else 1)
def fT1 (w : Dt) (i : Nat) : Dt :=
  if w 13 i = 0 then w else if shV (w 6) (w 8 i).toNatClampNeg ≤ 100 then w else
    if 10 ≤ tsz (w 10 i) then up2 w 10 i (tsz (w 10 i)) else fWr (up2 (up2 w 10 i (tsz (w 10 i))) 13 i 0) 100 (nI i)
theorem fT1_ne {w : Dt} {i p : Nat} (h : p < 10 ∨ p = 11 ∨ p = 12 ∨ (13 < p ∧ p < 19) ∨ 21 < p) : fT1 w i p = w p := by
  unfold fT1
  split
  · rfl
  · split
    · rfl
    · split
      · rw [up2_ne (by omega)]
      · rw [fWr_ne (by omega), up2_ne (by omega), up2_ne (by omega)]
theorem tsz_ok {x : Int32} (h : 10 ≤ x.toInt ∧ x.toInt ≤ 400) : (tsz x).toInt < x.toInt ∧ 0 ≤ (tsz x).toInt := by
  have e1 : (x / 10).toInt = x.toInt / 10 := by rw [ti_divp (by omega) (by decide)]; rfl
  have z1 : (1 : Int32).toInt = 1 := rfl
  unfold tsz
  split
  · rename_i g
    rw [Int32.lt_iff_toInt_lt, e1, z1] at g
    rw [ti_sub (by omega) (by omega), e1]
    omega
  · rw [ti_sub (by omega) (by omega), z1]
    omega
theorem SN.t1 {w : Dt} {C : Nat} (h : SN w C) {i : Nat} (hi : i < C) : SN (fT1 w i) C := by
  obtain ⟨D, rk, N, h1, h2⟩ := h
  have hC := h1.hC
  unfold fT1
  split
  · exact ⟨D, rk, N, h1, h2⟩
  · rename_i t0
    have ti : w 13 i = 1 := (h1.th i (by omega)).resolve_left t0
    have g := h1.sz i hi ti
    have g2 := tsz_ok g
    split
    · exact ⟨D, rk, N, h1, h2⟩
    · split
      · rename_i q
        rw [Int32.le_iff_toInt_le, show (10 : Int32).toInt = 10 from rfl] at q
        exact ⟨D, rk, N, h1.siz (fun _ => by omega), h2.cg (fun p k a b _ => by rw [up2_ne (by omega)])⟩
      · have e := h1.end hi ti (x := -1) (Or.inl rfl)
        rw [up2_self (w := up2 w 13 i 0) (p := 14) (k := i) (by rw [up2_nr (by omega)]; exact h1.h1 i hi ti)] at e
        have e2 := e.siz (i := i) (x := tsz (w 10 i)) (fun z => by rw [up2_eq] at z; exact absurd z (by decide))
        rw [up2_comm (by omega)] at e2
        have n2 : IN (up2 (up2 w 10 i (tsz (w 10 i))) 13 i 0) N := h2.cg (fun p k a b _ => by rw [up2_ne (by omega), up2_ne (by omega)])
        exact ⟨_, _, _, fWr_IS e2 _ _, n2.wr rfl _⟩
theorem SN.tear {w : Dt} {C : Nat} (h : SN w C) : ∀ i, i ≤ C → SN (itr fT1 w i) C :=
  itr_ind (fun _ v => SN v C) h (fun i v hi (hv : SN v C) => (hv.t1 hi : SN (fT1 v i) C))
theorem x_tear {post : Dt → Prop} {w : Dt} {C : Nat} (hI : SN w C) (h : post (itr fT1 w C)) : wp_X6_tear post w := by
  refine loopU (fun n y s => wp_X6_tear_2 post n y s) C (fun i s => s = itr fT1 w i ∧ SN s C) w ⟨rfl, hI⟩ (fun n s hs => ?_) (fun i n s hi hs hk => ?_)
  · obtain ⟨rfl, D, rk, N, hS, -⟩ := hs
    exact ⟨fun _ => h, fun g => absurd ((lt_cnt hS.hC hS.cC (by have := hS.hC; omega)).mpr (Nat.le_refl C)) g⟩
  · obtain ⟨hs, hSN⟩ := hs
    obtain ⟨D, rk, N, hS, hN⟩ := id hSN
    have hC := hS.hC
    have ci : (nI i).toNatClampNeg = i := nI_cl (by omega)
    have hk2 : wp_X6_tear_2 post n (nI (i + 1)) (fT1 s i) := hk _ ⟨by rw [hs]; rfl, hSN.t1 hi⟩
    rw [nI_succ] at hk2
    unfold fT1 at hk2
    refine ⟨fun g => absurd ((lt_cnt hC hS.cC (by omega)).mp g) (by omega), fun _ => ⟨fun g => absurd g (by rw [show (12 : Int32) = nI 12 from rfl, nI_le2 (by omega) (by omega)]; omega), fun _ => ⟨vp_nI (by omega) (by omega), fun g => ?_, fun g => ?_⟩⟩⟩
    · rw [ci] at g
      rw [if_pos g] at hk2
      exact hk2
    · rw [ci] at g
      rw [if_neg g] at hk2
      rw [ci]
      refine x_shear (hS.be i hi) ⟨fun g2 => ?_, fun g2 w7 e7 => ?_⟩
      · rw [if_pos g2] at hk2
        exact hk2
      · rw [if_neg g2] at hk2
        have e10 : w7 10 i = tsz (s 10 i) := by rw [e7, up2_eq]; rfl
        rw [e10]
        refine ⟨fun g3 => ?_, fun g3 w9 e9 => ?_⟩
        · rw [if_pos g3] at hk2
          rw [e7]
          exact hk2
        · rw [if_neg g3] at hk2
          have n9 : IN w9 N := hN.cg (fun p k a b _ => by rw [e9, e7, up2_ne (by omega), up2_ne (by omega)])
          refine x_write n9 rfl ?_
          rw [e9, e7]
          exact hk2
def fS1 (w : Dt) (i : Nat) : Dt :=
  if w 7 0 ≤ nI i then w else if w 13 i = 0 then w else if w 10 i ≤ 300 then w else if 12 ≤ w 7 0 then w else
    fWr (up2 (fBg w (w 8 i) (fm (w 9 i + w 10 i)) (w 10 i / 3)) 10 i (fBg w (w 8 i) (fm (w 9 i + w 10 i)) (w 10 i / 3) 10 i - w 10 i / 3)) 115 (w 7 0)
theorem fS1_ne {w : Dt} {i p : Nat} (h : p < 7 ∨ (14 < p ∧ p < 19) ∨ 21 < p) : fS1 w i p = w p := by
  unfold fS1
  repeat' split
  all_goals first | rfl | rw [fWr_ne (by omega), up2_ne (by omega), fBg_ne (by omega)]
/-- a split: the counts after it, sizes of the new ones -/
theorem s1_ok {w : Dt} {C D N : Nat} {rk : Nat → Nat} (h1 : IS w C D rk) (h2 : IN w N) {i : Nat} (hi : i < C) (t0 : ¬ w 13 i = 0) (hs : ¬ w 10 i ≤ 300) (hC2 : C < 12) :
    IS (up2 (fBg w (w 8 i) (fm (w 9 i + w 10 i)) (w 10 i / 3)) 10 i (fBg w (w 8 i) (fm (w 9 i + w 10 i)) (w 10 i / 3) 10 i - w 10 i / 3)) (C + 1) D rk ∧ IN (up2 (fBg w (w 8 i) (fm (w 9 i + w 10 i)) (w 10 i / 3)) 10 i (fBg w (w 8 i) (fm (w 9 i + w 10 i)) (w 10 i / 3) 10 i - w 10 i / 3)) N ∧ (w 10 i / 3).toInt ≤ 133 := by
  have ti : w 13 i = 1 := (h1.th i (by omega)).resolve_left t0
  have g := h1.sz i hi ti
  rw [Int32.le_iff_toInt_le, show (300 : Int32).toInt = 300 from rfl] at hs
  have e3 : (w 10 i / 3).toInt = (w 10 i).toInt / 3 := by rw [ti_divp (by omega) (by decide)]; rfl
  obtain ⟨a7, a8, a9, a10, a11, a12, a13, a14, ak⟩ := fBg_at (b := w 8 i) (l := fm (w 9 i + w 10 i)) (s := w 10 i / 3) h1.hC h1.cC
  have e10 := ak 10 i (by omega) (by omega)
  refine ⟨?_, h2.cg (fun p k a b _ => by rw [up2_ne (by omega), fBg_ne (by omega)]), by omega⟩
  refine (h1.beg hC2 (h1.be i hi) (fm_rg _) (by omega)).siz (fun _ => ?_)
  rw [e10, ti_sub (by omega) (by omega), e3]
  omega
def SS (w : Dt) (C0 C : Nat) : Prop := SN w C ∧ C0 ≤ C ∧ ∀ k, C0 ≤ k → k < C → (w 10 k).toInt ≤ 133
theorem SS.s1 {w : Dt} {C0 C : Nat} (h : SS w C0 C) {i : Nat} (hi12 : i < 12) : ∃ C', C ≤ C' ∧ SS (fS1 w i) C0 C' := by
  obtain ⟨⟨D, rk, N, h1, h2⟩, h3, h4⟩ := id h
  have hC := h1.hC
  unfold fS1
  split
  · exact ⟨C, Nat.le_refl C, h⟩
  · rename_i g0
    have hi : i < C := Nat.not_le.mp fun q => g0 ((lt_cnt hC h1.cC (by omega)).mpr q)
    split
    · exact ⟨C, Nat.le_refl C, h⟩
    · rename_i g1
      split
      · exact ⟨C, Nat.le_refl C, h⟩
      · rename_i g2
        split
        · exact ⟨C, Nat.le_refl C, h⟩
        · rename_i g3
          have hC2 : C < 12 := Nat.not_le.mp fun q => g3 (by rw [h1.cC, show (12 : Int32) = nI 12 from rfl, nI_le2 (by omega) (by omega)]; exact q)
          obtain ⟨q1, q2, q3⟩ := s1_ok h1 h2 hi g1 g2 hC2
          obtain ⟨a7, a8, a9, a10, a11, a12, a13, a14, ak⟩ := fBg_at (b := w 8 i) (l := fm (w 9 i + w 10 i)) (s := w 10 i / 3) h1.hC h1.cC
          refine ⟨C + 1, by omega, ⟨D, rk, _, fWr_IS q1 _ _, q2.wr rfl _⟩, by omega, fun k hk hk' => ?_⟩
          rw [fWr_ne (by omega)]
          by_cases zi : k = i
          · have := h4 i (by omega) hi
            rw [Int32.le_iff_toInt_le, show (300 : Int32).toInt = 300 from rfl] at g2
            omega
          · rw [up2_nk zi]
            by_cases zC : k = C
            · rw [zC, a10]
              exact q3
            · rw [ak 10 k (by omega) zC]
              exact h4 k hk (by omega)
theorem fS1_id {w : Dt} {C0 C : Nat} (h : SS w C0 C) {i : Nat} (hi12 : i < 12) (hi : C0 ≤ i) : fS1 w i = w := by
  obtain ⟨⟨D, rk, N, h1, h2⟩, h3, h4⟩ := id h
  have hC := h1.hC
  unfold fS1
  split
  · rfl
  · rename_i g0
    have hiC : i < C := Nat.not_le.mp fun q => g0 ((lt_cnt hC h1.cC (by omega)).mpr q)
    have := h4 i hi hiC
    split
    · rfl
    · rw [if_pos]
      rw [Int32.le_iff_toInt_le, show (300 : Int32).toInt = 300 from rfl]
      omega
theorem SS.itr {w : Dt} {C : Nat} (h : SN w C) : ∀ i, i ≤ 12 → ∃ C', C ≤ C' ∧ SS (itr fS1 w i) C C' := by
  have hC : C ≤ 12 := by
    obtain ⟨D, rk, N, h1, h2⟩ := h
    exact h1.hC
  exact itr_ind (fun _ v => ∃ C', C ≤ C' ∧ SS v C C') ⟨C, Nat.le_refl C, h, Nat.le_refl C, fun k a b => absurd a (by omega)⟩ (fun i v hi hv => by
    obtain ⟨C', q1, q2⟩ := hv
    obtain ⟨C2, q3, q4⟩ := q2.s1 hi
    exact ⟨C2, by omega, q4⟩)
theorem itr_S1 {w : Dt} {C : Nat} (h : SN w C) : ∀ d i, C ≤ i → i + d = 12 → itr fS1 w 12 = itr fS1 w i
  | 0, i, _, e => by rw [show i = 12 by omega]
  | d + 1, i, hi, e => by
    obtain ⟨C', q1, q2⟩ := SS.itr h i (by omega)
    rw [itr_S1 h d (i + 1) (by omega) (by omega)]
    exact fS1_id q2 (by omega) hi
theorem x_split {post : Dt → Prop} {w : Dt} {C : Nat} (hI : SN w C) (h : post (itr fS1 w 12)) : wp_X6_split post w := by
  have hC0 : C ≤ 12 := by
    obtain ⟨D, rk, N, h1, h2⟩ := hI
    exact h1.hC
  refine ⟨12 + 1, loopG (fun n y s => wp_X6_split_2 post n y s) nI 12 (fun i s => s = itr fS1 w i) (fun n s hs => ?_) (fun i n s hi hs hk => ?_) 12 0 w (by omega) rfl⟩
  · rw [← hs] at h
    exact ⟨fun _ => h, fun _ => ⟨fun _ => h, fun g => absurd (Int32.le_refl _) g⟩⟩
  · obtain ⟨C', q1, q2⟩ := SS.itr hI i (by omega)
    obtain ⟨⟨D, rk, N, hS, hN⟩, h3, h4⟩ := id q2
    rw [← hs] at hS hN
    have hC := hS.hC
    have ci : (nI i).toNatClampNeg = i := nI_cl (by omega)
    by_cases hiC : C' ≤ i
    · have e := itr_S1 hI (12 - i) i (by omega) (by omega)
      rw [e, ← hs] at h
      exact ⟨fun _ => h, fun g => absurd ((lt_cnt hC hS.cC (by omega)).mpr hiC) g⟩
    · have hk2 : wp_X6_split_2 post n (nI (i + 1)) (fS1 s i) := hk _ (by rw [hs]; rfl)
      rw [nI_succ] at hk2
      unfold fS1 at hk2
      rw [if_neg (fun g => hiC ((lt_cnt hC hS.cC (by omega)).mp g))] at hk2
      refine ⟨fun g => absurd ((lt_cnt hC hS.cC (by omega)).mp g) hiC, fun _ => ⟨fun g => absurd g (by rw [show (12 : Int32) = nI 12 from rfl, nI_le2 (by omega) (by omega)]; omega), fun _ => ⟨vp_nI (by omega) (by omega), fun g => ?_, fun g => ?_⟩⟩⟩
      · rw [ci] at g
        rw [if_pos g] at hk2
        exact hk2
      · rw [ci] at g
        rw [if_neg g] at hk2
        rw [ci]
        refine ⟨fun g2 => ?_, fun g2 => ⟨fun g3 => ?_, fun g3 v7 e7 => ?_⟩⟩
        · rw [if_pos g2] at hk2
          exact hk2
        · rw [if_neg g2, if_pos g3] at hk2
          exact hk2
        · rw [if_neg g2, if_neg g3] at hk2
          have hC2 : C' < 12 := Nat.not_le.mp fun q => g3 (by rw [hS.cC, show (12 : Int32) = nI 12 from rfl, nI_le2 (by omega) (by omega)]; exact q)
          obtain ⟨p1, p2, p3⟩ := s1_ok hS hN (by omega) g g2 hC2
          subst e7
          refine x_fm (x_begin hC2 hS.cC (fun w11 e11 => ?_))
          rw [hS.cC] at hk2
          rw [e11]
          exact x_write p2 rfl hk2
def fSt (w : Dt) : Dt := itr fS1 (itr fT1 (itr (fMi (cnt w)) (itr fB1 w (cnt w)) (cnt w)) (cnt w)) 12
theorem SN.b1 {w : Dt} {C : Nat} (h : SN w C) (i : Nat) : SN (fB1 w i) C := by
  obtain ⟨D, rk, N, h1, h2⟩ := h
  exact ⟨D, rk, N, h1.b1 i, h2.cg (fun p k a b _ => by rw [fB1_ne (by omega) (by omega)])⟩
theorem SN.blow {w : Dt} {C : Nat} (h : SN w C) : ∀ i, SN (itr fB1 w i) C := fun i =>
  itr_ind (N := i) (fun _ v => SN v C) h (fun i v _ (hv : SN v C) => (hv.b1 i : SN (fB1 v i) C)) i (Nat.le_refl i)
theorem SN.C {w : Dt} {C : Nat} (h : SN w C) : C ≤ 12 ∧ cnt w = C := by
  obtain ⟨D, rk, N, h1, h2⟩ := h
  exact ⟨h1.hC, cnt_eq h1.hC h1.cC⟩
theorem SN.st {w : Dt} {C : Nat} (h : SN w C) : ∃ C', C ≤ C' ∧ SN (fSt w) C' := by
  obtain ⟨C', q1, q2⟩ := SS.itr (((h.blow C).meet C (Nat.le_refl C)).tear C (Nat.le_refl C)) 12 (by omega)
  unfold fSt
  rw [h.C.2]
  exact ⟨C', q1, q2.1⟩
theorem itr_ne {f : Dt → Nat → Dt} {p : Nat} (hf : ∀ v i, f v i p = v p) : ∀ (w : Dt) (i : Nat), itr f w i p = w p
  | _, 0 => rfl
  | w, i + 1 => (hf _ i).trans (itr_ne hf w i)
theorem fSt_ne {w : Dt} {p : Nat} (h : p < 7 ∨ (14 < p ∧ p < 19) ∨ 21 < p) : fSt w p = w p := by
  unfold fSt
  rw [itr_ne (fun v i => fS1_ne h), itr_ne (fun v i => fT1_ne (by omega)), itr_ne (f := fMi (cnt w)) (fun v i => itr_ne (fun v i => fMt_ne (by omega)) _ _), itr_ne (fun v i => fB1_ne (by omega) (by omega))]
theorem x_storms {post : Dt → Prop} {w : Dt} {C : Nat} (hI : SN w C) (h : post (fSt w)) : wp_X6_goOn post w := by
  have h1 := hI.blow C
  have h2 := h1.meet C (Nat.le_refl C)
  have h3 := h2.tear C (Nat.le_refl C)
  obtain ⟨D, rk, N, hS, hN⟩ := id hI
  unfold fSt at h
  rw [hI.C.2] at h
  exact x_blow hS (x_meet h1 (x_tear h2 (x_split h3 h)))
