/-! THE PURE SIDE: notes and mergers in the model -/
def ntc (w : Dt) : Nat := (w 19 0).toNatClampNeg
theorem ntc_eq {w : Dt} {N : Nat} (h : IN w N) : ntc w = N := by
  unfold ntc
  rw [h.cN, nI_cl (by have := h.hN; omega)]
theorem ntc_wr {w : Dt} {N : Nat} (h : IN w N) {c : Int32} (hc : chr9 c = c) (x : Int32) : ntc (fWr w c x) = min 60 (N + 1) := ntc_eq (h.wr hc x)
theorem ntc_ne {w v : Dt} (h : v 19 = w 19) : ntc v = ntc w := by
  unfold ntc
  rw [h]
theorem cnt_ne {w v : Dt} (h : v 7 = w 7) : cnt v = cnt w := by
  unfold cnt
  rw [h]
section MSTO
variable {ow0 n0 : Nat → Nat} {rr0 : Nat → Nat → Nat} {ww0 : Dt} {b a : Nat}
theorem m_notes {post : (Nat → Nat) → (Nat → Nat) → (Nat → Nat → Nat) → Dt → Prop} {ow t n : Nat → Nat} {rr : Nat → Nat → Nat} {ww w : Dt} {N : Nat} (h : GK ow0 n0 rr0 ww0 b a ow t n rr ww w) (hI : IN w N) {B S : Nat} (hB : N < 60 → 2 ≤ B ∧ 2 * N + 12 ≤ S) {c x : Int32} (hc : chr9 c = c)
    (hp : ∀ ow' t' n' rr' ww', GK ow0 n0 rr0 ww0 b a ow' t' n' rr' ww' (fWr w c x) → post t' n' rr' ww') : wp_X12_notes post t n rr ww B S a c x := by
  have hN : n (rr a 10) = N := nI_inj (by have := h.wr.nN; omega) (by have := hI.hN; omega) (h.wr.cN.symm.trans hI.cN)
  have h60 := hI.hN
  unfold wp_X12_notes
  rw [hN]
  refine ⟨fun g => ?_, fun g => ?_⟩
  · rw [show (60 : Int32) = nI 60 from rfl, nI_le2 (by omega) (by omega)] at g
    have e := fWr_60 hI (by omega) c x
    rw [e] at hp
    exact hp _ _ _ _ _ h
  · rw [show (60 : Int32) = nI 60 from rfl, nI_le2 (by omega) (by omega)] at g
    have hlt : N < 60 := by omega
    have e := fWr_lt hI hlt c x
    obtain ⟨hB1, hB2⟩ := hB hlt
    refine ⟨by omega, by omega, fun q hq t9 e9 w10 e10 w13 e13 w14 e14 => ⟨by omega, by omega, by omega, fun n18 e18 r19 e19 w20 e20 => ?_⟩⟩
    have hqo : ow q = 0 := Decidable.byContradiction fun z => h.fr q z hq
    have hLo := h.wr.o10
    have hb := h.hb
    have hLq : rr a 10 ≠ q := fun z => by rw [z] at hLo; omega
    have hkeep : ∀ cc, cc ≠ rr a 10 → cc ≠ q → va_up ow q 9 cc = ow cc ∧ n18 cc = n cc ∧ r19 cc = rr cc ∧ w20 cc = ww cc := fun cc h1 h2 => by
      refine ⟨vup_ne h2, by rw [e18, vup_ne h1], by rw [e19, vup_ne h1], ?_⟩
      rw [e20, up2_ne h1, e14, up2_ne h2, e13, up2_ne h2, e10, vup_ne h2]
    have hoL : va_up ow q 9 (rr a 10) = ow (rr a 10) := vup_ne hLq
    have hoq : va_up ow q 9 q = 9 := vup_eq _ _ _
    refine hp (va_up ow q 9) t9 n18 r19 w20 (h.gap (L := rr a 10) (q := q) (by omega) hq hkeep hoL (Or.inl hoq) (fun cc hcc => ?_) ?_)
    · rw [e9]
      by_cases z : cc = q
      · rw [z, vup_eq]
        decide
      · rw [vup_ne z]
        rw [vup_ne z] at hcc
        exact h.fr cc hcc
    · refine h.wr.appN hb hqo (by omega) hkeep hoL (by rw [e18, vup_eq, hN]) (by rw [e19, vup_eq, hN]) hoq ?_ (fun p k h1 h2 => ?_) (fun p h1 h2 => ?_)
      · rw [e, up2_eq, hN]
      · rw [hN] at h2
        rw [e, up2_no (by omega), up2_no (by omega), up2_no (by omega)]
      · rw [hN, RI_nt h1 h2, e, up2_nr (by omega), e20, up2_nr (Ne.symm hLq)]
        have hp' : p = 20 ∨ p = 21 := by omega
        rcases hp' with z | z
        · subst z
          rw [up2_nr (by omega), up2_eq, e14, show 20 - 20 = 0 from rfl, up2_nk (by omega), e13, up2_eq]
        · subst z
          rw [up2_eq, e14, show 21 - 20 = 1 from rfl, up2_eq]
theorem chr_rg {x : Int32} (h : chr9 x = x) : 0 ≤ x.toInt ∧ x.toInt ≤ 65535 := by
  have hz : (x.toUInt32 % 65536).toNat < 65536 := by
    rw [UInt32.toNat_mod]
    exact Nat.mod_lt _ (by decide)
  have e : (chr9 x).toInt = ((x.toUInt32 % 65536).toNat : Int) := by
    show (x.toUInt32 % 65536).toBitVec.toInt = _
    rw [BitVec.toInt_eq_toNat_of_lt (by show 2 * (x.toUInt32 % 65536).toNat < 2 ^ 32; omega)]
    rfl
  rw [h] at e
  omega
theorem fits_c {x : Int32} (h : chr9 x = x) : fits .char (.int x) = true := by
  obtain ⟨h1, h2⟩ := chr_rg h
  have e1 : (0 : Int32) ≤ x := by rw [Int32.le_iff_toInt_le]; exact h1
  have e2 : x ≤ 65535 := by rw [Int32.le_iff_toInt_le]; exact h2
  show (decide (0 ≤ x) && decide (x ≤ 65535)) = true
  rw [decide_eq_true e1, decide_eq_true e2]
  rfl
theorem fits_b {x : Int32} (h : x = 0 ∨ x = 1) : fits .boolean (.int x) = true := by
  rcases h with rfl | rfl <;> rfl
theorem m_isq {post : (Nat → Nat) → (Nat → Nat) → (Nat → Nat → Nat) → Dt → Prop} {t n : Nat → Nat} {rr : Nat → Nat → Nat} {ww : Dt} {B S : Nat} {y0 : Nat} {y1 y2 : Int32} {y3 y6 y7 : Nat} {v : Int32} {m : Nat} (hv : v.toInt = m) (hm : m ≤ 320000)
    (h : ∀ w17 : Dt, w17 = up2 ww y6 2 (nI (min 400 (isq m))) → (¬ w17 y6 4 = 45 → wp_X12_meet_217 post y0 y1 y2 y3 y6 y7 (w17 y6 4) y6 t n rr w17 B S) ∧ (w17 y6 4 = 45 → wp_X12_meet_217 post y0 y1 y2 y3 y6 y7 (w17 y7 4) y6 t n rr w17 B S)) : ∃ k9 : Nat, wp_X12_meet_159 post k9 y0 y1 y2 y3 y6 y7 v 0 t n rr ww B S := by
  obtain ⟨q1, q2, q3, q4⟩ := isq_ok hm
  generalize hs : isq m = s at *
  have key : ∀ d j : Nat, j + d = s → wp_X12_meet_159 post (d + 1) y0 y1 y2 y3 y6 y7 v (nI j) t n rr ww B S := by
    intro d
    induction d with
    | zero =>
      intro j hj
      have hj' : j = s := by omega
      subst hj'
      refine ⟨fun _ w17 e17 => ?_, fun g => absurd ((lt_sq hv (by omega)).mpr q2) g⟩
      have e : (if nI j < 400 then nI j else 400) = nI (min 400 j) := by
        by_cases z : j < 400
        · rw [if_pos (by rw [show (400 : Int32) = nI 400 from rfl, nI_ltl (by omega) (by omega)]; exact z), show min 400 j = j by omega]
        · rw [if_neg (by rw [show (400 : Int32) = nI 400 from rfl, nI_ltl (by omega) (by omega)]; exact z), show min 400 j = 400 by omega]
          rfl
      rw [e] at e17
      exact h w17 e17
    | succ d ih =>
      intro j hj
      have e1 : (j + 1) * (j + 1) ≤ s * s := Nat.mul_le_mul (by omega) (by omega)
      refine ⟨fun g => absurd ((lt_sq hv (by omega)).mp g) (by omega), fun _ => ?_⟩
      rw [← nI_succ]
      exact ih (j + 1) (by omega)
  exact ⟨s + 1, key s 0 (by omega)⟩
/-- one of two that meet goes into the other -/
theorem m_merge {post : (Nat → Nat) → (Nat → Nat) → (Nat → Nat → Nat) → Dt → Prop} {ow t n : Nat → Nat} {rr : Nat → Nat → Nat} {ww w : Dt} {C D N : Nat} {rk : Nat → Nat} (h : GK ow0 n0 rr0 ww0 b a ow t n rr ww w) (hS : IS w C D rk) (hI : IN w N) {z l i j : Nat} (hz : z < C) (hl : l < C) (hne : z ≠ l) (hij : (z = i ∧ l = j) ∨ (z = j ∧ l = i)) (tz : w 13 z = 1) (tl : w 13 l = 1) {B S : Nat} (hB : N < 60 → 2 ≤ B ∧ 2 * N + 12 ≤ S)
    (hp : ∀ ow' t' n' rr' ww', GK ow0 n0 rr0 ww0 b a ow' t' n' rr' ww' (fWr (fMg w z l) 109 (nI z)) → post t' n' rr' ww') : wp_X12_meet_131 post a (nI i) (nI j) (rr (rr a 8) i) (rr (rr a 8) j) (rr (rr a 8) z) (rr (rr a 8) l) t n rr ww B S := by
  have hC := hS.hC
  have hn : n (rr a 8) = C := nI_inj (by have := h.wr.nC; omega) (by omega) (h.wr.cC.symm.trans hS.cC)
  have hw := h.wk
  have r10 : ∀ k, k < C → ww (rr (rr a 8) k) 2 = w 10 k := fun k hk => hw.rs (p := 10) (by omega) (by omega) (by omega)
  have hinj : ∀ k k', k < C → k' < C → rr (rr a 8) k = rr (rr a 8) k' → k = k' := fun k k' hk hk' z => by
    have e1 := h.wr.os k (by omega)
    rw [z, h.wr.os k' (by omega)] at e1
    omega
  intro v15 e15
  rw [r10 i (by omega), r10 j (by omega)] at e15
  obtain ⟨s1, s2⟩ := sqs (hS.sz z hz tz) (hS.sz l hl tl)
  have ev : v15 = w 10 z * w 10 z + w 10 l * w 10 l := by
    rcases hij with ⟨rfl, rfl⟩ | ⟨rfl, rfl⟩
    · exact e15
    · rw [e15, Int32.add_comm]
  rw [← ev] at s1
  refine m_isq s1 s2 (fun w17 e17 => ?_)
  have h1 : WK ow n rr ww b a w17 (up2 w 10 z (msz (w 10 z) (w 10 l))) := by
    rw [e17]
    exact hw.s (p := 10) (by omega) (by omega) (by omega) _
  have t1 : ∀ k, up2 w 10 z (msz (w 10 z) (w 10 l)) 13 k = w 13 k := fun k => up2_nr (by omega)
  have nmz : up2 w 10 z (msz (w 10 z) (w 10 l)) 12 z = w17 (rr (rr a 8) z) 4 := h1.2.1.nm z (by omega) (by rw [t1]; exact tz)
  have nml : up2 w 10 z (msz (w 10 z) (w 10 l)) 12 l = w17 (rr (rr a 8) l) 4 := h1.2.1.nm l (by omega) (by rw [t1]; exact tl)
  have hn2 : IN (fMg w z l) N := hI.cg (fun p k h1 h2 _ => by rw [fMg_ne (by omega)])
  -- behind the name
  have fin : ∀ (y : Int32) (v : Dt), chr9 y = y → WK ow n rr ww b a (up2 w17 (rr (rr a 8) z) 4 y) v → up2 (up2 v 13 l 0) 14 l (nI z) = fMg w z l → wp_X12_meet_217 post a (nI i) (nI j) (rr (rr a 8) i) (rr (rr a 8) z) (rr (rr a 8) l) y (rr (rr a 8) z) t n rr w17 B S := fun y v hy hv ev => by
    refine ⟨nw_char hy, fits_c hy, fun w21 e21 w22 e22 w23 e23 => ?_⟩
    rw [← e21] at hv
    have hk := hv.kill (k := l) (by omega)
    rw [← e22, ← e23] at hk
    have hs := hk.s (p := 14) (k := l) (by omega) (by omega) (by omega) (nI z)
    rw [ev] at hs
    have last : wp_X12_meet_246 post a (rr (rr a 8) l) (nI z) (rr (rr a 8) l) t n rr w23 B S := fun w25 e25 => by
      refine ⟨B, S, Nat.le_refl B, Nat.le_refl S, ?_⟩
      have e6 : w25 (rr (rr a 8) l) 6 = nI z := by rw [e25, up2_eq]
      rw [e6]
      have hs' : WK ow n rr ww b a w25 (fMg w z l) := by rw [e25]; exact hs
      exact m_notes (h.st hs') hn2 hB rfl hp
    refine ⟨fun g => ?_, fun g => ?_⟩
    · rcases hij with ⟨rfl, rfl⟩ | ⟨rfl, rfl⟩
      · exact absurd rfl g
      · exact last
    · rcases hij with ⟨rfl, rfl⟩ | ⟨rfl, rfl⟩
      · exact last
      · exact absurd (hinj _ _ hz hl g) hne
  refine ⟨fun g => ?_, fun g => ?_⟩
  · rw [← nmz] at g
    refine fin _ (up2 w 10 z (msz (w 10 z) (w 10 l))) ?_ ?_ ?_
    · rw [← nmz, up2_nr (by omega)]
      exact hS.ch z (by omega)
    · rw [up2_self rfl]
      exact h1
    · unfold fMg
      rw [if_neg g]
  · rw [← nmz] at g
    refine fin _ (up2 (up2 w 10 z (msz (w 10 z) (w 10 l))) 12 z (up2 w 10 z (msz (w 10 z) (w 10 l)) 12 l)) ?_ ?_ ?_
    · rw [← nml, up2_nr (by omega)]
      exact hS.ch l (by omega)
    · rw [nml]
      exact h1.name (by omega) (by rw [t1]; exact tz) _
    · unfold fMg
      rw [if_pos g]
theorem ntc_mt {w : Dt} {N : Nat} (h : IN w N) {i j : Nat} : ntc (fMt w i j) = if mts w i j = true then min 60 (N + 1) else N := by
  unfold fMt
  split
  · split
    · exact ntc_wr (h.cg (v := fMg w j i) (fun p k h1 h2 _ => by rw [fMg_ne (by omega)])) rfl _
    · exact ntc_wr (h.cg (v := fMg w i j) (fun p k h1 h2 _ => by rw [fMg_ne (by omega)])) rfl _
  · exact ntc_eq h
theorem m_meet {post : (Nat → Nat) → (Nat → Nat) → (Nat → Nat → Nat) → Dt → Prop} {ow t n : Nat → Nat} {rr : Nat → Nat → Nat} {ww w : Dt} {C : Nat} (h : GK ow0 n0 rr0 ww0 b a ow t n rr ww w) (hSN : SN w C) {i j : Nat} (hij : i < j) (hj : j < C) {B S : Nat} (hB : 2 * (ntc (fMt w i j) - ntc w) ≤ B ∧ 132 * (ntc (fMt w i j) - ntc w) ≤ S)
    (hp : ∀ ow' t' n' rr' ww', GK ow0 n0 rr0 ww0 b a ow' t' n' rr' ww' (fMt w i j) → post t' n' rr' ww') : wp_X12_meet post t n rr ww B S a (nI i) (nI j) := by
  obtain ⟨D, rk, N, hS, hI⟩ := hSN
  have hC := hS.hC
  have hN60 := hI.hN
  have ci : (nI i).toNatClampNeg = i := nI_cl (by omega)
  have cj : (nI j).toNatClampNeg = j := nI_cl (by omega)
  have hn : n (rr a 8) = C := nI_inj (by have := h.wr.nC; omega) (by omega) (h.wr.cC.symm.trans hS.cC)
  have hw := h.wk
  have r8 : ∀ k, k < C → ww (rr (rr a 8) k) 0 = w 8 k := fun k hk => hw.rs (p := 8) (by omega) (by omega) (by omega)
  have r9 : ∀ k, k < C → ww (rr (rr a 8) k) 1 = w 9 k := fun k hk => hw.rs (p := 9) (by omega) (by omega) (by omega)
  have r10 : ∀ k, k < C → ww (rr (rr a 8) k) 2 = w 10 k := fun k hk => hw.rs (p := 10) (by omega) (by omega) (by omega)
  have r11 : ∀ k, k < C → ww (rr (rr a 8) k) 3 = w 11 k := fun k hk => hw.rs (p := 11) (by omega) (by omega) (by omega)
  have r13 : ∀ k, k < C → (ww (rr (rr a 8) k) 5 = 0 ↔ ¬ w 13 k = 0) := fun k hk => by
    rw [hw.rg0 (by omega)]
    constructor
    · intro z
      rw [z]
      decide
    · exact fun z => (hS.th k (by omega)).resolve_left z
  have hno : mts w i j = false → wp_X12_meet_100 post t n rr ww B S := fun z => by
    have e : fMt w i j = w := by unfold fMt; rw [if_neg (by rw [z]; decide)]
    rw [e] at hp
    exact hp _ _ _ _ _ h
  unfold wp_X12_meet
  rw [ci, cj, hn, r8 i (by omega), r8 j hj, r9 i (by omega), r9 j hj, r10 i (by omega), r10 j hj]
  refine ⟨vp_nI (by omega) (by omega), vp_nI hj (by omega), x_fm ?_⟩
  rw [dis_eq (hS.lo i (by omega)) (hS.lo j hj)]
  refine ⟨fun g => hno (mts_f (Or.inl (Decidable.of_not_not fun z => g ((r13 i (by omega)).mpr z)))), fun g1 => ⟨fun g => hno (mts_f (Or.inr (Or.inl (Decidable.of_not_not fun z => g ((r13 j hj).mpr z))))), fun g2 => ⟨fun g => hno (mts_f (Or.inr (Or.inr (Or.inl g)))), fun g3 => ⟨fun g4 => ?_, fun g4 => hno (mts_f (Or.inr (Or.inr (Or.inr (sub_le_not.mp g4)))))⟩⟩⟩⟩
  have t1 := (r13 i (by omega)).mp g1
  have t2 := (r13 j hj).mp g2
  have hm : mts w i j = true := mts_i t1 t2 g3 (fun z => sub_le_not.mpr z g4)
  have ti : w 13 i = 1 := (hS.th i (by omega)).resolve_left t1
  have tj : w 13 j = 1 := (hS.th j (by omega)).resolve_left t2
  rw [ntc_mt hI, if_pos hm, ntc_eq hI] at hB
  have hB' : N < 60 → 2 ≤ B ∧ 2 * N + 12 ≤ S := fun q => by omega
  have hp' : ∀ ow' t' n' rr' ww', GK ow0 n0 rr0 ww0 b a ow' t' n' rr' ww' (if grb w j i = true then fWr (fMg w j i) 109 (nI j) else fWr (fMg w i j) 109 (nI i)) → post t' n' rr' ww' := by
    unfold fMt at hp
    rw [if_pos hm] at hp
    exact hp
  have hinj : rr (rr a 8) j ≠ rr (rr a 8) i := fun z => by
    have e1 := h.wr.os i (by omega)
    rw [← z, h.wr.os j (by omega)] at e1
    omega
  have jwin : grb w j i = true → wp_X12_meet_117 post a (nI i) (nI j) (rr (rr a 8) i) (rr (rr a 8) j) (rr (rr a 8) j) t n rr ww B S := fun q => by
    rw [if_pos q] at hp'
    exact ⟨fun _ => m_merge h hS hI hj (by omega) (by omega) (Or.inr ⟨rfl, rfl⟩) tj ti hB' hp', fun z => absurd z hinj⟩
  have iwin : grb w j i = false → wp_X12_meet_117 post a (nI i) (nI j) (rr (rr a 8) i) (rr (rr a 8) j) (rr (rr a 8) i) t n rr ww B S := fun q => by
    rw [if_neg (by rw [q]; decide)] at hp'
    exact ⟨fun z => absurd rfl z, fun _ => m_merge h hS hI (by omega) hj (by omega) (Or.inl ⟨rfl, rfl⟩) ti tj hB' hp'⟩
  unfold wp_X12_wins
  rw [r10 i (by omega), r10 j hj, r11 i (by omega), r11 j hj]
  refine ⟨fun g5 => ⟨nw_bool (Or.inr rfl), fun z => absurd z (by decide), fun _ => iwin ?_⟩, fun g5 => ⟨fun g6 => ⟨nw_bool (Or.inl rfl), fun _ => jwin ?_, fun z => absurd rfl z⟩, fun g6 => ⟨fun g7 => ⟨nw_bool (Or.inl rfl), fun _ => jwin ?_, fun z => absurd rfl z⟩, fun g7 => ⟨nw_bool (Or.inr rfl), fun z => absurd z (by decide), fun _ => iwin ?_⟩⟩⟩⟩
  · unfold grb
    rw [if_neg (fun z => by rw [z, Int32.lt_iff_toInt_lt] at g5; omega), decide_eq_true (by rw [Int32.le_iff_toInt_le]; rw [Int32.lt_iff_toInt_lt] at g5; omega)]
    rfl
  · unfold grb
    rw [if_neg (fun z => g6 z.symm), decide_eq_false (fun z => g6 (ti_eq (by rw [Int32.le_iff_toInt_le] at z; rw [Int32.lt_iff_toInt_lt] at g5; omega)))]
    rfl
  · unfold grb
    rw [if_pos g6.symm, decide_eq_false (fun z => sub_le_not.mpr z g7)]
    rfl
  · unfold grb
    rw [if_pos g6.symm, decide_eq_true (sub_le_not.mp g7)]
    rfl
end MSTO
