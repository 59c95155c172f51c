/-! THE PURE SIDE: storms of the class in a turn -/
def cnt (w : Dt) : Nat := (w 7 0).toNatClampNeg
theorem cnt_eq {w : Dt} {C : Nat} (hC : C ≤ 12) (h : w 7 0 = nI C) : cnt w = C := by
  unfold cnt
  rw [h, nI_cl (by omega)]
/-- blow -/
def fB1 (w : Dt) (i : Nat) : Dt := if w 13 i = 0 then w else up2 (up2 w 9 i (fm (w 9 i + w 6 (w 8 i).toNatClampNeg / fWid (w 8 i).toNatClampNeg))) 11 i (w 11 i + 1)
theorem IS.b1 {w : Dt} {C D : Nat} {rk : Nat → Nat} (h : IS w C D rk) (i : Nat) : IS (fB1 w i) C D rk := by
  unfold fB1
  split
  · exact h
  · exact (h.lon (fm_rg _)).age
theorem fB1_ne {w : Dt} {i p : Nat} (h9 : p ≠ 9) (h11 : p ≠ 11) : fB1 w i p = w p := by
  unfold fB1
  split
  · rfl
  · rw [up2_ne h11, up2_ne h9]
theorem lt_cnt {w : Dt} {C i : Nat} (hC : C ≤ 12) (hw : w 7 0 = nI C) (hi : i ≤ 100) : w 7 0 ≤ nI i ↔ C ≤ i := by rw [hw, nI_le2 (by omega) (by omega)]
theorem x_blow {post : Dt → Prop} {w : Dt} {C D : Nat} {rk : Nat → Nat} (hI : IS w C D rk) (h : post (itr fB1 w C)) : wp_X6_blow post w := by
  refine loopU (fun n y s => wp_X6_blow_2 post n y s) C (fun i s => s = itr fB1 w i ∧ IS s C D rk) w ⟨rfl, hI⟩ (fun n s hs => ?_) (fun i n s hi hs hk => ?_)
  · obtain ⟨rfl, hS⟩ := hs
    exact ⟨fun _ => h, fun g => absurd ((lt_cnt hS.hC hS.cC (by have := hS.hC; omega)).mpr (Nat.le_refl C)) g⟩
  · obtain ⟨hs, hS⟩ := hs
    have hC := hS.hC
    have ci : (nI i).toNatClampNeg = i := nI_cl (by omega)
    have hk2 : wp_X6_blow_2 post n (nI (i + 1)) (fB1 s i) := hk _ ⟨by rw [hs]; rfl, hS.b1 i⟩
    rw [nI_succ] at hk2
    unfold fB1 at hk2
    refine ⟨fun g => absurd ((lt_cnt hC hS.cC (by omega)).mp g) (by omega), fun _ => ⟨fun g => absurd g (by rw [show (12 : Int32) = nI 12 from rfl, nI_le2 (by omega) (by omega)]; omega), fun _ => ⟨vp_nI (by omega) (by omega), fun g => ?_, fun g => ?_⟩⟩⟩
    · rw [ci] at g
      rw [if_pos g] at hk2
      exact hk2
    · rw [ci] at g
      rw [if_neg g] at hk2
      rw [ci]
      refine x_wind (hS.be i hi) (fun v6 e6 => ?_)
      subst e6
      refine x_fm (fun w8 e8 w9 e9 => ?_)
      have : w8 11 i = s 11 i := by rw [e8, up2_nr (by omega)]
      rw [e9, this, e8]
      exact hk2
/-- merge -/
def sqf (n : Nat) : Nat → Nat
  | 0 => 0
  | k + 1 => if (k + 1) * (k + 1) ≤ n then k + 1 else sqf n k
theorem sqf_ok (n : Nat) : ∀ k : Nat, sqf n k ≤ k ∧ sqf n k * sqf n k ≤ n ∧ ∀ m, m * m ≤ n → m ≤ k → m ≤ sqf n k
  | 0 => ⟨Nat.le_refl 0, Nat.zero_le n, fun m _ h => h⟩
  | k + 1 => by
    obtain ⟨h1, h2, h3⟩ := sqf_ok n k
    show (if (k + 1) * (k + 1) ≤ n then k + 1 else sqf n k) ≤ k + 1 ∧ (if (k + 1) * (k + 1) ≤ n then k + 1 else sqf n k) * (if (k + 1) * (k + 1) ≤ n then k + 1 else sqf n k) ≤ n ∧ ∀ m, m * m ≤ n → m ≤ k + 1 → m ≤ (if (k + 1) * (k + 1) ≤ n then k + 1 else sqf n k)
    split
    · rename_i g
      exact ⟨Nat.le_refl _, g, fun m _ h => h⟩
    · rename_i g
      refine ⟨by omega, h2, fun m hm h => ?_⟩
      by_cases z : m = k + 1
      · subst z
        exact absurd hm g
      · exact h3 m hm (by omega)
def isq (n : Nat) : Nat := sqf n 600
theorem isq_ok {n : Nat} (hn : n ≤ 320000) : isq n * isq n ≤ n ∧ n < (isq n + 1) * (isq n + 1) ∧ isq n ≤ 600 ∧ ∀ m, m * m ≤ n → m ≤ isq n := by
  obtain ⟨h1, h2, h3⟩ := sqf_ok n 600
  have h4 : ∀ m, m * m ≤ n → m ≤ sqf n 600 := fun m hm => by
    refine h3 m hm (Nat.not_lt.mp fun z => ?_)
    have : 601 * 601 ≤ m * m := Nat.mul_le_mul z z
    omega
  refine ⟨h2, Nat.not_le.mp fun z => ?_, h1, h4⟩
  have := h4 _ z
  unfold isq at this
  omega
/-- the size behind a merger -/
def msz (x y : Int32) : Int32 := nI (min 400 (isq (x.toInt.toNat * x.toInt.toNat + y.toInt.toNat * y.toInt.toNat)))
theorem sq_nI {m : Nat} (hm : m ≤ 1000) : (nI m * nI m).toInt = (m * m : Nat) := by
  have : m * m ≤ 1000 * 1000 := Nat.mul_le_mul hm hm
  have e : (nI m).toInt = m := nI_toInt (by omega)
  rw [ti_mul (by rw [e, ← Int.natCast_mul]; omega) (by rw [e, ← Int.natCast_mul]; omega), e, Int.natCast_mul]
theorem sqs {x y : Int32} (hx : 10 ≤ x.toInt ∧ x.toInt ≤ 400) (hy : 10 ≤ y.toInt ∧ y.toInt ≤ 400) : (x * x + y * y).toInt = (x.toInt.toNat * x.toInt.toNat + y.toInt.toNat * y.toInt.toNat : Nat) ∧ x.toInt.toNat * x.toInt.toNat + y.toInt.toNat * y.toInt.toNat ≤ 320000 := by
  have ex : x = nI x.toInt.toNat := nI_ofI (by omega)
  have ey : y = nI y.toInt.toNat := nI_ofI (by omega)
  have lx : x.toInt.toNat ≤ 400 := by omega
  have ly : y.toInt.toNat ≤ 400 := by omega
  generalize x.toInt.toNat = a at *
  generalize y.toInt.toNat = b at *
  have h1 : a * a ≤ 400 * 400 := Nat.mul_le_mul lx lx
  have h2 : b * b ≤ 400 * 400 := Nat.mul_le_mul ly ly
  have e1 := sq_nI (m := a) (by omega)
  have e2 := sq_nI (m := b) (by omega)
  rw [← ex] at e1
  rw [← ey] at e2
  refine ⟨?_, by omega⟩
  rw [ti_add (by omega) (by omega), e1, e2, Int.natCast_add]
theorem msz_rg {x y : Int32} (hx : 10 ≤ x.toInt ∧ x.toInt ≤ 400) (hy : 10 ≤ y.toInt ∧ y.toInt ≤ 400) : 10 ≤ (msz x y).toInt ∧ (msz x y).toInt ≤ 400 := by
  obtain ⟨h1, h2⟩ := sqs hx hy
  obtain ⟨-, -, h3, h4⟩ := isq_ok h2
  have h5 := h4 x.toInt.toNat (Nat.le_add_right _ _)
  unfold msz
  rw [nI_toInt (by omega)]
  omega
theorem lt_sq {n m : Nat} {z : Int32} (hz : z.toInt = n) (hm : m ≤ 900) : z < (nI m + 1) * (nI m + 1) ↔ n < (m + 1) * (m + 1) := by
  have := sq_nI (m := m + 1) (by omega)
  rw [← nI_succ, Int32.lt_iff_toInt_lt, hz, this]
  omega
theorem x_msz {post : Int32 → Prop} {x y : Int32} (hx : 10 ≤ x.toInt ∧ x.toInt ≤ 400) (hy : 10 ≤ y.toInt ∧ y.toInt ≤ 400) (h : post (msz x y)) : wp_X6_mergedSize post x y := by
  obtain ⟨h1, h2⟩ := sqs hx hy
  obtain ⟨q1, q2, q3, q4⟩ := isq_ok h2
  unfold msz at h
  have g5 := q4 x.toInt.toNat (Nat.le_add_right _ _)
  have ex : x = nI x.toInt.toNat := nI_ofI (by omega)
  have lx : x.toInt.toNat ≤ 400 := by omega
  generalize hn : x.toInt.toNat * x.toInt.toNat + y.toInt.toNat * y.toInt.toNat = n at *
  generalize x.toInt.toNat = a at *
  generalize hm : isq n = m at *
  have key : ∀ d j : Nat, j + d = min 400 m → wp_X6_mergedSize_10 post (d + 1) (x * x + y * y) (nI j) := by
    intro d
    induction d with
    | zero =>
      intro j hj
      have hj' : j = min 400 m := by omega
      subst hj'
      refine ⟨fun _ => h, fun g => ⟨fun _ => h, fun g2 => absurd ?_ g2⟩⟩
      rw [show (400 : Int32) = nI 400 from rfl, nI_le2 (by omega) (by omega)] at g
      have e : min 400 m = m := by omega
      rw [e, lt_sq h1 (by omega)]
      exact q2
    | succ d ih =>
      intro j hj
      have e1 : (j + 1) * (j + 1) ≤ m * m := Nat.mul_le_mul (by omega) (by omega)
      refine ⟨fun g => absurd g (by rw [show (400 : Int32) = nI 400 from rfl, nI_le2 (by omega) (by omega)]; omega), fun _ => ⟨fun g => absurd ((lt_sq h1 (by omega)).mp g) (by omega), fun _ => ?_⟩⟩
      rw [← nI_succ]
      exact ih (j + 1) (by omega)
  refine ⟨min 400 m - a + 1, ?_⟩
  have := key (min 400 m - a) a (by omega)
  rw [← ex] at this
  exact this
/-- the loser l goes into the winner z -/
def fMg (w : Dt) (z l : Nat) : Dt :=
  up2 (up2 (if up2 w 10 z (msz (w 10 z) (w 10 l)) 12 z = 45 then up2 (up2 w 10 z (msz (w 10 z) (w 10 l))) 12 z (up2 w 10 z (msz (w 10 z) (w 10 l)) 12 l) else up2 w 10 z (msz (w 10 z) (w 10 l))) 13 l 0) 14 l (nI z)
theorem fMg_ne {w : Dt} {z l p : Nat} (h : p < 10 ∨ p = 11 ∨ 14 < p) : fMg w z l p = w p := by
  unfold fMg
  rw [up2_ne (by omega), up2_ne (by omega)]
  split
  · rw [up2_ne (by omega), up2_ne (by omega)]
  · rw [up2_ne (by omega)]
theorem IS.mg {w : Dt} {C D : Nat} {rk : Nat → Nat} (h : IS w C D rk) {z l : Nat} (hz : z < C) (hl : l < C) (hne : z ≠ l) (tz : w 13 z = 1) (tl : w 13 l = 1) : IS (fMg w z l) C (D + 1) (fun k => if k = l then D else rk k) := by
  have h1 : IS (up2 w 10 z (msz (w 10 z) (w 10 l))) C D rk := h.siz (fun _ => msz_rg (h.sz z hz tz) (h.sz l hl tl))
  have e12 : ∀ k, up2 w 10 z (msz (w 10 z) (w 10 l)) 12 k = w 12 k := fun k => up2_nr (by omega)
  have e13 : ∀ k, up2 w 10 z (msz (w 10 z) (w 10 l)) 13 k = w 13 k := fun k => up2_nr (by omega)
  have h2 := h1.end (i := l) hl (by rw [e13]; exact tl) (x := nI z) (Or.inr ⟨z, hz, rfl, by rw [e13]; exact tz, hne⟩)
  unfold fMg
  split
  · rename_i q
    rw [up2_comm (p := 12) (p' := 13) (by omega), up2_comm (p := 12) (p' := 14) (by omega), e12]
    have hC := h.hC
    refine h2.nam (h.ch l (by omega)) (fun k hk tk nk ne => ?_)
    rw [up2_nr (by omega)] at tk
    rw [up2_nr (by omega), up2_nr (by omega), e12] at nk
    by_cases zk : k = l
    · subst zk
      rw [up2_eq] at tk
      exact absurd tk (by decide)
    · rw [up2_nk zk, e13] at tk
      exact absurd (h.na k l hk hl tk tl nk (by rw [nk]; exact ne)) zk
  · exact h2
def grb (w : Dt) (i j : Nat) : Bool := if w 10 i = w 10 j then !(decide (w 11 i ≤ w 11 j)) else !(decide (w 10 i ≤ w 10 j))
theorem x_grt {post : Int32 → Prop} {w : Dt} {i j : Nat} (hi : i < 12) (hj : j < 12) (h1 : grb w i j = true → post 1) (h0 : grb w i j = false → post 0) : wp_X6_isGreater post w (nI i) (nI j) := by
  have ci : (nI i).toNatClampNeg = i := nI_cl (by omega)
  have cj : (nI j).toNatClampNeg = j := nI_cl (by omega)
  unfold grb at h1 h0
  unfold wp_X6_isGreater
  rw [ci, cj]
  refine ⟨vp_nI hi (by omega), vp_nI hj (by omega), fun g => ⟨fun g2 => ⟨nw_bool (Or.inl rfl), h0 ?_⟩, fun g2 => ⟨nw_bool (Or.inr rfl), h1 ?_⟩⟩, fun g => ⟨fun g2 => ⟨nw_bool (Or.inl rfl), h0 ?_⟩, fun g2 => ⟨nw_bool (Or.inr rfl), h1 ?_⟩⟩⟩
  · rw [if_pos g, decide_eq_true g2]; rfl
  · rw [if_pos g, decide_eq_false g2]; rfl
  · rw [if_neg g, decide_eq_true g2]; rfl
  · rw [if_neg g, decide_eq_false g2]; rfl
def mts (w : Dt) (i j : Nat) : Bool := !(decide (w 13 i = 0)) && !(decide (w 13 j = 0)) && decide (w 8 i = w 8 j) && !(decide ((w 10 i + w 10 j) / 2 ≤ dis (w 9 i) (w 9 j)))
theorem mts_t {w : Dt} {i j : Nat} (h : mts w i j = true) : ¬ w 13 i = 0 ∧ ¬ w 13 j = 0 ∧ w 8 i = w 8 j ∧ ¬ (w 10 i + w 10 j) / 2 ≤ dis (w 9 i) (w 9 j) := by
  unfold mts at h
  simp only [Bool.and_eq_true, Bool.not_eq_true', decide_eq_false_iff_not, decide_eq_true_eq] at h
  exact ⟨h.1.1.1, h.1.1.2, h.1.2, h.2⟩
theorem mts_i {w : Dt} {i j : Nat} (h1 : ¬ w 13 i = 0) (h2 : ¬ w 13 j = 0) (h3 : w 8 i = w 8 j) (h4 : ¬ (w 10 i + w 10 j) / 2 ≤ dis (w 9 i) (w 9 j)) : mts w i j = true := by
  unfold mts
  simp only [Bool.and_eq_true, Bool.not_eq_true', decide_eq_false_iff_not, decide_eq_true_eq]
  exact ⟨⟨⟨h1, h2⟩, h3⟩, h4⟩
theorem mts_f {w : Dt} {i j : Nat} (h : w 13 i = 0 ∨ w 13 j = 0 ∨ ¬ w 8 i = w 8 j ∨ (w 10 i + w 10 j) / 2 ≤ dis (w 9 i) (w 9 j)) : mts w i j = false := by
  cases e : mts w i j with
  | false => rfl
  | true =>
    obtain ⟨h1, h2, h3, h4⟩ := mts_t e
    rcases h with z | z | z | z
    · exact absurd z h1
    · exact absurd z h2
    · exact absurd h3 z
    · exact absurd z h4
def fMt (w : Dt) (i j : Nat) : Dt := if mts w i j = true then (if grb w j i = true then fWr (fMg w j i) 109 (nI j) else fWr (fMg w i j) 109 (nI i)) else w
theorem x_doMeet {post : Int32 → Prop} {w : Dt} {i j : Nat} (hi : i < 12) (hj : j < 12) (h1 : mts w i j = true → post 1) (h0 : mts w i j = false → post 0) : wp_X6_doMeet post w (nI i) (nI j) := by
  have ci : (nI i).toNatClampNeg = i := nI_cl (by omega)
  have cj : (nI j).toNatClampNeg = j := nI_cl (by omega)
  have f0 : mts w i j = false → wp_X6_doMeet_71 post 0 w := fun z => ⟨nw_bool (Or.inl rfl), h0 z⟩
  unfold wp_X6_doMeet
  rw [ci, cj]
  refine ⟨vp_nI hi (by omega), fun g1 => f0 (mts_f (Or.inl g1)), fun g1 => ⟨vp_nI hj (by omega), fun g2 => f0 (mts_f (Or.inr (Or.inl g2))), fun g2 => ⟨fun g3 => f0 (mts_f (Or.inr (Or.inr (Or.inl g3)))), fun g3 => x_dis ⟨fun g4 => f0 (mts_f (Or.inr (Or.inr (Or.inr g4)))), fun g4 => ⟨nw_bool (Or.inr rfl), h1 (mts_i g1 g2 g3 g4)⟩⟩⟩⟩⟩
theorem x_merge2 {post : Dt → Prop} {w : Dt} {C D N : Nat} {rk : Nat → Nat} (hI : IS w C D rk) (hN : IN w N) {z l : Nat} (hz : z < C) (hl : l < C) (tz : w 13 z = 1) (tl : w 13 l = 1) (h : post (fWr (fMg w z l) 109 (nI z))) : wp_X6_merge_27 post (nI z) (nI l) w := by
  have hC := hI.hC
  have cz : (nI z).toNatClampNeg = z := nI_cl (by omega)
  have cl : (nI l).toNatClampNeg = l := nI_cl (by omega)
  have hN2 : IN (fMg w z l) N := hN.cg (fun p k h1 h2 _ => by rw [fMg_ne (by omega)])
  unfold wp_X6_merge_27
  rw [cz, cl]
  refine ⟨vp_nI (by omega) (by omega), vp_nI (by omega) (by omega), x_msz (hI.sz z hz tz) (hI.sz l hl tl) (fun w7 e7 => ?_)⟩
  have e12 : w7 12 l = w 12 l := by rw [e7, up2_nr (by omega)]
  have fin : ∀ v : Dt, up2 (up2 v 13 l 0) 14 l (nI z) = fMg w z l → wp_X6_merge_79 post (nI z) (nI l) v := fun v ev => by
    unfold wp_X6_merge_79
    rw [cl]
    refine ⟨vp_nI (by omega) (by omega), fun w10 e10 w11 e11 => ?_⟩
    have e : w11 = fMg w z l := by rw [e11, e10, ev]
    rw [e]
    exact x_write hN2 rfl h
  refine ⟨fun g => fin w7 ?_, fun g => ⟨nw_char (by rw [e12]; exact hI.ch l (by omega)), fun w14 e14 => fin w14 ?_⟩⟩
  · unfold fMg
    rw [← e7, if_neg g]
  · unfold fMg
    rw [e14, ← e7, if_pos g]
theorem x_merge {post : Dt → Prop} {w : Dt} {C D N : Nat} {rk : Nat → Nat} (hI : IS w C D rk) (hN : IN w N) {i j : Nat} (hij : i < j) (hj : j < C) (hm : mts w i j = true) (h : post (fMt w i j)) : wp_X6_merge post w (nI i) (nI j) := by
  have hC := hI.hC
  obtain ⟨m1, m2, m3, m4⟩ := mts_t hm
  have ti : w 13 i = 1 := (hI.th i (by omega)).resolve_left m1
  have tj : w 13 j = 1 := (hI.th j (by omega)).resolve_left m2
  unfold fMt at h
  rw [if_pos hm] at h
  refine x_grt (by omega) (by omega) (fun g => ⟨fun z => absurd z (by decide), fun _ => ⟨fun _ => ?_, fun q => absurd (nI_inj (by omega) (by omega) q) (by omega)⟩⟩) (fun g => ⟨fun _ => ⟨fun q => absurd rfl q, fun _ => ?_⟩, fun z => absurd rfl z⟩)
  · rw [if_pos g] at h
    exact x_merge2 hI hN hj (by omega) tj ti h
  · rw [if_neg (by rw [g]; decide)] at h
    exact x_merge2 hI hN (by omega) hj ti tj h
theorem fWr_IS {w : Dt} {C D : Nat} {rk : Nat → Nat} (h : IS w C D rk) (c x : Int32) : IS (fWr w c x) C D rk := h.cgr (fun p h1 h2 => fWr_ne (by omega))
theorem IN.mt {w : Dt} {N : Nat} (h : IN w N) (i j : Nat) : ∃ N', N ≤ N' ∧ IN (fMt w i j) N' := by
  have hN := h.hN
  unfold fMt
  split
  · split
    · exact ⟨min 60 (N + 1), by omega, (h.cg (v := fMg w j i) (fun p k h1 h2 _ => by rw [fMg_ne (by omega)])).wr rfl _⟩
    · exact ⟨min 60 (N + 1), by omega, (h.cg (v := fMg w i j) (fun p k h1 h2 _ => by rw [fMg_ne (by omega)])).wr rfl _⟩
  · exact ⟨N, Nat.le_refl N, h⟩
theorem IS.mt {w : Dt} {C D : Nat} {rk : Nat → Nat} (h : IS w C D rk) {i j : Nat} (hij : i < j) (hj : j < C) : ∃ D' rk', IS (fMt w i j) C D' rk' := by
  have hC := h.hC
  unfold fMt
  split
  · rename_i hm
    obtain ⟨m1, m2, m3, m4⟩ := mts_t hm
    have ti : w 13 i = 1 := (h.th i (by omega)).resolve_left m1
    have tj : w 13 j = 1 := (h.th j (by omega)).resolve_left m2
    split
    · exact ⟨_, _, fWr_IS (h.mg hj (by omega) (by omega) tj ti) _ _⟩
    · exact ⟨_, _, fWr_IS (h.mg (by omega) hj (by omega) ti tj) _ _⟩
  · exact ⟨D, rk, h⟩
theorem fMt_ne {w : Dt} {i j p : Nat} (h : p < 10 ∨ p = 11 ∨ (14 < p ∧ p < 19) ∨ 21 < p) : fMt w i j p = w p := by
  unfold fMt
  split
  · split
    · rw [fWr_ne (by omega), fMg_ne (by omega)]
    · rw [fWr_ne (by omega), fMg_ne (by omega)]
  · rfl
/-- what holds of storms and notes: some count of each -/
def SN (w : Dt) (C : Nat) : Prop := ∃ D rk N, IS w C D rk ∧ IN w N
def fMi (C : Nat) (w : Dt) (i : Nat) : Dt := itr (fun w d => fMt w i (i + 1 + d)) w (C - (i + 1))
theorem SN.mt {w : Dt} {C : Nat} (h : SN w C) {i j : Nat} (hij : i < j) (hj : j < C) : SN (fMt w i j) C := by
  obtain ⟨D, rk, N, h1, h2⟩ := h
  obtain ⟨D', rk', h1'⟩ := h1.mt hij hj
  obtain ⟨N', -, h2'⟩ := h2.mt i j
  exact ⟨D', rk', N', h1', h2'⟩
theorem SN.mi {w : Dt} {C : Nat} (h : SN w C) {i : Nat} : ∀ d, d ≤ C - (i + 1) → SN (itr (fun w d => fMt w i (i + 1 + d)) w d) C :=
  itr_ind (fun _ v => SN v C) h (fun d v hd (hv : SN v C) => (hv.mt (by omega) (by omega) : SN (fMt v i (i + 1 + d)) C))
theorem SN.meet {w : Dt} {C : Nat} (h : SN w C) : ∀ i, i ≤ C → SN (itr (fMi C) w i) C :=
  itr_ind (fun _ v => SN v C) h (fun i v _ (hv : SN v C) => (hv.mi (C - (i + 1)) (Nat.le_refl _) : SN (fMi C v i) C))
theorem x_meet {post : Dt → Prop} {w : Dt} {C : Nat} (hI : SN w C) (h : post (itr (fMi C) w C)) : wp_X6_meet post w := by
  refine loopU (fun n y s => wp_X6_meet_2 post n y s) C (fun i s => s = itr (fMi C) w i ∧ SN s C) w ⟨rfl, hI⟩ (fun n s hs => ?_) (fun i n s hi hs hk => ?_)
  · obtain ⟨rfl, D, rk, N, hS, -⟩ := hs
    exact ⟨fun _ => h, fun g => absurd ((lt_cnt hS.hC hS.cC (by have := hS.hC; omega)).mpr (Nat.le_refl C)) g⟩
  · obtain ⟨hs, hSN⟩ := hs
    obtain ⟨D, rk, N, hS, hNN⟩ := hSN
    have hC := hS.hC
    refine ⟨fun g => absurd ((lt_cnt hC hS.cC (by omega)).mp g) (by omega), fun _ => ⟨fun g => absurd g (by rw [show (12 : Int32) = nI 12 from rfl, nI_le2 (by omega) (by omega)]; omega), fun _ => ?_⟩⟩
    have hSN : SN s C := ⟨D, rk, N, hS, hNN⟩
    rw [← nI_succ]
    refine ⟨C - (i + 1) + 1, loopG (fun m y v => wp_X6_meet_20 post (fun a0 w => wp_X6_meet_2 post n a0 w) m (nI i) y v) (fun d => nI (i + 1 + d)) (C - (i + 1)) (fun d v => v = itr (fun w d => fMt w i (i + 1 + d)) s d ∧ SN v C) (fun m v hv => ?_) (fun d m v hd hv hkk => ?_) (C - (i + 1)) 0 s (by omega) ⟨rfl, hSN⟩⟩
    · obtain ⟨hv, hvS⟩ := hv
      obtain ⟨D2, rk2, N2, hS2, -⟩ := id hvS
      refine ⟨fun _ => ?_, fun g => absurd ((lt_cnt hC hS2.cC (by omega)).mpr (by omega)) g⟩
      have := hk v ⟨by rw [hv, hs]; rfl, hvS⟩
      rw [nI_succ] at this
      exact this
    · obtain ⟨hv, hvS⟩ := hv
      obtain ⟨D2, rk2, N2, hS2, hN2⟩ := id hvS
      have hnext : wp_X6_meet_20 post (fun a0 w => wp_X6_meet_2 post n a0 w) m (nI i) (nI (i + 1 + d) + 1) (fMt v i (i + 1 + d)) := by
        have := hkk (fMt v i (i + 1 + d)) ⟨by rw [hv]; rfl, hvS.mt (by omega) (by omega)⟩
        rw [show i + 1 + (d + 1) = (i + 1 + d) + 1 by omega, nI_succ] at this
        exact this
      refine ⟨fun g => absurd ((lt_cnt hC hS2.cC (by omega)).mp g) (by omega), fun _ => ⟨fun g => absurd g (by rw [show (12 : Int32) = nI 12 from rfl, nI_le2 (by omega) (by omega)]; omega), fun _ => x_doMeet (by omega) (by omega) (fun g => ⟨fun z => absurd z (by decide), fun _ => ?_⟩) (fun g => ⟨fun _ => ?_, fun z => absurd rfl z⟩)⟩⟩
      · exact x_merge hS2 hN2 (by omega) (by omega) g hnext
      · unfold fMt at hnext
        rw [if_neg (by rw [g]; decide)] at hnext
        exact hnext
