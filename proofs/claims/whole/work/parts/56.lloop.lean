/-! THE LAW'S LOOP -/
def SIMS (Rel : RLT) : Prop := SIM_setTemperature Rel ∧ SIM_getTemperature Rel ∧ SIM_setVapour Rel ∧ SIM_getVapour Rel ∧ SIM_getIce Rel ∧ SIM_deck Rel ∧ SIM_setCore Rel ∧ SIM_getRadiated Rel ∧ SIM_pressure Rel ∧ SIM_setTurning Rel ∧ SIM_getTurning Rel ∧ SIM_getWind Rel ∧ SIM_getShear Rel ∧ SIM_stir Rel ∧ SIM_setDrag Rel ∧ SIM_getDeep Rel ∧ SIM_addStorm Rel ∧ SIM_nameStorm Rel ∧ SIM_findName Rel ∧ SIM_getLongitude Rel ∧ SIM_getSize Rel ∧ SIM_getAge Rel ∧ SIM_isThere Rel ∧ SIM_livesIn Rel ∧ SIM_burst Rel ∧ SIM_strike Rel ∧ SIM_getWidth Rel ∧ SIM_scarTurns Rel ∧ SIM_turn Rel ∧ SIM_dropProbe Rel ∧ SIM_tick Rel ∧ SIM_sent Rel ∧ SIM_sentAt Rel ∧ SIM_lost Rel ∧ SIM_frame Rel ∧ SIM_countSeen Rel ∧ SIM_placeIn Rel ∧ SIM_drift Rel ∧ SIM_save Rel ∧ SIM_load Rel ∧ SIM_happenings Rel ∧ SIM_happening Rel ∧ SIM_happenedTo Rel ∧ SIM_checksum Rel ∧ SIM_thereShare Rel ∧ SIM_meanWind Rel ∧ SIM_isSound Rel
/-- what else is owed of the relation: bounds, and that a call may be left out -/
def RLB (Rel : RLT) : Prop := ∀ (j : Nat) (r w : Dt) (sums : Nat → Int64) (ns : Nat) (sw : Nat → Dt) (np : Nat) (pw : Nat → Dt) (nf : Nat) (fw : Nat → Dt) (spw : Dt) (q : Nat) (t n : Nat → Nat) (rr : Nat → Nat → Nat) (ww : Dt), Rel j r w sums ns sw np pw nf fw spw q t n rr ww → (r 0 3 = nI ns ∧ ns ≤ 3) ∧ Rel (j + 1) r w sums ns sw np pw nf fw spw q t n rr ww
theorem lw_lim {L j : Nat} (hL : L ≤ 2560) (hj : j ≤ 512) : nI L - 5 < nI (5 * j) ↔ L < 5 * j + 5 := by
  rw [Int32.lt_iff_toInt_lt, Int32.toInt_sub, nI_toInt (by omega), nI_toInt (by omega), show (5 : Int32).toInt = 5 from rfl, Int.bmod_eq_of_le (by omega) (by omega)]
  omega
theorem lw_inx {L j k : Nat} (hL : L ≤ 2560) (h : 5 * j + k < L) {x : Int32} (hx : x = nI k) : vp_in (nI (5 * j) + x) L := by
  subst hx
  rw [nI_add]
  exact vp_in_nI (by omega) (by omega)
theorem lw_and (x : Int32) : 0 ≤ (x &&& 63).toInt ∧ (x &&& 63).toInt < 64 := by
  have h1 : (x &&& 63).toBitVec = x.toBitVec &&& 63#32 := rfl
  have h2 : (x &&& 63).toInt = ((x.toBitVec &&& 63#32).toNat : Int) := by
    show (x &&& 63).toBitVec.toInt = _
    rw [h1, BitVec.toInt_eq_toNat_of_lt]
    have h3 : (x.toBitVec &&& 63#32).toNat ≤ 63 := by
      rw [BitVec.toNat_and]
      exact Nat.and_le_right
    omega
  have h3 : (x.toBitVec &&& 63#32).toNat ≤ 63 := by
    rw [BitVec.toNat_and]
    exact Nat.and_le_right
  omega
set_option maxHeartbeats 4000000 in
theorem lw_switch {p : Program} {l : Launch} {e : Env} {s : State} {m : MethodId} {args : Array Value} {below : List Frame} {meth : Method} {c : Code} {Q : State → Prop} {D : va_G} {tc : Nat → ClassId} {sa : Nat → Nat} {b L : Nat} {xs : Nat → Int32} {q ob od : Nat} {ad ar : Nat → Nat} (Rel : RLT) (hs : SIMS Rel) (hrb : RLB Rel) (X : Cx p c s m meth cL_law 10 RL D tc) (hN : NC s) (hT : ST s.heap.size sa s s.heap) (hlf : l.stackTraces = false) (hX : va_X b L xs s s.heap) (hbl : b < s.heap.size) (hL : L ≤ 2560) {j : Nat} {H : Heap} {locs : List Loc} {cells slots : Nat} {ls : Array Slot} (hj : j < 512) (h5 : 5 * j + 5 ≤ L) (hS : va_S (old s.heap.size) s.heap H locs) (hLH : LH Rel D tc s.heap.size (sa 3) q ob od ad ar j H) (hl : lv_has ls 10 [(5, .int (nI (5 * j))), (0, .ref b), (1, .ref (ar 0)), (2, .ref q), (3, .ref ob), (4, .ref od)]) (hf : cells + 1520 ≤ room_1.cells ∧ slots + 13000 ≤ room_1.slots) (v : Int32) (hv0 : 0 ≤ v.toInt)
    (kk : ∀ (H1 : Heap) (locs1 : List Loc) (ls1 : Array Slot), va_S (old s.heap.size) s.heap H1 locs1 → LH Rel D tc s.heap.size (sa 3) q ob od ad ar (j + 1) H1 → lv_has ls1 10 [(5, .int (nI (5 * j))), (0, .ref b), (1, .ref (ar 0)), (2, .ref q), (3, .ref ob), (4, .ref od)] → W p l e room_1 s m args below meth c H1 locs1 (cells + 1520) (slots + 13000) Q (F0 m 2989 ls1 [])) : W p l e room_1 s m args below meth c H locs cells slots Q (F0 m 44 ls [.int v]) := by
  have hx := X.1
  have hb := X.2.1
  have i1 : vp_in (nI (5 * j) + 1) L := lw_inx (k := 1) hL (by omega) rfl
  have i2 : vp_in (nI (5 * j) + 2) L := lw_inx (k := 2) hL (by omega) rfl
  have i3 : vp_in (nI (5 * j) + 3) L := lw_inx (k := 3) hL (by omega) rfl
  have i4 : vp_in (nI (5 * j) + 4) L := lw_inx (k := 4) hL (by omega) rfl
  obtain ⟨O, f, g, sp, sd, pd, fd, sums, r, w, ns, sw, np, pw, nf, fw, spw, t, n, rr, ww, hI, hR⟩ := hLH
  by_cases hbig : 46 < v.toInt
  · refine lv_tableOut (tgt := 2989) hx hb dL_law_44 (Or.inr hbig) (by decide) ?_
    refine W.widen (k := cells + 1520) (n := slots + 13000) (by omega) (by omega) ?_
    exact kk H locs ls hS ⟨_, _, _, _, _, _, _, _, _, _, _, _, _, _, _, _, _, _, _, _, _, hI, (hrb _ _ _ _ _ _ _ _ _ _ _ _ _ _ _ _ hR).2⟩ hl
  · obtain ⟨k, hk⟩ : ∃ k : Nat, v.toInt = k := ⟨v.toInt.toNat, by omega⟩
    have hk47 : k < 47 := by omega
    by_cases e0 : k = 0
    · subst e0
      refine lv_tableIn (off := 204) (tgt := 248) hx hb dL_law_44 (by omega) (by omega) (by rw [hk]; decide) (by decide) ?_
      exact tc_setTemperature Rel X hN hT hlf hX hbl hS hI hR hj i1 i2 i3 i4 hl hf hs.1 kk
    by_cases e1 : k = 1
    · subst e1
      refine lv_tableIn (off := 272) (tgt := 316) hx hb dL_law_44 (by omega) (by omega) (by rw [hk]; decide) (by decide) ?_
      exact tc_getTemperature Rel X hN hT hlf hX hbl hS hI hR hj i1 i2 i3 i4 hl hf hs.2.1 kk
    by_cases e2 : k = 2
    · subst e2
      refine lv_tableIn (off := 328) (tgt := 372) hx hb dL_law_44 (by omega) (by omega) (by rw [hk]; decide) (by decide) ?_
      exact tc_setVapour Rel X hN hT hlf hX hbl hS hI hR hj i1 i2 i3 i4 hl hf hs.2.2.1 kk
    by_cases e3 : k = 3
    · subst e3
      refine lv_tableIn (off := 408) (tgt := 452) hx hb dL_law_44 (by omega) (by omega) (by rw [hk]; decide) (by decide) ?_
      exact tc_getVapour Rel X hN hT hlf hX hbl hS hI hR hj i1 i2 i3 i4 hl hf hs.2.2.2.1 kk
    by_cases e4 : k = 4
    · subst e4
      refine lv_tableIn (off := 476) (tgt := 520) hx hb dL_law_44 (by omega) (by omega) (by rw [hk]; decide) (by decide) ?_
      exact tc_getIce Rel X hN hT hlf hX hbl hS hI hR hj i1 i2 i3 i4 hl hf hs.2.2.2.2.1 kk
    by_cases e5 : k = 5
    · subst e5
      refine lv_tableIn (off := 544) (tgt := 588) hx hb dL_law_44 (by omega) (by omega) (by rw [hk]; decide) (by decide) ?_
      exact tc_deck Rel X hN hT hlf hX hbl hS hI hR hj i1 i2 i3 i4 hl hf hs.2.2.2.2.2.1 kk
    by_cases e6 : k = 6
    · subst e6
      refine lv_tableIn (off := 600) (tgt := 644) hx hb dL_law_44 (by omega) (by omega) (by rw [hk]; decide) (by decide) ?_
      exact tc_setCore Rel X hN hT hlf hX hbl hS hI hR hj i1 i2 i3 i4 hl hf hs.2.2.2.2.2.2.1 kk
    by_cases e7 : k = 7
    · subst e7
      refine lv_tableIn (off := 656) (tgt := 700) hx hb dL_law_44 (by omega) (by omega) (by rw [hk]; decide) (by decide) ?_
      exact tc_getRadiated Rel X hN hT hlf hX hbl hS hI hR hj i1 i2 i3 i4 hl hf hs.2.2.2.2.2.2.2.1 kk
    by_cases e8 : k = 8
    · subst e8
      refine lv_tableIn (off := 669) (tgt := 713) hx hb dL_law_44 (by omega) (by omega) (by rw [hk]; decide) (by decide) ?_
      exact tc_pressure Rel X hN hT hlf hX hbl hS hI hR hj i1 i2 i3 i4 hl hf hs.2.2.2.2.2.2.2.2.1 kk
    by_cases e9 : k = 9
    · subst e9
      refine lv_tableIn (off := 747) (tgt := 791) hx hb dL_law_44 (by omega) (by omega) (by rw [hk]; decide) (by decide) ?_
      exact tc_setTurning Rel X hN hT hlf hX hbl hS hI hR hj i1 i2 i3 i4 hl hf hs.2.2.2.2.2.2.2.2.2.1 kk
    by_cases e10 : k = 10
    · subst e10
      refine lv_tableIn (off := 815) (tgt := 859) hx hb dL_law_44 (by omega) (by omega) (by rw [hk]; decide) (by decide) ?_
      exact tc_getTurning Rel X hN hT hlf hX hbl hS hI hR hj i1 i2 i3 i4 hl hf hs.2.2.2.2.2.2.2.2.2.2.1 kk
    by_cases e11 : k = 11
    · subst e11
      refine lv_tableIn (off := 871) (tgt := 915) hx hb dL_law_44 (by omega) (by omega) (by rw [hk]; decide) (by decide) ?_
      exact tc_getWind Rel X hN hT hlf hX hbl hS hI hR hj i1 i2 i3 i4 hl hf hs.2.2.2.2.2.2.2.2.2.2.2.1 kk
    by_cases e12 : k = 12
    · subst e12
      refine lv_tableIn (off := 927) (tgt := 971) hx hb dL_law_44 (by omega) (by omega) (by rw [hk]; decide) (by decide) ?_
      exact tc_getShear Rel X hN hT hlf hX hbl hS hI hR hj i1 i2 i3 i4 hl hf hs.2.2.2.2.2.2.2.2.2.2.2.2.1 kk
    by_cases e13 : k = 13
    · subst e13
      refine lv_tableIn (off := 983) (tgt := 1027) hx hb dL_law_44 (by omega) (by omega) (by rw [hk]; decide) (by decide) ?_
      exact tc_stir Rel X hN hT hlf hX hbl hS hI hR hj i1 i2 i3 i4 hl hf hs.2.2.2.2.2.2.2.2.2.2.2.2.2.1 kk
    by_cases e14 : k = 14
    · subst e14
      refine lv_tableIn (off := 1063) (tgt := 1107) hx hb dL_law_44 (by omega) (by omega) (by rw [hk]; decide) (by decide) ?_
      exact tc_setDrag Rel X hN hT hlf hX hbl hS hI hR hj i1 i2 i3 i4 hl hf hs.2.2.2.2.2.2.2.2.2.2.2.2.2.2.1 kk
    by_cases e15 : k = 15
    · subst e15
      refine lv_tableIn (off := 1119) (tgt := 1163) hx hb dL_law_44 (by omega) (by omega) (by rw [hk]; decide) (by decide) ?_
      exact tc_getDeep Rel X hN hT hlf hX hbl hS hI hR hj i1 i2 i3 i4 hl hf hs.2.2.2.2.2.2.2.2.2.2.2.2.2.2.2.1 kk
    by_cases e16 : k = 16
    · subst e16
      refine lv_tableIn (off := 1132) (tgt := 1176) hx hb dL_law_44 (by omega) (by omega) (by rw [hk]; decide) (by decide) ?_
      exact tc_addStorm Rel X hN hT hlf hX hbl hS hI hR hj i1 i2 i3 i4 hl hf hs.2.2.2.2.2.2.2.2.2.2.2.2.2.2.2.2.1 kk
    by_cases e17 : k = 17
    · subst e17
      refine lv_tableIn (off := 1212) (tgt := 1256) hx hb dL_law_44 (by omega) (by omega) (by rw [hk]; decide) (by decide) ?_
      exact tc_nameStorm Rel X hN hT hlf hX hbl hS hI hR hj i1 i2 i3 i4 hl hf hs.2.2.2.2.2.2.2.2.2.2.2.2.2.2.2.2.2.1 kk
    by_cases e18 : k = 18
    · subst e18
      refine lv_tableIn (off := 1282) (tgt := 1326) hx hb dL_law_44 (by omega) (by omega) (by rw [hk]; decide) (by decide) ?_
      exact tc_findName Rel X hN hT hlf hX hbl hS hI hR hj i1 i2 i3 i4 hl hf hs.2.2.2.2.2.2.2.2.2.2.2.2.2.2.2.2.2.2.1 kk
    by_cases e19 : k = 19
    · subst e19
      refine lv_tableIn (off := 1340) (tgt := 1384) hx hb dL_law_44 (by omega) (by omega) (by rw [hk]; decide) (by decide) ?_
      exact tc_getLongitude Rel X hN hT hlf hX hbl hS hI hR hj i1 i2 i3 i4 hl hf hs.2.2.2.2.2.2.2.2.2.2.2.2.2.2.2.2.2.2.2.1 kk
    by_cases e20 : k = 20
    · subst e20
      refine lv_tableIn (off := 1396) (tgt := 1440) hx hb dL_law_44 (by omega) (by omega) (by rw [hk]; decide) (by decide) ?_
      exact tc_getSize Rel X hN hT hlf hX hbl hS hI hR hj i1 i2 i3 i4 hl hf hs.2.2.2.2.2.2.2.2.2.2.2.2.2.2.2.2.2.2.2.2.1 kk
    by_cases e21 : k = 21
    · subst e21
      refine lv_tableIn (off := 1452) (tgt := 1496) hx hb dL_law_44 (by omega) (by omega) (by rw [hk]; decide) (by decide) ?_
      exact tc_getAge Rel X hN hT hlf hX hbl hS hI hR hj i1 i2 i3 i4 hl hf hs.2.2.2.2.2.2.2.2.2.2.2.2.2.2.2.2.2.2.2.2.2.1 kk
    by_cases e22 : k = 22
    · subst e22
      refine lv_tableIn (off := 1508) (tgt := 1552) hx hb dL_law_44 (by omega) (by omega) (by rw [hk]; decide) (by decide) ?_
      exact tc_isThere Rel X hN hT hlf hX hbl hS hI hR hj i1 i2 i3 i4 hl hf hs.2.2.2.2.2.2.2.2.2.2.2.2.2.2.2.2.2.2.2.2.2.2.1 kk
    by_cases e23 : k = 23
    · subst e23
      refine lv_tableIn (off := 1571) (tgt := 1615) hx hb dL_law_44 (by omega) (by omega) (by rw [hk]; decide) (by decide) ?_
      exact tc_livesIn Rel X hN hT hlf hX hbl hS hI hR hj i1 i2 i3 i4 hl hf hs.2.2.2.2.2.2.2.2.2.2.2.2.2.2.2.2.2.2.2.2.2.2.2.1 kk
    by_cases e24 : k = 24
    · subst e24
      refine lv_tableIn (off := 1627) (tgt := 1671) hx hb dL_law_44 (by omega) (by omega) (by rw [hk]; decide) (by decide) ?_
      exact tc_burst Rel X hN hT hlf hX hbl hS hI hR hj i1 i2 i3 i4 hl hf hs.2.2.2.2.2.2.2.2.2.2.2.2.2.2.2.2.2.2.2.2.2.2.2.2.1 kk
    by_cases e25 : k = 25
    · subst e25
      refine lv_tableIn (off := 1695) (tgt := 1739) hx hb dL_law_44 (by omega) (by omega) (by rw [hk]; decide) (by decide) ?_
      exact tc_strike Rel X hN hT hlf hX hbl hS hI hR hj i1 i2 i3 i4 hl hf hs.2.2.2.2.2.2.2.2.2.2.2.2.2.2.2.2.2.2.2.2.2.2.2.2.2.1 kk
    by_cases e26 : k = 26
    · subst e26
      refine lv_tableIn (off := 1775) (tgt := 1819) hx hb dL_law_44 (by omega) (by omega) (by rw [hk]; decide) (by decide) ?_
      exact tc_getWidth Rel X hN hT hlf hX hbl hS hI hR hj i1 i2 i3 i4 hl hf hs.2.2.2.2.2.2.2.2.2.2.2.2.2.2.2.2.2.2.2.2.2.2.2.2.2.2.1 kk
    by_cases e27 : k = 27
    · subst e27
      refine lv_tableIn (off := 1831) (tgt := 1875) hx hb dL_law_44 (by omega) (by omega) (by rw [hk]; decide) (by decide) ?_
      exact tc_scarTurns Rel X hN hT hlf hX hbl hS hI hR hj i1 i2 i3 i4 hl hf hs.2.2.2.2.2.2.2.2.2.2.2.2.2.2.2.2.2.2.2.2.2.2.2.2.2.2.2.1 kk
    by_cases e28 : k = 28
    · subst e28
      refine lv_tableIn (off := 1887) (tgt := 1931) hx hb dL_law_44 (by omega) (by omega) (by rw [hk]; decide) (by decide) ?_
      exact tc_turn Rel X hN hT hlf hX hbl hS hI hR hj i1 i2 i3 i4 hl hf hs.2.2.2.2.2.2.2.2.2.2.2.2.2.2.2.2.2.2.2.2.2.2.2.2.2.2.2.2.1 kk
    by_cases e29 : k = 29
    · subst e29
      refine lv_tableIn (off := 1943) (tgt := 1987) hx hb dL_law_44 (by omega) (by omega) (by rw [hk]; decide) (by decide) ?_
      exact tc_dropProbe Rel X hN hT hlf hX hbl hS hI hR hj i1 i2 i3 i4 hl hf hs.2.2.2.2.2.2.2.2.2.2.2.2.2.2.2.2.2.2.2.2.2.2.2.2.2.2.2.2.2.1 kk
    by_cases e30 : k = 30
    · subst e30
      refine lv_tableIn (off := 2051) (tgt := 2095) hx hb dL_law_44 (by omega) (by omega) (by rw [hk]; decide) (by decide) ?_
      exact tc_tick Rel X hN hT hlf hX hbl hS hI hR hj i1 i2 i3 i4 hl hf hs.2.2.2.2.2.2.2.2.2.2.2.2.2.2.2.2.2.2.2.2.2.2.2.2.2.2.2.2.2.2.1 kk
    by_cases e31 : k = 31
    · subst e31
      refine lv_tableIn (off := 2107) (tgt := 2151) hx hb dL_law_44 (by omega) (by omega) (by rw [hk]; decide) (by decide) ?_
      exact tc_sent Rel X hN hT hlf hX hbl hS hI hR hj i1 i2 i3 i4 hl hf hs.2.2.2.2.2.2.2.2.2.2.2.2.2.2.2.2.2.2.2.2.2.2.2.2.2.2.2.2.2.2.2.1 kk
    by_cases e32 : k = 32
    · subst e32
      refine lv_tableIn (off := 2163) (tgt := 2207) hx hb dL_law_44 (by omega) (by omega) (by rw [hk]; decide) (by decide) ?_
      exact tc_sentAt Rel X hN hT hlf hX hbl hS hI hR hj i1 i2 i3 i4 hl hf hs.2.2.2.2.2.2.2.2.2.2.2.2.2.2.2.2.2.2.2.2.2.2.2.2.2.2.2.2.2.2.2.2.1 kk
    by_cases e33 : k = 33
    · subst e33
      refine lv_tableIn (off := 2245) (tgt := 2289) hx hb dL_law_44 (by omega) (by omega) (by rw [hk]; decide) (by decide) ?_
      exact tc_lost Rel X hN hT hlf hX hbl hS hI hR hj i1 i2 i3 i4 hl hf hs.2.2.2.2.2.2.2.2.2.2.2.2.2.2.2.2.2.2.2.2.2.2.2.2.2.2.2.2.2.2.2.2.2.1 kk
    by_cases e34 : k = 34
    · subst e34
      refine lv_tableIn (off := 2301) (tgt := 2345) hx hb dL_law_44 (by omega) (by omega) (by rw [hk]; decide) (by decide) ?_
      exact tc_frame Rel X hN hT hlf hX hbl hS hI hR hj i1 i2 i3 i4 hl hf hs.2.2.2.2.2.2.2.2.2.2.2.2.2.2.2.2.2.2.2.2.2.2.2.2.2.2.2.2.2.2.2.2.2.2.1 kk
    by_cases e35 : k = 35
    · subst e35
      refine lv_tableIn (off := 2357) (tgt := 2401) hx hb dL_law_44 (by omega) (by omega) (by rw [hk]; decide) (by decide) ?_
      exact tc_countSeen Rel X hN hT hlf hX hbl hS hI hR hj i1 i2 i3 i4 hl hf hs.2.2.2.2.2.2.2.2.2.2.2.2.2.2.2.2.2.2.2.2.2.2.2.2.2.2.2.2.2.2.2.2.2.2.2.1 kk
    by_cases e36 : k = 36
    · subst e36
      refine lv_tableIn (off := 2413) (tgt := 2457) hx hb dL_law_44 (by omega) (by omega) (by rw [hk]; decide) (by decide) ?_
      exact tc_placeIn Rel X hN hT hlf hX hbl hS hI hR hj i1 i2 i3 i4 hl hf hs.2.2.2.2.2.2.2.2.2.2.2.2.2.2.2.2.2.2.2.2.2.2.2.2.2.2.2.2.2.2.2.2.2.2.2.2.1 kk
    by_cases e37 : k = 37
    · subst e37
      refine lv_tableIn (off := 2483) (tgt := 2527) hx hb dL_law_44 (by omega) (by omega) (by rw [hk]; decide) (by decide) ?_
      exact tc_drift Rel X hN hT hlf hX hbl hS hI hR hj i1 i2 i3 i4 hl hf hs.2.2.2.2.2.2.2.2.2.2.2.2.2.2.2.2.2.2.2.2.2.2.2.2.2.2.2.2.2.2.2.2.2.2.2.2.2.1 kk
    by_cases e38 : k = 38
    · subst e38
      refine lv_tableIn (off := 2587) (tgt := 2631) hx hb dL_law_44 (by omega) (by omega) (by rw [hk]; decide) (by decide) ?_
      exact tc_save Rel X hN hT hlf hX hbl hS hI hR hj i1 i2 i3 i4 hl hf hs.2.2.2.2.2.2.2.2.2.2.2.2.2.2.2.2.2.2.2.2.2.2.2.2.2.2.2.2.2.2.2.2.2.2.2.2.2.2.1 kk
    by_cases e39 : k = 39
    · subst e39
      refine lv_tableIn (off := 2631) (tgt := 2675) hx hb dL_law_44 (by omega) (by omega) (by rw [hk]; decide) (by decide) ?_
      exact tc_load Rel X hN hT hlf hX hbl hS hI hR hj i1 i2 i3 i4 hl hf hs.2.2.2.2.2.2.2.2.2.2.2.2.2.2.2.2.2.2.2.2.2.2.2.2.2.2.2.2.2.2.2.2.2.2.2.2.2.2.2.1 kk
    by_cases e40 : k = 40
    · subst e40
      refine lv_tableIn (off := 2686) (tgt := 2730) hx hb dL_law_44 (by omega) (by omega) (by rw [hk]; decide) (by decide) ?_
      exact tc_happenings Rel X hN hT hlf hX hbl hS hI hR hj i1 i2 i3 i4 hl hf hs.2.2.2.2.2.2.2.2.2.2.2.2.2.2.2.2.2.2.2.2.2.2.2.2.2.2.2.2.2.2.2.2.2.2.2.2.2.2.2.2.1 kk
    by_cases e41 : k = 41
    · subst e41
      refine lv_tableIn (off := 2699) (tgt := 2743) hx hb dL_law_44 (by omega) (by omega) (by rw [hk]; decide) (by decide) ?_
      exact tc_happening Rel X hN hT hlf hX hbl hS hI hR hj i1 i2 i3 i4 hl hf hs.2.2.2.2.2.2.2.2.2.2.2.2.2.2.2.2.2.2.2.2.2.2.2.2.2.2.2.2.2.2.2.2.2.2.2.2.2.2.2.2.2.1 kk
    by_cases e42 : k = 42
    · subst e42
      refine lv_tableIn (off := 2755) (tgt := 2799) hx hb dL_law_44 (by omega) (by omega) (by rw [hk]; decide) (by decide) ?_
      exact tc_happenedTo Rel X hN hT hlf hX hbl hS hI hR hj i1 i2 i3 i4 hl hf hs.2.2.2.2.2.2.2.2.2.2.2.2.2.2.2.2.2.2.2.2.2.2.2.2.2.2.2.2.2.2.2.2.2.2.2.2.2.2.2.2.2.2.1 kk
    by_cases e43 : k = 43
    · subst e43
      refine lv_tableIn (off := 2811) (tgt := 2855) hx hb dL_law_44 (by omega) (by omega) (by rw [hk]; decide) (by decide) ?_
      exact tc_checksum Rel X hN hT hlf hX hbl hS hI hR hj i1 i2 i3 i4 hl hf hs.2.2.2.2.2.2.2.2.2.2.2.2.2.2.2.2.2.2.2.2.2.2.2.2.2.2.2.2.2.2.2.2.2.2.2.2.2.2.2.2.2.2.2.1 kk
    by_cases e44 : k = 44
    · subst e44
      refine lv_tableIn (off := 2825) (tgt := 2869) hx hb dL_law_44 (by omega) (by omega) (by rw [hk]; decide) (by decide) ?_
      exact tc_thereShare Rel X hN hT hlf hX hbl hS hI hR hj i1 i2 i3 i4 hl hf hs.2.2.2.2.2.2.2.2.2.2.2.2.2.2.2.2.2.2.2.2.2.2.2.2.2.2.2.2.2.2.2.2.2.2.2.2.2.2.2.2.2.2.2.2.1 kk
    by_cases e45 : k = 45
    · subst e45
      refine lv_tableIn (off := 2891) (tgt := 2935) hx hb dL_law_44 (by omega) (by omega) (by rw [hk]; decide) (by decide) ?_
      exact tc_meanWind Rel X hN hT hlf hX hbl hS hI hR hj i1 i2 i3 i4 hl hf hs.2.2.2.2.2.2.2.2.2.2.2.2.2.2.2.2.2.2.2.2.2.2.2.2.2.2.2.2.2.2.2.2.2.2.2.2.2.2.2.2.2.2.2.2.2.1 kk
    by_cases e46 : k = 46
    · subst e46
      refine lv_tableIn (off := 2932) (tgt := 2976) hx hb dL_law_44 (by omega) (by omega) (by rw [hk]; decide) (by decide) ?_
      exact tc_isSound Rel X hN hT hlf hX hbl hS hI hR hj i1 i2 i3 i4 hl hf (hrb _ _ _ _ _ _ _ _ _ _ _ _ _ _ _ _ hR).1 hs.2.2.2.2.2.2.2.2.2.2.2.2.2.2.2.2.2.2.2.2.2.2.2.2.2.2.2.2.2.2.2.2.2.2.2.2.2.2.2.2.2.2.2.2.2.2 kk
    omega
theorem lw_num {c k a N : Nat} (h : c + a * (k + 1) ≤ N) : c + a ≤ N := by
  have h1 : a * 1 ≤ a * (k + 1) := Nat.mul_le_mul_left a (by omega)
  omega
set_option maxHeartbeats 4000000 in
theorem lw_loop {p : Program} {l : Launch} {e : Env} {s : State} {m : MethodId} {args : Array Value} {below : List Frame} {meth : Method} {c : Code} {Q : State → Prop} {D : va_G} {tc : Nat → ClassId} {sa : Nat → Nat} {b L : Nat} {xs : Nat → Int32} {q ob od : Nat} {ad ar : Nat → Nat} (Rel : RLT) (hs : SIMS Rel) (hrb : RLB Rel) (X : Cx p c s m meth cL_law 10 RL D tc) (hN : NC s) (hT : ST s.heap.size sa s s.heap) (hlf : l.stackTraces = false) (hX : va_X b L xs s s.heap) (hbl : b < s.heap.size) (hL : L ≤ 2560) (fin : ∀ (H1 : Heap) (locs1 : List Loc) (ls1 : Array Slot), va_S (old s.heap.size) s.heap H1 locs1 → W p l e room_1 s m args below meth c H1 locs1 room_1.cells room_1.slots Q (F0 m 2995 ls1 [])) : ∀ (k j : Nat) (H : Heap) (locs : List Loc) (cells slots : Nat) (ls : Array Slot), L < 5 * j + 5 * k + 5 → j + k ≤ 512 → cells + 1520 * k ≤ room_1.cells → slots + 13000 * k ≤ room_1.slots → va_S (old s.heap.size) s.heap H locs → LH Rel D tc s.heap.size (sa 3) q ob od ad ar j H → lv_has ls 10 [(5, .int (nI (5 * j))), (0, .ref b), (1, .ref (ar 0)), (2, .ref q), (3, .ref ob), (4, .ref od)] → W p l e room_1 s m args below meth c H locs cells slots Q (F0 m 28 ls []) := by
  have hx := X.1
  have hb := X.2.1
  intro k
  induction k with
  | zero =>
    intro j H locs cells slots ls hLk hjk hc hsl hS hLH hl
    refine lv_iload hx hb dL_law_28 (lv_at hl 0 rfl) ?_
    refine lv_aload_n hx hb dL_law_30 rfl (lv_at hl 1 rfl) ?_
    refine va_slen hx hb hX hbl (Nat.not_le.mpr hbl) hS dL_law_31 ?_
    refine lv_iconst (v := 5) hx hb dL_law_32 (by decide) ?_
    refine lv_isub hx hb dL_law_33 ?_
    refine lv_icmp_gt (tgt := 2995) hx hb dL_law_34 (by decide) (fun _ => ?_) (fun h => absurd ((lw_lim hL (by omega)).mpr (by omega)) h)
    refine W.widen (k := room_1.cells) (n := room_1.slots) (by omega) (by omega) ?_
    exact fin H locs ls hS
  | succ k ih =>
    intro j H locs cells slots ls hLk hjk hc hsl hS hLH hl
    refine lv_iload hx hb dL_law_28 (lv_at hl 0 rfl) ?_
    refine lv_aload_n hx hb dL_law_30 rfl (lv_at hl 1 rfl) ?_
    refine va_slen hx hb hX hbl (Nat.not_le.mpr hbl) hS dL_law_31 ?_
    refine lv_iconst (v := 5) hx hb dL_law_32 (by decide) ?_
    refine lv_isub hx hb dL_law_33 ?_
    refine lv_icmp_gt (tgt := 2995) hx hb dL_law_34 (by decide) (fun _ => ?_) (fun h => ?_)
    · refine W.widen (k := room_1.cells) (n := room_1.slots) (by omega) (by omega) ?_
      exact fin H locs ls hS
    have h5 : 5 * j + 5 ≤ L := Nat.not_lt.mp fun z => h ((lw_lim hL (by omega)).mpr z)
    refine lv_aload_n hx hb dL_law_37 rfl (lv_at hl 1 rfl) ?_
    refine lv_iload hx hb dL_law_38 (lv_at hl 0 rfl) ?_
    refine va_sld hx hb hX hbl (Nat.not_le.mpr hbl) hS (vp_in_nI (by omega) (by omega)) dL_law_40 ?_
    refine lv_bipush (v := 63) hx hb dL_law_41 (by decide) ?_
    refine lv_iand hx hb dL_law_43 ?_
    have hfa : cells + 1520 ≤ room_1.cells := (lw_num hc : cells + 1520 ≤ room_1.cells)
    have hfb : slots + 13000 ≤ room_1.slots := (lw_num hsl : slots + 13000 ≤ room_1.slots)
    refine lw_switch Rel hs hrb X hN hT hlf hX hbl hL (j := j) (by omega) h5 hS hLH hl ⟨hfa, hfb⟩ _ (lw_and _).1 (fun H1 locs1 ls1 hS1 hLH1 hl1 => ?_)
    refine lv_iinc (k := 0) (v := nI (5 * (j + 1))) (lv' := [(5, .int (nI (5 * (j + 1)))), (0, .ref b), (1, .ref (ar 0)), (2, .ref q), (3, .ref ob), (4, .ref od)]) hx hb dL_law_2989 hl1 rfl (nI_add _ 5) (by decide) rfl (fun ls2 hl2 => ?_)
    refine lv_goto (tgt := 28) hx hb dL_law_2992 (by decide) ?_
    exact ih (j + 1) H1 locs1 _ _ ls2 (by omega) (by omega) (by omega) (by omega) hS1 hLH1 hl2
