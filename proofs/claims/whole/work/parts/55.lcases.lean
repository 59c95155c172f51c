/-! THE LAW'S CASES -/
theorem wid2 {c a b N : Nat} (h : Nat.ble (a + b) N = true) : c + a + b ≤ c + N := by
  have := Nat.le_of_ble_eq_true h
  omega
theorem wid3 {c a b d N : Nat} (h : Nat.ble (a + b + d) N = true) : c + a + b + d ≤ c + N := by
  have := Nat.le_of_ble_eq_true h
  omega
theorem bud2 {c k a d N R : Nat} (h : c + N ≤ R) (ha : Nat.ble (k + a + d) N = true) : c + k + a + d ≤ R := by
  have := Nat.le_of_ble_eq_true ha
  omega
theorem dc_nn {x : UInt64} (h : vf_n64 x) : x.toNat % 2 ^ 63 ≤ 9218868437227405312 := by
  have h1 : (x &&& 0x7fffffffffffffff).toNat ≤ (0x7ff0000000000000 : UInt64).toNat := UInt64.le_iff_toNat_le.mp h
  rw [UInt64.toNat_and, show (0x7fffffffffffffff : UInt64).toNat = 2 ^ 63 - 1 from rfl, Nat.and_two_pow_sub_one_eq_mod] at h1
  exact h1
theorem dc_eq {x : UInt64} (h : vf_n64 x) : Op.cmpValue (FP.dcmp x x) .l = 0 := by
  show Op.cmpValue (FP.Core.dcmp x x) .l = 0
  rw [FP.Core.dcmp_self ((FP.Core.ne_nan x).mpr (dc_nn h))]
  rfl
theorem dc_eq2 {x y : UInt64} (e : x = y) (h : vf_n64 y) : Op.cmpValue (FP.dcmp x y) .l = 0 := by
  subst e
  exact dc_eq h
set_option maxHeartbeats 4000000 in
theorem tc_setTemperature {p : Program} {l : Launch} {e : Env} {s : State} {m : MethodId} {args : Array Value} {below : List Frame} {meth : Method} {c : Code} {H : Heap} {locs : List Loc} {cells slots : Nat} {Q : State → Prop} {D : va_G} {tc : Nat → ClassId} {ls : Array Slot} {sa : Nat → Nat} {b L j : Nat} {xs : Nat → Int32} {i : Int32} {O : Nat → Nat} {q ob od : Nat} {f : Nat → Int64} {g : Nat → UInt64} {ad ar : Nat → Nat} {sp : Option Nat} {sd pd fd : Nat → Nat → Nat} {sums : Nat → Int64} {r w : Dt} {ns : Nat} {sw : Nat → Dt} {np : Nat} {pw : Nat → Dt} {nf : Nat} {fw : Nat → Dt} {spw : Dt} {t n : Nat → Nat} {rr : Nat → Nat → Nat} {ww : Dt} (Rel : RLT) (X : Cx p c s m meth cL_law 10 RL D tc) (hN : NC s) (hT : ST s.heap.size sa s s.heap) (hlf : l.stackTraces = false) (hX : va_X b L xs s s.heap) (hbl : b < s.heap.size) (hS : va_S (old s.heap.size) s.heap H locs) (hI : (LI D tc s.heap.size (sa 3) O q ob od f g ad ar sp sd pd fd sums r w ns sw np pw nf fw spw t n rr ww H)) (hR : Rel j r w sums ns sw np pw nf fw spw q t n rr ww) (hj : j < 512) (h1 : vp_in (i + 1) L) (h2 : vp_in (i + 2) L) (h3 : vp_in (i + 3) L) (h4 : vp_in (i + 4) L) (hl : lv_has ls 10 [(5, .int i), (0, .ref b), (1, .ref (ar 0)), (2, .ref q), (3, .ref ob), (4, .ref od)]) (hf : cells + 1520 ≤ room_1.cells ∧ slots + 13000 ≤ room_1.slots) (hs : SIM_setTemperature Rel) (kk : ∀ (H1 : Heap) (locs1 : List Loc) (ls1 : Array Slot), va_S (old s.heap.size) s.heap H1 locs1 → LH Rel D tc s.heap.size (sa 3) q ob od ad ar (j + 1) H1 → lv_has ls1 10 [(5, .int i), (0, .ref b), (1, .ref (ar 0)), (2, .ref q), (3, .ref ob), (4, .ref od)] → W p l e room_1 s m args below meth c H1 locs1 (cells + 1520) (slots + 13000) Q (F0 m 2989 ls1 [])) : W p l e room_1 s m args below meth c H locs cells slots Q (F0 m 248 ls []) := by
  have hx := X.1
  have hb := X.2.1
  unfold SIM_setTemperature at hs
  refine lv_aload_n hx hb dL_law_248 rfl (lv_at hl 2 rfl) ?_
  refine lv_aload_n hx hb dL_law_249 rfl (lv_at hl 1 rfl) ?_
  refine lv_iload hx hb dL_law_250 (lv_at hl 0 rfl) ?_
  refine lv_iconst (v := 1) hx hb dL_law_252 (by decide) ?_
  refine lv_iadd hx hb dL_law_253 ?_
  refine va_sld hx hb hX hbl (Nat.not_le.mpr hbl) hS h1 dL_law_254 ?_
  refine lv_aload_n hx hb dL_law_255 rfl (lv_at hl 1 rfl) ?_
  refine lv_iload hx hb dL_law_256 (lv_at hl 0 rfl) ?_
  refine lv_iconst (v := 2) hx hb dL_law_258 (by decide) ?_
  refine lv_iadd hx hb dL_law_259 ?_
  refine va_sld hx hb hX hbl (Nat.not_le.mpr hbl) hS h2 dL_law_260 ?_
  refine lv_aload_n hx hb dL_law_261 rfl (lv_at hl 4 rfl) ?_
  have hw := hs j r w sums ns sw np pw nf fw spw q t n rr ww hj hR (xs (i + 1).toNatClampNeg) (xs (i + 2).toNatClampNeg)
  refine lc_w (rest := []) X hN mw_163 hT hS hI (k_L_setTemperature l D tc s.heap.size sa H ob (xs (i + 1).toNatClampNeg) (xs (i + 2).toNatClampNeg) hI.1.1 (c_X8_setTemperature (l := l) (D := D) (tc := tc) (h0 := s.heap.size) (sa := sa) (H0 := H) (x1 := (xs (i + 1).toNatClampNeg)) (x2 := (xs (i + 2).toNatClampNeg)) (hBr := hI.1.1) (hBw := hI.1.2.1) (hDr := (fun _ h g => Rg.ne h g (by omega))) (hA0 := (fun _ h => h.2.1)) (hlf := hlf) (hw := hw)) (fun _ => rfl) hI.2.2.1.1 (fun h => Rg.ne h hI.2.2.1.2 (by omega)) (fun x h => h.elim (fun e => e.2.1) (fun e => e ▸ hI.2.2.1.2.2.1)) (fun _ h => h.1)) dL_law_262 hl.1 rfl rfl ⟨Nat.le_of_ble_eq_true rfl, Nat.le_of_ble_eq_true rfl⟩ (Nat.le_of_ble_eq_true rfl) ⟨bud0 hf.1 rfl, bud0 hf.2 rfl⟩ (fun H locs O f k1 w1 hS hI ho => ?_)
  refine W.eq (g2 := F0 m 265 ls [.int k1]) rfl ?_
  obtain ⟨a9, hw, hfa⟩ : ∃ a9 : Int32, MM_setTemperature Rel j r w1 sums ns sw np pw nf fw spw q t n rr ww (xs (i + 1).toNatClampNeg) (xs (i + 2).toNatClampNeg) k1 a9 ∧ (k1 = 0 → f 0 = a9.toInt64) := by
    rcases ho with ⟨u, hp, e1, e2, e3⟩ | ⟨k, hp, e1, e3⟩
    · subst e1; subst e3; exact ⟨u.1, hp, fun _ => e2⟩
    · subst e1; subst e3; exact ⟨0, hp.2, fun h => absurd h (by rcases hp.1 with rfl | rfl <;> decide)⟩
  refine lv_istore (lv' := [(6, .int k1), (5, .int i), (0, .ref b), (1, .ref (ar 0)), (2, .ref q), (3, .ref ob), (4, .ref od)]) hx hb dL_law_265 hl (by decide) rfl (fun ls hl => ?_)
  refine lv_aload_n hx hb dL_law_267 rfl (lv_at hl 4 rfl) ?_
  refine lv_aload_n hx hb dL_law_268 rfl (lv_at hl 2 rfl) ?_
  refine lv_iload hx hb dL_law_269 (lv_at hl 1 rfl) ?_
  refine lv_iconst (v := 1) hx hb dL_law_271 (by decide) ?_
  refine lv_iadd hx hb dL_law_272 ?_
  refine va_sld hx hb hX hbl (Nat.not_le.mpr hbl) hS h1 dL_law_273 ?_
  refine lv_aload_n hx hb dL_law_274 rfl (lv_at hl 2 rfl) ?_
  refine lv_iload hx hb dL_law_275 (lv_at hl 1 rfl) ?_
  refine lv_iconst (v := 2) hx hb dL_law_277 (by decide) ?_
  refine lv_iadd hx hb dL_law_278 ?_
  refine va_sld hx hb hX hbl (Nat.not_le.mpr hbl) hS h2 dL_law_279 ?_
  unfold MM_setTemperature at hw
  refine lm_w (rest := []) X m_L_168 hT hS hI (c_X13_setTemperature l D tc s.heap.size sa q (xs (i + 1).toNatClampNeg) (xs (i + 2).toNatClampNeg) H hI.2.1.1 hI.2.1.2 (fun _ h => h.2.1) hw) ((hI.2.1.1.one hI.2.1.2 rfl).recv X 0 rfl (q := (RX13, TX13, 5)) rfl) dL_law_280 hl.1 rfl rfl ⟨Nat.le_of_ble_eq_true rfl, Nat.le_of_ble_eq_true rfl⟩ (Nat.le_of_ble_eq_true rfl) ⟨bud1 hf.1 rfl, bud1 hf.2 rfl⟩ (fun u H locs O hp hS hI => ?_)
  obtain ⟨b9, w9⟩ := u
  dsimp only at hp hI
  refine W.eq (g2 := F0 m 283 ls [.int b9]) rfl ?_
  refine lv_istore (lv' := [(7, .int b9), (6, .int k1), (5, .int i), (0, .ref b), (1, .ref (ar 0)), (2, .ref q), (3, .ref ob), (4, .ref od)]) hx hb dL_law_283 hl (by decide) rfl (fun ls hl => ?_)
  refine lv_aload_n hx hb dL_law_285 rfl (lv_at hl 5 rfl) ?_
  refine lm_r (rest := []) X m_L_169 hT hS hI (c_X13_thrown l D tc s.heap.size sa q H hI.2.1.1 hI.2.1.2 (post := fun v => v = w9 q 0) rfl) ((hI.2.1.1.one hI.2.1.2 rfl).recv X 0 rfl (q := (RX13, TX13, 5)) rfl) dL_law_286 hl.1 rfl rfl ⟨Nat.le_of_ble_eq_true rfl, Nat.le_of_ble_eq_true rfl⟩ (Nat.le_of_ble_eq_true rfl) ⟨bud2 hf.1 rfl, bud2 hf.2 rfl⟩ (fun u locs hu hS => ?_)
  refine W.eq (g2 := F0 m 289 ls [.int k1]) (by rw [show u = k1 from (show u = w9 q 0 from hu).trans hp.1]; rfl) ?_
  have hR := hp.2.2
  refine lv_iload hx hb dL_law_289 (lv_at hl 1 rfl) ?_
  refine lv_icmp_eq (tgt := 296) hx hb dL_law_291 (by decide) (fun _ => ?_) (fun hc0 => absurd rfl hc0)
  refine lv_iload hx hb dL_law_296 (lv_at hl 1 rfl) ?_
  refine lv_if_ne (tgt := 313) hx hb dL_law_298 (by decide) (fun hc => ?_) (fun hc => ?_)
  · refine lv_goto (tgt := 2989) hx hb dL_law_313 (by decide) ?_
    refine W.widen (k := cells + 1520) (n := slots + 13000) (wid3 rfl) (wid3 rfl) ?_
    exact kk H locs ls hS ⟨_, _, _, _, _, _, _, _, _, _, _, _, _, _, _, _, _, _, _, _, _, hI, hR⟩ (lv_sub hl [2, 3, 4, 5, 6, 7] rfl)
  · have eab : a9 = b9 := hp.2.1 hc
    subst eab
    have hfa := hfa hc
    refine lv_aload_n hx hb dL_law_301 rfl (lv_at hl 6 rfl) ?_
    refine lv_iconst (v := 0) hx hb dL_law_302 (by decide) ?_
    refine x_lald X dL_law_303 hI.2.2.1.1 in01 ?_
    refine lv_iload hx hb dL_law_304 (lv_at hl 0 rfl) ?_
    refine lv_i2l (v := a9.toInt64) hx hb dL_law_306 rfl ?_
    refine W.lcmp hx hb dL_law_307 ?_
    refine lv_if_eq (tgt := 313) hx hb dL_law_308 (by decide) (fun _ => ?_) (fun hc0 => absurd (lgc_eq hfa) hc0)
    refine lv_goto (tgt := 2989) hx hb dL_law_313 (by decide) ?_
    refine W.widen (k := cells + 1520) (n := slots + 13000) (wid3 rfl) (wid3 rfl) ?_
    exact kk H locs ls hS ⟨_, _, _, _, _, _, _, _, _, _, _, _, _, _, _, _, _, _, _, _, _, hI, hR⟩ (lv_sub hl [2, 3, 4, 5, 6, 7] rfl)
set_option maxHeartbeats 4000000 in
theorem tc_getTemperature {p : Program} {l : Launch} {e : Env} {s : State} {m : MethodId} {args : Array Value} {below : List Frame} {meth : Method} {c : Code} {H : Heap} {locs : List Loc} {cells slots : Nat} {Q : State → Prop} {D : va_G} {tc : Nat → ClassId} {ls : Array Slot} {sa : Nat → Nat} {b L j : Nat} {xs : Nat → Int32} {i : Int32} {O : Nat → Nat} {q ob od : Nat} {f : Nat → Int64} {g : Nat → UInt64} {ad ar : Nat → Nat} {sp : Option Nat} {sd pd fd : Nat → Nat → Nat} {sums : Nat → Int64} {r w : Dt} {ns : Nat} {sw : Nat → Dt} {np : Nat} {pw : Nat → Dt} {nf : Nat} {fw : Nat → Dt} {spw : Dt} {t n : Nat → Nat} {rr : Nat → Nat → Nat} {ww : Dt} (Rel : RLT) (X : Cx p c s m meth cL_law 10 RL D tc) (hN : NC s) (hT : ST s.heap.size sa s s.heap) (hlf : l.stackTraces = false) (hX : va_X b L xs s s.heap) (hbl : b < s.heap.size) (hS : va_S (old s.heap.size) s.heap H locs) (hI : (LI D tc s.heap.size (sa 3) O q ob od f g ad ar sp sd pd fd sums r w ns sw np pw nf fw spw t n rr ww H)) (hR : Rel j r w sums ns sw np pw nf fw spw q t n rr ww) (hj : j < 512) (h1 : vp_in (i + 1) L) (h2 : vp_in (i + 2) L) (h3 : vp_in (i + 3) L) (h4 : vp_in (i + 4) L) (hl : lv_has ls 10 [(5, .int i), (0, .ref b), (1, .ref (ar 0)), (2, .ref q), (3, .ref ob), (4, .ref od)]) (hf : cells + 1520 ≤ room_1.cells ∧ slots + 13000 ≤ room_1.slots) (hs : SIM_getTemperature Rel) (kk : ∀ (H1 : Heap) (locs1 : List Loc) (ls1 : Array Slot), va_S (old s.heap.size) s.heap H1 locs1 → LH Rel D tc s.heap.size (sa 3) q ob od ad ar (j + 1) H1 → lv_has ls1 10 [(5, .int i), (0, .ref b), (1, .ref (ar 0)), (2, .ref q), (3, .ref ob), (4, .ref od)] → W p l e room_1 s m args below meth c H1 locs1 (cells + 1520) (slots + 13000) Q (F0 m 2989 ls1 [])) : W p l e room_1 s m args below meth c H locs cells slots Q (F0 m 316 ls []) := by
  have hx := X.1
  have hb := X.2.1
  unfold SIM_getTemperature at hs
  refine lv_aload_n hx hb dL_law_316 rfl (lv_at hl 2 rfl) ?_
  refine lv_aload_n hx hb dL_law_317 rfl (lv_at hl 1 rfl) ?_
  refine lv_iload hx hb dL_law_318 (lv_at hl 0 rfl) ?_
  refine lv_iconst (v := 1) hx hb dL_law_320 (by decide) ?_
  refine lv_iadd hx hb dL_law_321 ?_
  refine va_sld hx hb hX hbl (Nat.not_le.mpr hbl) hS h1 dL_law_322 ?_
  refine lv_aload_n hx hb dL_law_323 rfl (lv_at hl 4 rfl) ?_
  have hw := hs j r w sums ns sw np pw nf fw spw q t n rr ww hj hR (xs (i + 1).toNatClampNeg)
  refine lc_ro (rest := []) X hN mw_172 hT hS hI (k_L_getTemperature l D tc s.heap.size sa H ob (xs (i + 1).toNatClampNeg) hI.1.1 (c_X8_getTemperature (l := l) (D := D) (tc := tc) (h0 := s.heap.size) (sa := sa) (H0 := H) (x1 := (xs (i + 1).toNatClampNeg)) (hBr := hI.1.1) (hBw := hI.1.2.1) (hlf := hlf) (hw := hw)) (fun _ => rfl) hI.2.2.1.1 (fun h => h) (fun x h => h.elim False.elim (fun e => e ▸ hI.2.2.1.2.2.1)) (fun _ h => h.1)) dL_law_324 hl.1 rfl rfl ⟨Nat.le_of_ble_eq_true rfl, Nat.le_of_ble_eq_true rfl⟩ (Nat.le_of_ble_eq_true rfl) ⟨bud0 hf.1 rfl, bud0 hf.2 rfl⟩ (fun H locs O f k1 hS hI ho => ?_)
  refine W.eq (g2 := F0 m 327 ls [.int k1]) rfl ?_
  obtain ⟨a9, hw, hfa⟩ : ∃ a9 : Int32, MM_getTemperature Rel j r w sums ns sw np pw nf fw spw q t n rr ww (xs (i + 1).toNatClampNeg) k1 a9 ∧ (k1 = 0 → f 0 = a9.toInt64) := by
    rcases ho with ⟨u, hp, e1, e2⟩ | ⟨k, hp, e1⟩
    · subst e1; exact ⟨u, hp, fun _ => e2⟩
    · subst e1; exact ⟨0, hp.2, fun h => absurd h (by have ek := hp.1; subst ek; decide)⟩
  refine lv_istore (lv' := [(6, .int k1), (5, .int i), (0, .ref b), (1, .ref (ar 0)), (2, .ref q), (3, .ref ob), (4, .ref od)]) hx hb dL_law_327 hl (by decide) rfl (fun ls hl => ?_)
  refine lv_aload_n hx hb dL_law_329 rfl (lv_at hl 4 rfl) ?_
  refine lv_aload_n hx hb dL_law_330 rfl (lv_at hl 2 rfl) ?_
  refine lv_iload hx hb dL_law_331 (lv_at hl 1 rfl) ?_
  refine lv_iconst (v := 1) hx hb dL_law_333 (by decide) ?_
  refine lv_iadd hx hb dL_law_334 ?_
  refine va_sld hx hb hX hbl (Nat.not_le.mpr hbl) hS h1 dL_law_335 ?_
  unfold MM_getTemperature at hw
  refine lm_w (rest := []) X m_L_175 hT hS hI (c_X13_getTemperature l D tc s.heap.size sa q (xs (i + 1).toNatClampNeg) H hI.2.1.1 hI.2.1.2 (fun _ h => h.2.1) hw) ((hI.2.1.1.one hI.2.1.2 rfl).recv X 0 rfl (q := (RX13, TX13, 5)) rfl) dL_law_336 hl.1 rfl rfl ⟨Nat.le_of_ble_eq_true rfl, Nat.le_of_ble_eq_true rfl⟩ (Nat.le_of_ble_eq_true rfl) ⟨bud1 hf.1 rfl, bud1 hf.2 rfl⟩ (fun u H locs O hp hS hI => ?_)
  obtain ⟨b9, w9⟩ := u
  dsimp only at hp hI
  refine W.eq (g2 := F0 m 339 ls [.int b9]) rfl ?_
  refine lv_istore (lv' := [(7, .int b9), (6, .int k1), (5, .int i), (0, .ref b), (1, .ref (ar 0)), (2, .ref q), (3, .ref ob), (4, .ref od)]) hx hb dL_law_339 hl (by decide) rfl (fun ls hl => ?_)
  refine lv_aload_n hx hb dL_law_341 rfl (lv_at hl 5 rfl) ?_
  refine lm_r (rest := []) X m_L_169 hT hS hI (c_X13_thrown l D tc s.heap.size sa q H hI.2.1.1 hI.2.1.2 (post := fun v => v = w9 q 0) rfl) ((hI.2.1.1.one hI.2.1.2 rfl).recv X 0 rfl (q := (RX13, TX13, 5)) rfl) dL_law_342 hl.1 rfl rfl ⟨Nat.le_of_ble_eq_true rfl, Nat.le_of_ble_eq_true rfl⟩ (Nat.le_of_ble_eq_true rfl) ⟨bud2 hf.1 rfl, bud2 hf.2 rfl⟩ (fun u locs hu hS => ?_)
  refine W.eq (g2 := F0 m 345 ls [.int k1]) (by rw [show u = k1 from (show u = w9 q 0 from hu).trans hp.1]; rfl) ?_
  have hR := hp.2.2
  refine lv_iload hx hb dL_law_345 (lv_at hl 1 rfl) ?_
  refine lv_icmp_eq (tgt := 352) hx hb dL_law_347 (by decide) (fun _ => ?_) (fun hc0 => absurd rfl hc0)
  refine lv_iload hx hb dL_law_352 (lv_at hl 1 rfl) ?_
  refine lv_if_ne (tgt := 369) hx hb dL_law_354 (by decide) (fun hc => ?_) (fun hc => ?_)
  · refine lv_goto (tgt := 2989) hx hb dL_law_369 (by decide) ?_
    refine W.widen (k := cells + 1520) (n := slots + 13000) (wid3 rfl) (wid3 rfl) ?_
    exact kk H locs ls hS ⟨_, _, _, _, _, _, _, _, _, _, _, _, _, _, _, _, _, _, _, _, _, hI, hR⟩ (lv_sub hl [2, 3, 4, 5, 6, 7] rfl)
  · have eab : a9 = b9 := hp.2.1 hc
    subst eab
    have hfa := hfa hc
    refine lv_aload_n hx hb dL_law_357 rfl (lv_at hl 6 rfl) ?_
    refine lv_iconst (v := 0) hx hb dL_law_358 (by decide) ?_
    refine x_lald X dL_law_359 hI.2.2.1.1 in01 ?_
    refine lv_iload hx hb dL_law_360 (lv_at hl 0 rfl) ?_
    refine lv_i2l (v := a9.toInt64) hx hb dL_law_362 rfl ?_
    refine W.lcmp hx hb dL_law_363 ?_
    refine lv_if_eq (tgt := 369) hx hb dL_law_364 (by decide) (fun _ => ?_) (fun hc0 => absurd (lgc_eq hfa) hc0)
    refine lv_goto (tgt := 2989) hx hb dL_law_369 (by decide) ?_
    refine W.widen (k := cells + 1520) (n := slots + 13000) (wid3 rfl) (wid3 rfl) ?_
    exact kk H locs ls hS ⟨_, _, _, _, _, _, _, _, _, _, _, _, _, _, _, _, _, _, _, _, _, hI, hR⟩ (lv_sub hl [2, 3, 4, 5, 6, 7] rfl)
set_option maxHeartbeats 4000000 in
theorem tc_setVapour {p : Program} {l : Launch} {e : Env} {s : State} {m : MethodId} {args : Array Value} {below : List Frame} {meth : Method} {c : Code} {H : Heap} {locs : List Loc} {cells slots : Nat} {Q : State → Prop} {D : va_G} {tc : Nat → ClassId} {ls : Array Slot} {sa : Nat → Nat} {b L j : Nat} {xs : Nat → Int32} {i : Int32} {O : Nat → Nat} {q ob od : Nat} {f : Nat → Int64} {g : Nat → UInt64} {ad ar : Nat → Nat} {sp : Option Nat} {sd pd fd : Nat → Nat → Nat} {sums : Nat → Int64} {r w : Dt} {ns : Nat} {sw : Nat → Dt} {np : Nat} {pw : Nat → Dt} {nf : Nat} {fw : Nat → Dt} {spw : Dt} {t n : Nat → Nat} {rr : Nat → Nat → Nat} {ww : Dt} (Rel : RLT) (X : Cx p c s m meth cL_law 10 RL D tc) (hN : NC s) (hT : ST s.heap.size sa s s.heap) (hlf : l.stackTraces = false) (hX : va_X b L xs s s.heap) (hbl : b < s.heap.size) (hS : va_S (old s.heap.size) s.heap H locs) (hI : (LI D tc s.heap.size (sa 3) O q ob od f g ad ar sp sd pd fd sums r w ns sw np pw nf fw spw t n rr ww H)) (hR : Rel j r w sums ns sw np pw nf fw spw q t n rr ww) (hj : j < 512) (h1 : vp_in (i + 1) L) (h2 : vp_in (i + 2) L) (h3 : vp_in (i + 3) L) (h4 : vp_in (i + 4) L) (hl : lv_has ls 10 [(5, .int i), (0, .ref b), (1, .ref (ar 0)), (2, .ref q), (3, .ref ob), (4, .ref od)]) (hf : cells + 1520 ≤ room_1.cells ∧ slots + 13000 ≤ room_1.slots) (hs : SIM_setVapour Rel) (kk : ∀ (H1 : Heap) (locs1 : List Loc) (ls1 : Array Slot), va_S (old s.heap.size) s.heap H1 locs1 → LH Rel D tc s.heap.size (sa 3) q ob od ad ar (j + 1) H1 → lv_has ls1 10 [(5, .int i), (0, .ref b), (1, .ref (ar 0)), (2, .ref q), (3, .ref ob), (4, .ref od)] → W p l e room_1 s m args below meth c H1 locs1 (cells + 1520) (slots + 13000) Q (F0 m 2989 ls1 [])) : W p l e room_1 s m args below meth c H locs cells slots Q (F0 m 372 ls []) := by
  have hx := X.1
  have hb := X.2.1
  unfold SIM_setVapour at hs
  refine lv_aload_n hx hb dL_law_372 rfl (lv_at hl 2 rfl) ?_
  refine lv_aload_n hx hb dL_law_373 rfl (lv_at hl 1 rfl) ?_
  refine lv_iload hx hb dL_law_374 (lv_at hl 0 rfl) ?_
  refine lv_iconst (v := 1) hx hb dL_law_376 (by decide) ?_
  refine lv_iadd hx hb dL_law_377 ?_
  refine va_sld hx hb hX hbl (Nat.not_le.mpr hbl) hS h1 dL_law_378 ?_
  refine lv_aload_n hx hb dL_law_379 rfl (lv_at hl 1 rfl) ?_
  refine lv_iload hx hb dL_law_380 (lv_at hl 0 rfl) ?_
  refine lv_iconst (v := 2) hx hb dL_law_382 (by decide) ?_
  refine lv_iadd hx hb dL_law_383 ?_
  refine va_sld hx hb hX hbl (Nat.not_le.mpr hbl) hS h2 dL_law_384 ?_
  refine lv_aload_n hx hb dL_law_385 rfl (lv_at hl 1 rfl) ?_
  refine lv_iload hx hb dL_law_386 (lv_at hl 0 rfl) ?_
  refine lv_iconst (v := 3) hx hb dL_law_388 (by decide) ?_
  refine lv_iadd hx hb dL_law_389 ?_
  refine va_sld hx hb hX hbl (Nat.not_le.mpr hbl) hS h3 dL_law_390 ?_
  refine lv_aload_n hx hb dL_law_391 rfl (lv_at hl 4 rfl) ?_
  have hw := hs j r w sums ns sw np pw nf fw spw q t n rr ww hj hR (xs (i + 1).toNatClampNeg) (xs (i + 2).toNatClampNeg) (xs (i + 3).toNatClampNeg)
  refine lc_w (rest := []) X hN mw_176 hT hS hI (k_L_setVapour l D tc s.heap.size sa H ob (xs (i + 1).toNatClampNeg) (xs (i + 2).toNatClampNeg) (xs (i + 3).toNatClampNeg) hI.1.1 (c_X8_setVapour (l := l) (D := D) (tc := tc) (h0 := s.heap.size) (sa := sa) (H0 := H) (x1 := (xs (i + 1).toNatClampNeg)) (x2 := (xs (i + 2).toNatClampNeg)) (x3 := (xs (i + 3).toNatClampNeg)) (hBr := hI.1.1) (hBw := hI.1.2.1) (hDr := (fun _ h g => Rg.ne h g (by omega))) (hA0 := (fun _ h => h.2.1)) (hlf := hlf) (hw := hw)) (fun _ => rfl) hI.2.2.1.1 (fun h => Rg.ne h hI.2.2.1.2 (by omega)) (fun x h => h.elim (fun e => e.2.1) (fun e => e ▸ hI.2.2.1.2.2.1)) (fun _ h => h.1)) dL_law_392 hl.1 rfl rfl ⟨Nat.le_of_ble_eq_true rfl, Nat.le_of_ble_eq_true rfl⟩ (Nat.le_of_ble_eq_true rfl) ⟨bud0 hf.1 rfl, bud0 hf.2 rfl⟩ (fun H locs O f k1 w1 hS hI ho => ?_)
  refine W.eq (g2 := F0 m 395 ls [.int k1]) rfl ?_
  obtain ⟨a9, hw, hfa⟩ : ∃ a9 : Int32, MM_setVapour Rel j r w1 sums ns sw np pw nf fw spw q t n rr ww (xs (i + 1).toNatClampNeg) (xs (i + 2).toNatClampNeg) (xs (i + 3).toNatClampNeg) k1 a9 ∧ (k1 = 0 → f 0 = a9.toInt64) := by
    rcases ho with ⟨u, hp, e1, e2, e3⟩ | ⟨k, hp, e1, e3⟩
    · subst e1; subst e3; exact ⟨u.1, hp, fun _ => e2⟩
    · subst e1; subst e3; exact ⟨0, hp.2, fun h => absurd h (by rcases hp.1 with rfl | rfl <;> decide)⟩
  refine lv_istore (lv' := [(6, .int k1), (5, .int i), (0, .ref b), (1, .ref (ar 0)), (2, .ref q), (3, .ref ob), (4, .ref od)]) hx hb dL_law_395 hl (by decide) rfl (fun ls hl => ?_)
  refine lv_aload_n hx hb dL_law_397 rfl (lv_at hl 4 rfl) ?_
  refine lv_aload_n hx hb dL_law_398 rfl (lv_at hl 2 rfl) ?_
  refine lv_iload hx hb dL_law_399 (lv_at hl 1 rfl) ?_
  refine lv_iconst (v := 1) hx hb dL_law_401 (by decide) ?_
  refine lv_iadd hx hb dL_law_402 ?_
  refine va_sld hx hb hX hbl (Nat.not_le.mpr hbl) hS h1 dL_law_403 ?_
  refine lv_aload_n hx hb dL_law_404 rfl (lv_at hl 2 rfl) ?_
  refine lv_iload hx hb dL_law_405 (lv_at hl 1 rfl) ?_
  refine lv_iconst (v := 2) hx hb dL_law_407 (by decide) ?_
  refine lv_iadd hx hb dL_law_408 ?_
  refine va_sld hx hb hX hbl (Nat.not_le.mpr hbl) hS h2 dL_law_409 ?_
  refine lv_aload_n hx hb dL_law_410 rfl (lv_at hl 2 rfl) ?_
  refine lv_iload hx hb dL_law_411 (lv_at hl 1 rfl) ?_
  refine lv_iconst (v := 3) hx hb dL_law_413 (by decide) ?_
  refine lv_iadd hx hb dL_law_414 ?_
  refine va_sld hx hb hX hbl (Nat.not_le.mpr hbl) hS h3 dL_law_415 ?_
  unfold MM_setVapour at hw
  refine lm_w (rest := []) X m_L_179 hT hS hI (c_X13_setVapour l D tc s.heap.size sa q (xs (i + 1).toNatClampNeg) (xs (i + 2).toNatClampNeg) (xs (i + 3).toNatClampNeg) H hI.2.1.1 hI.2.1.2 (fun _ h => h.2.1) hw) ((hI.2.1.1.one hI.2.1.2 rfl).recv X 0 rfl (q := (RX13, TX13, 5)) rfl) dL_law_416 hl.1 rfl rfl ⟨Nat.le_of_ble_eq_true rfl, Nat.le_of_ble_eq_true rfl⟩ (Nat.le_of_ble_eq_true rfl) ⟨bud1 hf.1 rfl, bud1 hf.2 rfl⟩ (fun u H locs O hp hS hI => ?_)
  obtain ⟨b9, w9⟩ := u
  dsimp only at hp hI
  refine W.eq (g2 := F0 m 419 ls [.int b9]) rfl ?_
  refine lv_istore (lv' := [(7, .int b9), (6, .int k1), (5, .int i), (0, .ref b), (1, .ref (ar 0)), (2, .ref q), (3, .ref ob), (4, .ref od)]) hx hb dL_law_419 hl (by decide) rfl (fun ls hl => ?_)
  refine lv_aload_n hx hb dL_law_421 rfl (lv_at hl 5 rfl) ?_
  refine lm_r (rest := []) X m_L_169 hT hS hI (c_X13_thrown l D tc s.heap.size sa q H hI.2.1.1 hI.2.1.2 (post := fun v => v = w9 q 0) rfl) ((hI.2.1.1.one hI.2.1.2 rfl).recv X 0 rfl (q := (RX13, TX13, 5)) rfl) dL_law_422 hl.1 rfl rfl ⟨Nat.le_of_ble_eq_true rfl, Nat.le_of_ble_eq_true rfl⟩ (Nat.le_of_ble_eq_true rfl) ⟨bud2 hf.1 rfl, bud2 hf.2 rfl⟩ (fun u locs hu hS => ?_)
  refine W.eq (g2 := F0 m 425 ls [.int k1]) (by rw [show u = k1 from (show u = w9 q 0 from hu).trans hp.1]; rfl) ?_
  have hR := hp.2.2
  refine lv_iload hx hb dL_law_425 (lv_at hl 1 rfl) ?_
  refine lv_icmp_eq (tgt := 432) hx hb dL_law_427 (by decide) (fun _ => ?_) (fun hc0 => absurd rfl hc0)
  refine lv_iload hx hb dL_law_432 (lv_at hl 1 rfl) ?_
  refine lv_if_ne (tgt := 449) hx hb dL_law_434 (by decide) (fun hc => ?_) (fun hc => ?_)
  · refine lv_goto (tgt := 2989) hx hb dL_law_449 (by decide) ?_
    refine W.widen (k := cells + 1520) (n := slots + 13000) (wid3 rfl) (wid3 rfl) ?_
    exact kk H locs ls hS ⟨_, _, _, _, _, _, _, _, _, _, _, _, _, _, _, _, _, _, _, _, _, hI, hR⟩ (lv_sub hl [2, 3, 4, 5, 6, 7] rfl)
  · have eab : a9 = b9 := hp.2.1 hc
    subst eab
    have hfa := hfa hc
    refine lv_aload_n hx hb dL_law_437 rfl (lv_at hl 6 rfl) ?_
    refine lv_iconst (v := 0) hx hb dL_law_438 (by decide) ?_
    refine x_lald X dL_law_439 hI.2.2.1.1 in01 ?_
    refine lv_iload hx hb dL_law_440 (lv_at hl 0 rfl) ?_
    refine lv_i2l (v := a9.toInt64) hx hb dL_law_442 rfl ?_
    refine W.lcmp hx hb dL_law_443 ?_
    refine lv_if_eq (tgt := 449) hx hb dL_law_444 (by decide) (fun _ => ?_) (fun hc0 => absurd (lgc_eq hfa) hc0)
    refine lv_goto (tgt := 2989) hx hb dL_law_449 (by decide) ?_
    refine W.widen (k := cells + 1520) (n := slots + 13000) (wid3 rfl) (wid3 rfl) ?_
    exact kk H locs ls hS ⟨_, _, _, _, _, _, _, _, _, _, _, _, _, _, _, _, _, _, _, _, _, hI, hR⟩ (lv_sub hl [2, 3, 4, 5, 6, 7] rfl)
set_option maxHeartbeats 4000000 in
theorem tc_getVapour {p : Program} {l : Launch} {e : Env} {s : State} {m : MethodId} {args : Array Value} {below : List Frame} {meth : Method} {c : Code} {H : Heap} {locs : List Loc} {cells slots : Nat} {Q : State → Prop} {D : va_G} {tc : Nat → ClassId} {ls : Array Slot} {sa : Nat → Nat} {b L j : Nat} {xs : Nat → Int32} {i : Int32} {O : Nat → Nat} {q ob od : Nat} {f : Nat → Int64} {g : Nat → UInt64} {ad ar : Nat → Nat} {sp : Option Nat} {sd pd fd : Nat → Nat → Nat} {sums : Nat → Int64} {r w : Dt} {ns : Nat} {sw : Nat → Dt} {np : Nat} {pw : Nat → Dt} {nf : Nat} {fw : Nat → Dt} {spw : Dt} {t n : Nat → Nat} {rr : Nat → Nat → Nat} {ww : Dt} (Rel : RLT) (X : Cx p c s m meth cL_law 10 RL D tc) (hN : NC s) (hT : ST s.heap.size sa s s.heap) (hlf : l.stackTraces = false) (hX : va_X b L xs s s.heap) (hbl : b < s.heap.size) (hS : va_S (old s.heap.size) s.heap H locs) (hI : (LI D tc s.heap.size (sa 3) O q ob od f g ad ar sp sd pd fd sums r w ns sw np pw nf fw spw t n rr ww H)) (hR : Rel j r w sums ns sw np pw nf fw spw q t n rr ww) (hj : j < 512) (h1 : vp_in (i + 1) L) (h2 : vp_in (i + 2) L) (h3 : vp_in (i + 3) L) (h4 : vp_in (i + 4) L) (hl : lv_has ls 10 [(5, .int i), (0, .ref b), (1, .ref (ar 0)), (2, .ref q), (3, .ref ob), (4, .ref od)]) (hf : cells + 1520 ≤ room_1.cells ∧ slots + 13000 ≤ room_1.slots) (hs : SIM_getVapour Rel) (kk : ∀ (H1 : Heap) (locs1 : List Loc) (ls1 : Array Slot), va_S (old s.heap.size) s.heap H1 locs1 → LH Rel D tc s.heap.size (sa 3) q ob od ad ar (j + 1) H1 → lv_has ls1 10 [(5, .int i), (0, .ref b), (1, .ref (ar 0)), (2, .ref q), (3, .ref ob), (4, .ref od)] → W p l e room_1 s m args below meth c H1 locs1 (cells + 1520) (slots + 13000) Q (F0 m 2989 ls1 [])) : W p l e room_1 s m args below meth c H locs cells slots Q (F0 m 452 ls []) := by
  have hx := X.1
  have hb := X.2.1
  unfold SIM_getVapour at hs
  refine lv_aload_n hx hb dL_law_452 rfl (lv_at hl 2 rfl) ?_
  refine lv_aload_n hx hb dL_law_453 rfl (lv_at hl 1 rfl) ?_
  refine lv_iload hx hb dL_law_454 (lv_at hl 0 rfl) ?_
  refine lv_iconst (v := 1) hx hb dL_law_456 (by decide) ?_
  refine lv_iadd hx hb dL_law_457 ?_
  refine va_sld hx hb hX hbl (Nat.not_le.mpr hbl) hS h1 dL_law_458 ?_
  refine lv_aload_n hx hb dL_law_459 rfl (lv_at hl 1 rfl) ?_
  refine lv_iload hx hb dL_law_460 (lv_at hl 0 rfl) ?_
  refine lv_iconst (v := 2) hx hb dL_law_462 (by decide) ?_
  refine lv_iadd hx hb dL_law_463 ?_
  refine va_sld hx hb hX hbl (Nat.not_le.mpr hbl) hS h2 dL_law_464 ?_
  refine lv_aload_n hx hb dL_law_465 rfl (lv_at hl 4 rfl) ?_
  have hw := hs j r w sums ns sw np pw nf fw spw q t n rr ww hj hR (xs (i + 1).toNatClampNeg) (xs (i + 2).toNatClampNeg)
  refine lc_ro (rest := []) X hN mw_180 hT hS hI (k_L_getVapour l D tc s.heap.size sa H ob (xs (i + 1).toNatClampNeg) (xs (i + 2).toNatClampNeg) hI.1.1 (c_X8_getVapour (l := l) (D := D) (tc := tc) (h0 := s.heap.size) (sa := sa) (H0 := H) (x1 := (xs (i + 1).toNatClampNeg)) (x2 := (xs (i + 2).toNatClampNeg)) (hBr := hI.1.1) (hBw := hI.1.2.1) (hlf := hlf) (hw := hw)) (fun _ => rfl) hI.2.2.1.1 (fun h => h) (fun x h => h.elim False.elim (fun e => e ▸ hI.2.2.1.2.2.1)) (fun _ h => h.1)) dL_law_466 hl.1 rfl rfl ⟨Nat.le_of_ble_eq_true rfl, Nat.le_of_ble_eq_true rfl⟩ (Nat.le_of_ble_eq_true rfl) ⟨bud0 hf.1 rfl, bud0 hf.2 rfl⟩ (fun H locs O f k1 hS hI ho => ?_)
  refine W.eq (g2 := F0 m 469 ls [.int k1]) rfl ?_
  obtain ⟨a9, hw, hfa⟩ : ∃ a9 : Int32, MM_getVapour Rel j r w sums ns sw np pw nf fw spw q t n rr ww (xs (i + 1).toNatClampNeg) (xs (i + 2).toNatClampNeg) k1 a9 ∧ (k1 = 0 → f 0 = a9.toInt64) := by
    rcases ho with ⟨u, hp, e1, e2⟩ | ⟨k, hp, e1⟩
    · subst e1; exact ⟨u, hp, fun _ => e2⟩
    · subst e1; exact ⟨0, hp.2, fun h => absurd h (by have ek := hp.1; subst ek; decide)⟩
  refine lv_istore (lv' := [(6, .int k1), (5, .int i), (0, .ref b), (1, .ref (ar 0)), (2, .ref q), (3, .ref ob), (4, .ref od)]) hx hb dL_law_469 hl (by decide) rfl (fun ls hl => ?_)
  refine lv_aload_n hx hb dL_law_471 rfl (lv_at hl 4 rfl) ?_
  refine lv_aload_n hx hb dL_law_472 rfl (lv_at hl 2 rfl) ?_
  refine lv_iload hx hb dL_law_473 (lv_at hl 1 rfl) ?_
  refine lv_iconst (v := 1) hx hb dL_law_475 (by decide) ?_
  refine lv_iadd hx hb dL_law_476 ?_
  refine va_sld hx hb hX hbl (Nat.not_le.mpr hbl) hS h1 dL_law_477 ?_
  refine lv_aload_n hx hb dL_law_478 rfl (lv_at hl 2 rfl) ?_
  refine lv_iload hx hb dL_law_479 (lv_at hl 1 rfl) ?_
  refine lv_iconst (v := 2) hx hb dL_law_481 (by decide) ?_
  refine lv_iadd hx hb dL_law_482 ?_
  refine va_sld hx hb hX hbl (Nat.not_le.mpr hbl) hS h2 dL_law_483 ?_
  unfold MM_getVapour at hw
  refine lm_w (rest := []) X m_L_182 hT hS hI (c_X13_getVapour l D tc s.heap.size sa q (xs (i + 1).toNatClampNeg) (xs (i + 2).toNatClampNeg) H hI.2.1.1 hI.2.1.2 (fun _ h => h.2.1) hw) ((hI.2.1.1.one hI.2.1.2 rfl).recv X 0 rfl (q := (RX13, TX13, 5)) rfl) dL_law_484 hl.1 rfl rfl ⟨Nat.le_of_ble_eq_true rfl, Nat.le_of_ble_eq_true rfl⟩ (Nat.le_of_ble_eq_true rfl) ⟨bud1 hf.1 rfl, bud1 hf.2 rfl⟩ (fun u H locs O hp hS hI => ?_)
  obtain ⟨b9, w9⟩ := u
  dsimp only at hp hI
  refine W.eq (g2 := F0 m 487 ls [.int b9]) rfl ?_
  refine lv_istore (lv' := [(7, .int b9), (6, .int k1), (5, .int i), (0, .ref b), (1, .ref (ar 0)), (2, .ref q), (3, .ref ob), (4, .ref od)]) hx hb dL_law_487 hl (by decide) rfl (fun ls hl => ?_)
  refine lv_aload_n hx hb dL_law_489 rfl (lv_at hl 5 rfl) ?_
  refine lm_r (rest := []) X m_L_169 hT hS hI (c_X13_thrown l D tc s.heap.size sa q H hI.2.1.1 hI.2.1.2 (post := fun v => v = w9 q 0) rfl) ((hI.2.1.1.one hI.2.1.2 rfl).recv X 0 rfl (q := (RX13, TX13, 5)) rfl) dL_law_490 hl.1 rfl rfl ⟨Nat.le_of_ble_eq_true rfl, Nat.le_of_ble_eq_true rfl⟩ (Nat.le_of_ble_eq_true rfl) ⟨bud2 hf.1 rfl, bud2 hf.2 rfl⟩ (fun u locs hu hS => ?_)
  refine W.eq (g2 := F0 m 493 ls [.int k1]) (by rw [show u = k1 from (show u = w9 q 0 from hu).trans hp.1]; rfl) ?_
  have hR := hp.2.2
  refine lv_iload hx hb dL_law_493 (lv_at hl 1 rfl) ?_
  refine lv_icmp_eq (tgt := 500) hx hb dL_law_495 (by decide) (fun _ => ?_) (fun hc0 => absurd rfl hc0)
  refine lv_iload hx hb dL_law_500 (lv_at hl 1 rfl) ?_
  refine lv_if_ne (tgt := 517) hx hb dL_law_502 (by decide) (fun hc => ?_) (fun hc => ?_)
  · refine lv_goto (tgt := 2989) hx hb dL_law_517 (by decide) ?_
    refine W.widen (k := cells + 1520) (n := slots + 13000) (wid3 rfl) (wid3 rfl) ?_
    exact kk H locs ls hS ⟨_, _, _, _, _, _, _, _, _, _, _, _, _, _, _, _, _, _, _, _, _, hI, hR⟩ (lv_sub hl [2, 3, 4, 5, 6, 7] rfl)
  · have eab : a9 = b9 := hp.2.1 hc
    subst eab
    have hfa := hfa hc
    refine lv_aload_n hx hb dL_law_505 rfl (lv_at hl 6 rfl) ?_
    refine lv_iconst (v := 0) hx hb dL_law_506 (by decide) ?_
    refine x_lald X dL_law_507 hI.2.2.1.1 in01 ?_
    refine lv_iload hx hb dL_law_508 (lv_at hl 0 rfl) ?_
    refine lv_i2l (v := a9.toInt64) hx hb dL_law_510 rfl ?_
    refine W.lcmp hx hb dL_law_511 ?_
    refine lv_if_eq (tgt := 517) hx hb dL_law_512 (by decide) (fun _ => ?_) (fun hc0 => absurd (lgc_eq hfa) hc0)
    refine lv_goto (tgt := 2989) hx hb dL_law_517 (by decide) ?_
    refine W.widen (k := cells + 1520) (n := slots + 13000) (wid3 rfl) (wid3 rfl) ?_
    exact kk H locs ls hS ⟨_, _, _, _, _, _, _, _, _, _, _, _, _, _, _, _, _, _, _, _, _, hI, hR⟩ (lv_sub hl [2, 3, 4, 5, 6, 7] rfl)
set_option maxHeartbeats 4000000 in
theorem tc_getIce {p : Program} {l : Launch} {e : Env} {s : State} {m : MethodId} {args : Array Value} {below : List Frame} {meth : Method} {c : Code} {H : Heap} {locs : List Loc} {cells slots : Nat} {Q : State → Prop} {D : va_G} {tc : Nat → ClassId} {ls : Array Slot} {sa : Nat → Nat} {b L j : Nat} {xs : Nat → Int32} {i : Int32} {O : Nat → Nat} {q ob od : Nat} {f : Nat → Int64} {g : Nat → UInt64} {ad ar : Nat → Nat} {sp : Option Nat} {sd pd fd : Nat → Nat → Nat} {sums : Nat → Int64} {r w : Dt} {ns : Nat} {sw : Nat → Dt} {np : Nat} {pw : Nat → Dt} {nf : Nat} {fw : Nat → Dt} {spw : Dt} {t n : Nat → Nat} {rr : Nat → Nat → Nat} {ww : Dt} (Rel : RLT) (X : Cx p c s m meth cL_law 10 RL D tc) (hN : NC s) (hT : ST s.heap.size sa s s.heap) (hlf : l.stackTraces = false) (hX : va_X b L xs s s.heap) (hbl : b < s.heap.size) (hS : va_S (old s.heap.size) s.heap H locs) (hI : (LI D tc s.heap.size (sa 3) O q ob od f g ad ar sp sd pd fd sums r w ns sw np pw nf fw spw t n rr ww H)) (hR : Rel j r w sums ns sw np pw nf fw spw q t n rr ww) (hj : j < 512) (h1 : vp_in (i + 1) L) (h2 : vp_in (i + 2) L) (h3 : vp_in (i + 3) L) (h4 : vp_in (i + 4) L) (hl : lv_has ls 10 [(5, .int i), (0, .ref b), (1, .ref (ar 0)), (2, .ref q), (3, .ref ob), (4, .ref od)]) (hf : cells + 1520 ≤ room_1.cells ∧ slots + 13000 ≤ room_1.slots) (hs : SIM_getIce Rel) (kk : ∀ (H1 : Heap) (locs1 : List Loc) (ls1 : Array Slot), va_S (old s.heap.size) s.heap H1 locs1 → LH Rel D tc s.heap.size (sa 3) q ob od ad ar (j + 1) H1 → lv_has ls1 10 [(5, .int i), (0, .ref b), (1, .ref (ar 0)), (2, .ref q), (3, .ref ob), (4, .ref od)] → W p l e room_1 s m args below meth c H1 locs1 (cells + 1520) (slots + 13000) Q (F0 m 2989 ls1 [])) : W p l e room_1 s m args below meth c H locs cells slots Q (F0 m 520 ls []) := by
  have hx := X.1
  have hb := X.2.1
  unfold SIM_getIce at hs
  refine lv_aload_n hx hb dL_law_520 rfl (lv_at hl 2 rfl) ?_
  refine lv_aload_n hx hb dL_law_521 rfl (lv_at hl 1 rfl) ?_
  refine lv_iload hx hb dL_law_522 (lv_at hl 0 rfl) ?_
  refine lv_iconst (v := 1) hx hb dL_law_524 (by decide) ?_
  refine lv_iadd hx hb dL_law_525 ?_
  refine va_sld hx hb hX hbl (Nat.not_le.mpr hbl) hS h1 dL_law_526 ?_
  refine lv_aload_n hx hb dL_law_527 rfl (lv_at hl 1 rfl) ?_
  refine lv_iload hx hb dL_law_528 (lv_at hl 0 rfl) ?_
  refine lv_iconst (v := 2) hx hb dL_law_530 (by decide) ?_
  refine lv_iadd hx hb dL_law_531 ?_
  refine va_sld hx hb hX hbl (Nat.not_le.mpr hbl) hS h2 dL_law_532 ?_
  refine lv_aload_n hx hb dL_law_533 rfl (lv_at hl 4 rfl) ?_
  have hw := hs j r w sums ns sw np pw nf fw spw q t n rr ww hj hR (xs (i + 1).toNatClampNeg) (xs (i + 2).toNatClampNeg)
  refine lc_ro (rest := []) X hN mw_183 hT hS hI (k_L_getIce l D tc s.heap.size sa H ob (xs (i + 1).toNatClampNeg) (xs (i + 2).toNatClampNeg) hI.1.1 (c_X8_getIce (l := l) (D := D) (tc := tc) (h0 := s.heap.size) (sa := sa) (H0 := H) (x1 := (xs (i + 1).toNatClampNeg)) (x2 := (xs (i + 2).toNatClampNeg)) (hBr := hI.1.1) (hBw := hI.1.2.1) (hlf := hlf) (hw := hw)) (fun _ => rfl) hI.2.2.1.1 (fun h => h) (fun x h => h.elim False.elim (fun e => e ▸ hI.2.2.1.2.2.1)) (fun _ h => h.1)) dL_law_534 hl.1 rfl rfl ⟨Nat.le_of_ble_eq_true rfl, Nat.le_of_ble_eq_true rfl⟩ (Nat.le_of_ble_eq_true rfl) ⟨bud0 hf.1 rfl, bud0 hf.2 rfl⟩ (fun H locs O f k1 hS hI ho => ?_)
  refine W.eq (g2 := F0 m 537 ls [.int k1]) rfl ?_
  obtain ⟨a9, hw, hfa⟩ : ∃ a9 : Int32, MM_getIce Rel j r w sums ns sw np pw nf fw spw q t n rr ww (xs (i + 1).toNatClampNeg) (xs (i + 2).toNatClampNeg) k1 a9 ∧ (k1 = 0 → f 0 = a9.toInt64) := by
    rcases ho with ⟨u, hp, e1, e2⟩ | ⟨k, hp, e1⟩
    · subst e1; exact ⟨u, hp, fun _ => e2⟩
    · subst e1; exact ⟨0, hp.2, fun h => absurd h (by have ek := hp.1; subst ek; decide)⟩
  refine lv_istore (lv' := [(6, .int k1), (5, .int i), (0, .ref b), (1, .ref (ar 0)), (2, .ref q), (3, .ref ob), (4, .ref od)]) hx hb dL_law_537 hl (by decide) rfl (fun ls hl => ?_)
  refine lv_aload_n hx hb dL_law_539 rfl (lv_at hl 4 rfl) ?_
  refine lv_aload_n hx hb dL_law_540 rfl (lv_at hl 2 rfl) ?_
  refine lv_iload hx hb dL_law_541 (lv_at hl 1 rfl) ?_
  refine lv_iconst (v := 1) hx hb dL_law_543 (by decide) ?_
  refine lv_iadd hx hb dL_law_544 ?_
  refine va_sld hx hb hX hbl (Nat.not_le.mpr hbl) hS h1 dL_law_545 ?_
  refine lv_aload_n hx hb dL_law_546 rfl (lv_at hl 2 rfl) ?_
  refine lv_iload hx hb dL_law_547 (lv_at hl 1 rfl) ?_
  refine lv_iconst (v := 2) hx hb dL_law_549 (by decide) ?_
  refine lv_iadd hx hb dL_law_550 ?_
  refine va_sld hx hb hX hbl (Nat.not_le.mpr hbl) hS h2 dL_law_551 ?_
  unfold MM_getIce at hw
  refine lm_w (rest := []) X m_L_185 hT hS hI (c_X13_getIce l D tc s.heap.size sa q (xs (i + 1).toNatClampNeg) (xs (i + 2).toNatClampNeg) H hI.2.1.1 hI.2.1.2 (fun _ h => h.2.1) hw) ((hI.2.1.1.one hI.2.1.2 rfl).recv X 0 rfl (q := (RX13, TX13, 5)) rfl) dL_law_552 hl.1 rfl rfl ⟨Nat.le_of_ble_eq_true rfl, Nat.le_of_ble_eq_true rfl⟩ (Nat.le_of_ble_eq_true rfl) ⟨bud1 hf.1 rfl, bud1 hf.2 rfl⟩ (fun u H locs O hp hS hI => ?_)
  obtain ⟨b9, w9⟩ := u
  dsimp only at hp hI
  refine W.eq (g2 := F0 m 555 ls [.int b9]) rfl ?_
  refine lv_istore (lv' := [(7, .int b9), (6, .int k1), (5, .int i), (0, .ref b), (1, .ref (ar 0)), (2, .ref q), (3, .ref ob), (4, .ref od)]) hx hb dL_law_555 hl (by decide) rfl (fun ls hl => ?_)
  refine lv_aload_n hx hb dL_law_557 rfl (lv_at hl 5 rfl) ?_
  refine lm_r (rest := []) X m_L_169 hT hS hI (c_X13_thrown l D tc s.heap.size sa q H hI.2.1.1 hI.2.1.2 (post := fun v => v = w9 q 0) rfl) ((hI.2.1.1.one hI.2.1.2 rfl).recv X 0 rfl (q := (RX13, TX13, 5)) rfl) dL_law_558 hl.1 rfl rfl ⟨Nat.le_of_ble_eq_true rfl, Nat.le_of_ble_eq_true rfl⟩ (Nat.le_of_ble_eq_true rfl) ⟨bud2 hf.1 rfl, bud2 hf.2 rfl⟩ (fun u locs hu hS => ?_)
  refine W.eq (g2 := F0 m 561 ls [.int k1]) (by rw [show u = k1 from (show u = w9 q 0 from hu).trans hp.1]; rfl) ?_
  have hR := hp.2.2
  refine lv_iload hx hb dL_law_561 (lv_at hl 1 rfl) ?_
  refine lv_icmp_eq (tgt := 568) hx hb dL_law_563 (by decide) (fun _ => ?_) (fun hc0 => absurd rfl hc0)
  refine lv_iload hx hb dL_law_568 (lv_at hl 1 rfl) ?_
  refine lv_if_ne (tgt := 585) hx hb dL_law_570 (by decide) (fun hc => ?_) (fun hc => ?_)
  · refine lv_goto (tgt := 2989) hx hb dL_law_585 (by decide) ?_
    refine W.widen (k := cells + 1520) (n := slots + 13000) (wid3 rfl) (wid3 rfl) ?_
    exact kk H locs ls hS ⟨_, _, _, _, _, _, _, _, _, _, _, _, _, _, _, _, _, _, _, _, _, hI, hR⟩ (lv_sub hl [2, 3, 4, 5, 6, 7] rfl)
  · have eab : a9 = b9 := hp.2.1 hc
    subst eab
    have hfa := hfa hc
    refine lv_aload_n hx hb dL_law_573 rfl (lv_at hl 6 rfl) ?_
    refine lv_iconst (v := 0) hx hb dL_law_574 (by decide) ?_
    refine x_lald X dL_law_575 hI.2.2.1.1 in01 ?_
    refine lv_iload hx hb dL_law_576 (lv_at hl 0 rfl) ?_
    refine lv_i2l (v := a9.toInt64) hx hb dL_law_578 rfl ?_
    refine W.lcmp hx hb dL_law_579 ?_
    refine lv_if_eq (tgt := 585) hx hb dL_law_580 (by decide) (fun _ => ?_) (fun hc0 => absurd (lgc_eq hfa) hc0)
    refine lv_goto (tgt := 2989) hx hb dL_law_585 (by decide) ?_
    refine W.widen (k := cells + 1520) (n := slots + 13000) (wid3 rfl) (wid3 rfl) ?_
    exact kk H locs ls hS ⟨_, _, _, _, _, _, _, _, _, _, _, _, _, _, _, _, _, _, _, _, _, hI, hR⟩ (lv_sub hl [2, 3, 4, 5, 6, 7] rfl)
set_option maxHeartbeats 4000000 in
theorem tc_deck {p : Program} {l : Launch} {e : Env} {s : State} {m : MethodId} {args : Array Value} {below : List Frame} {meth : Method} {c : Code} {H : Heap} {locs : List Loc} {cells slots : Nat} {Q : State → Prop} {D : va_G} {tc : Nat → ClassId} {ls : Array Slot} {sa : Nat → Nat} {b L j : Nat} {xs : Nat → Int32} {i : Int32} {O : Nat → Nat} {q ob od : Nat} {f : Nat → Int64} {g : Nat → UInt64} {ad ar : Nat → Nat} {sp : Option Nat} {sd pd fd : Nat → Nat → Nat} {sums : Nat → Int64} {r w : Dt} {ns : Nat} {sw : Nat → Dt} {np : Nat} {pw : Nat → Dt} {nf : Nat} {fw : Nat → Dt} {spw : Dt} {t n : Nat → Nat} {rr : Nat → Nat → Nat} {ww : Dt} (Rel : RLT) (X : Cx p c s m meth cL_law 10 RL D tc) (hN : NC s) (hT : ST s.heap.size sa s s.heap) (hlf : l.stackTraces = false) (hX : va_X b L xs s s.heap) (hbl : b < s.heap.size) (hS : va_S (old s.heap.size) s.heap H locs) (hI : (LI D tc s.heap.size (sa 3) O q ob od f g ad ar sp sd pd fd sums r w ns sw np pw nf fw spw t n rr ww H)) (hR : Rel j r w sums ns sw np pw nf fw spw q t n rr ww) (hj : j < 512) (h1 : vp_in (i + 1) L) (h2 : vp_in (i + 2) L) (h3 : vp_in (i + 3) L) (h4 : vp_in (i + 4) L) (hl : lv_has ls 10 [(5, .int i), (0, .ref b), (1, .ref (ar 0)), (2, .ref q), (3, .ref ob), (4, .ref od)]) (hf : cells + 1520 ≤ room_1.cells ∧ slots + 13000 ≤ room_1.slots) (hs : SIM_deck Rel) (kk : ∀ (H1 : Heap) (locs1 : List Loc) (ls1 : Array Slot), va_S (old s.heap.size) s.heap H1 locs1 → LH Rel D tc s.heap.size (sa 3) q ob od ad ar (j + 1) H1 → lv_has ls1 10 [(5, .int i), (0, .ref b), (1, .ref (ar 0)), (2, .ref q), (3, .ref ob), (4, .ref od)] → W p l e room_1 s m args below meth c H1 locs1 (cells + 1520) (slots + 13000) Q (F0 m 2989 ls1 [])) : W p l e room_1 s m args below meth c H locs cells slots Q (F0 m 588 ls []) := by
  have hx := X.1
  have hb := X.2.1
  unfold SIM_deck at hs
  refine lv_aload_n hx hb dL_law_588 rfl (lv_at hl 2 rfl) ?_
  refine lv_aload_n hx hb dL_law_589 rfl (lv_at hl 1 rfl) ?_
  refine lv_iload hx hb dL_law_590 (lv_at hl 0 rfl) ?_
  refine lv_iconst (v := 1) hx hb dL_law_592 (by decide) ?_
  refine lv_iadd hx hb dL_law_593 ?_
  refine va_sld hx hb hX hbl (Nat.not_le.mpr hbl) hS h1 dL_law_594 ?_
  refine lv_aload_n hx hb dL_law_595 rfl (lv_at hl 4 rfl) ?_
  have hw := hs j r w sums ns sw np pw nf fw spw q t n rr ww hj hR (xs (i + 1).toNatClampNeg)
  refine lc_ro (rest := []) X hN mw_186 hT hS hI (k_L_deck l D tc s.heap.size sa H ob (xs (i + 1).toNatClampNeg) hI.1.1 (c_X8_deck (l := l) (D := D) (tc := tc) (h0 := s.heap.size) (sa := sa) (H0 := H) (x1 := (xs (i + 1).toNatClampNeg)) (hBr := hI.1.1) (hBw := hI.1.2.1) (hlf := hlf) (hw := hw)) (fun _ => rfl) hI.2.2.1.1 (fun h => h) (fun x h => h.elim False.elim (fun e => e ▸ hI.2.2.1.2.2.1)) (fun _ h => h.1)) dL_law_596 hl.1 rfl rfl ⟨Nat.le_of_ble_eq_true rfl, Nat.le_of_ble_eq_true rfl⟩ (Nat.le_of_ble_eq_true rfl) ⟨bud0 hf.1 rfl, bud0 hf.2 rfl⟩ (fun H locs O f k1 hS hI ho => ?_)
  refine W.eq (g2 := F0 m 599 ls [.int k1]) rfl ?_
  obtain ⟨a9, hw, hfa⟩ : ∃ a9 : Int32, MM_deck Rel j r w sums ns sw np pw nf fw spw q t n rr ww (xs (i + 1).toNatClampNeg) k1 a9 ∧ (k1 = 0 → f 0 = a9.toInt64) := by
    rcases ho with ⟨u, hp, e1, e2⟩ | ⟨k, hp, e1⟩
    · subst e1; exact ⟨u, hp, fun _ => e2⟩
    · subst e1; exact ⟨0, hp.2, fun h => absurd h (by rcases hp.1 with rfl | rfl <;> decide)⟩
  refine lv_istore (lv' := [(6, .int k1), (5, .int i), (0, .ref b), (1, .ref (ar 0)), (2, .ref q), (3, .ref ob), (4, .ref od)]) hx hb dL_law_599 hl (by decide) rfl (fun ls hl => ?_)
  refine lv_aload_n hx hb dL_law_601 rfl (lv_at hl 4 rfl) ?_
  refine lv_aload_n hx hb dL_law_602 rfl (lv_at hl 2 rfl) ?_
  refine lv_iload hx hb dL_law_603 (lv_at hl 1 rfl) ?_
  refine lv_iconst (v := 1) hx hb dL_law_605 (by decide) ?_
  refine lv_iadd hx hb dL_law_606 ?_
  refine va_sld hx hb hX hbl (Nat.not_le.mpr hbl) hS h1 dL_law_607 ?_
  unfold MM_deck at hw
  refine lm_w (rest := []) X m_L_188 hT hS hI (c_X13_deck l D tc s.heap.size sa q (xs (i + 1).toNatClampNeg) H hI.2.1.1 hI.2.1.2 (fun _ h => h.2.1) hw) ((hI.2.1.1.one hI.2.1.2 rfl).recv X 0 rfl (q := (RX13, TX13, 5)) rfl) dL_law_608 hl.1 rfl rfl ⟨Nat.le_of_ble_eq_true rfl, Nat.le_of_ble_eq_true rfl⟩ (Nat.le_of_ble_eq_true rfl) ⟨bud1 hf.1 rfl, bud1 hf.2 rfl⟩ (fun u H locs O hp hS hI => ?_)
  obtain ⟨b9, w9⟩ := u
  dsimp only at hp hI
  refine W.eq (g2 := F0 m 611 ls [.int b9]) rfl ?_
  refine lv_istore (lv' := [(7, .int b9), (6, .int k1), (5, .int i), (0, .ref b), (1, .ref (ar 0)), (2, .ref q), (3, .ref ob), (4, .ref od)]) hx hb dL_law_611 hl (by decide) rfl (fun ls hl => ?_)
  refine lv_aload_n hx hb dL_law_613 rfl (lv_at hl 5 rfl) ?_
  refine lm_r (rest := []) X m_L_169 hT hS hI (c_X13_thrown l D tc s.heap.size sa q H hI.2.1.1 hI.2.1.2 (post := fun v => v = w9 q 0) rfl) ((hI.2.1.1.one hI.2.1.2 rfl).recv X 0 rfl (q := (RX13, TX13, 5)) rfl) dL_law_614 hl.1 rfl rfl ⟨Nat.le_of_ble_eq_true rfl, Nat.le_of_ble_eq_true rfl⟩ (Nat.le_of_ble_eq_true rfl) ⟨bud2 hf.1 rfl, bud2 hf.2 rfl⟩ (fun u locs hu hS => ?_)
  refine W.eq (g2 := F0 m 617 ls [.int k1]) (by rw [show u = k1 from (show u = w9 q 0 from hu).trans hp.1]; rfl) ?_
  have hR := hp.2.2
  refine lv_iload hx hb dL_law_617 (lv_at hl 1 rfl) ?_
  refine lv_icmp_eq (tgt := 624) hx hb dL_law_619 (by decide) (fun _ => ?_) (fun hc0 => absurd rfl hc0)
  refine lv_iload hx hb dL_law_624 (lv_at hl 1 rfl) ?_
  refine lv_if_ne (tgt := 641) hx hb dL_law_626 (by decide) (fun hc => ?_) (fun hc => ?_)
  · refine lv_goto (tgt := 2989) hx hb dL_law_641 (by decide) ?_
    refine W.widen (k := cells + 1520) (n := slots + 13000) (wid3 rfl) (wid3 rfl) ?_
    exact kk H locs ls hS ⟨_, _, _, _, _, _, _, _, _, _, _, _, _, _, _, _, _, _, _, _, _, hI, hR⟩ (lv_sub hl [2, 3, 4, 5, 6, 7] rfl)
  · have eab : a9 = b9 := hp.2.1 hc
    subst eab
    have hfa := hfa hc
    refine lv_aload_n hx hb dL_law_629 rfl (lv_at hl 6 rfl) ?_
    refine lv_iconst (v := 0) hx hb dL_law_630 (by decide) ?_
    refine x_lald X dL_law_631 hI.2.2.1.1 in01 ?_
    refine lv_iload hx hb dL_law_632 (lv_at hl 0 rfl) ?_
    refine lv_i2l (v := a9.toInt64) hx hb dL_law_634 rfl ?_
    refine W.lcmp hx hb dL_law_635 ?_
    refine lv_if_eq (tgt := 641) hx hb dL_law_636 (by decide) (fun _ => ?_) (fun hc0 => absurd (lgc_eq hfa) hc0)
    refine lv_goto (tgt := 2989) hx hb dL_law_641 (by decide) ?_
    refine W.widen (k := cells + 1520) (n := slots + 13000) (wid3 rfl) (wid3 rfl) ?_
    exact kk H locs ls hS ⟨_, _, _, _, _, _, _, _, _, _, _, _, _, _, _, _, _, _, _, _, _, hI, hR⟩ (lv_sub hl [2, 3, 4, 5, 6, 7] rfl)
set_option maxHeartbeats 4000000 in
theorem tc_setCore {p : Program} {l : Launch} {e : Env} {s : State} {m : MethodId} {args : Array Value} {below : List Frame} {meth : Method} {c : Code} {H : Heap} {locs : List Loc} {cells slots : Nat} {Q : State → Prop} {D : va_G} {tc : Nat → ClassId} {ls : Array Slot} {sa : Nat → Nat} {b L j : Nat} {xs : Nat → Int32} {i : Int32} {O : Nat → Nat} {q ob od : Nat} {f : Nat → Int64} {g : Nat → UInt64} {ad ar : Nat → Nat} {sp : Option Nat} {sd pd fd : Nat → Nat → Nat} {sums : Nat → Int64} {r w : Dt} {ns : Nat} {sw : Nat → Dt} {np : Nat} {pw : Nat → Dt} {nf : Nat} {fw : Nat → Dt} {spw : Dt} {t n : Nat → Nat} {rr : Nat → Nat → Nat} {ww : Dt} (Rel : RLT) (X : Cx p c s m meth cL_law 10 RL D tc) (hN : NC s) (hT : ST s.heap.size sa s s.heap) (hlf : l.stackTraces = false) (hX : va_X b L xs s s.heap) (hbl : b < s.heap.size) (hS : va_S (old s.heap.size) s.heap H locs) (hI : (LI D tc s.heap.size (sa 3) O q ob od f g ad ar sp sd pd fd sums r w ns sw np pw nf fw spw t n rr ww H)) (hR : Rel j r w sums ns sw np pw nf fw spw q t n rr ww) (hj : j < 512) (h1 : vp_in (i + 1) L) (h2 : vp_in (i + 2) L) (h3 : vp_in (i + 3) L) (h4 : vp_in (i + 4) L) (hl : lv_has ls 10 [(5, .int i), (0, .ref b), (1, .ref (ar 0)), (2, .ref q), (3, .ref ob), (4, .ref od)]) (hf : cells + 1520 ≤ room_1.cells ∧ slots + 13000 ≤ room_1.slots) (hs : SIM_setCore Rel) (kk : ∀ (H1 : Heap) (locs1 : List Loc) (ls1 : Array Slot), va_S (old s.heap.size) s.heap H1 locs1 → LH Rel D tc s.heap.size (sa 3) q ob od ad ar (j + 1) H1 → lv_has ls1 10 [(5, .int i), (0, .ref b), (1, .ref (ar 0)), (2, .ref q), (3, .ref ob), (4, .ref od)] → W p l e room_1 s m args below meth c H1 locs1 (cells + 1520) (slots + 13000) Q (F0 m 2989 ls1 [])) : W p l e room_1 s m args below meth c H locs cells slots Q (F0 m 644 ls []) := by
  have hx := X.1
  have hb := X.2.1
  unfold SIM_setCore at hs
  refine lv_aload_n hx hb dL_law_644 rfl (lv_at hl 2 rfl) ?_
  refine lv_aload_n hx hb dL_law_645 rfl (lv_at hl 1 rfl) ?_
  refine lv_iload hx hb dL_law_646 (lv_at hl 0 rfl) ?_
  refine lv_iconst (v := 1) hx hb dL_law_648 (by decide) ?_
  refine lv_iadd hx hb dL_law_649 ?_
  refine va_sld hx hb hX hbl (Nat.not_le.mpr hbl) hS h1 dL_law_650 ?_
  refine lv_aload_n hx hb dL_law_651 rfl (lv_at hl 4 rfl) ?_
  have hw := hs j r w sums ns sw np pw nf fw spw q t n rr ww hj hR (xs (i + 1).toNatClampNeg)
  refine lc_w (rest := []) X hN mw_189 hT hS hI (k_L_setCore l D tc s.heap.size sa H ob (xs (i + 1).toNatClampNeg) hI.1.1 (c_X8_setCore (l := l) (D := D) (tc := tc) (h0 := s.heap.size) (sa := sa) (H0 := H) (x1 := (xs (i + 1).toNatClampNeg)) (hBr := hI.1.1) (hBw := hI.1.2.1) (hDr := (fun _ h g => Rg.ne h g (by omega))) (hA0 := (fun _ h => h.2.1)) (hlf := hlf) (hw := hw)) (fun _ => rfl) hI.2.2.1.1 (fun h => Rg.ne h hI.2.2.1.2 (by omega)) (fun x h => h.elim (fun e => e.2.1) (fun e => e ▸ hI.2.2.1.2.2.1)) (fun _ h => h.1)) dL_law_652 hl.1 rfl rfl ⟨Nat.le_of_ble_eq_true rfl, Nat.le_of_ble_eq_true rfl⟩ (Nat.le_of_ble_eq_true rfl) ⟨bud0 hf.1 rfl, bud0 hf.2 rfl⟩ (fun H locs O f k1 w1 hS hI ho => ?_)
  refine W.eq (g2 := F0 m 655 ls [.int k1]) rfl ?_
  obtain ⟨a9, hw, hfa⟩ : ∃ a9 : Int32, MM_setCore Rel j r w1 sums ns sw np pw nf fw spw q t n rr ww (xs (i + 1).toNatClampNeg) k1 a9 ∧ (k1 = 0 → f 0 = a9.toInt64) := by
    rcases ho with ⟨u, hp, e1, e2, e3⟩ | ⟨k, hp, e1, e3⟩
    · subst e1; subst e3; exact ⟨u.1, hp, fun _ => e2⟩
    · subst e1; subst e3; exact ⟨0, hp.2, fun h => absurd h (by have ek := hp.1; subst ek; decide)⟩
  refine lv_istore (lv' := [(6, .int k1), (5, .int i), (0, .ref b), (1, .ref (ar 0)), (2, .ref q), (3, .ref ob), (4, .ref od)]) hx hb dL_law_655 hl (by decide) rfl (fun ls hl => ?_)
  refine lv_aload_n hx hb dL_law_657 rfl (lv_at hl 4 rfl) ?_
  refine lv_aload_n hx hb dL_law_658 rfl (lv_at hl 2 rfl) ?_
  refine lv_iload hx hb dL_law_659 (lv_at hl 1 rfl) ?_
  refine lv_iconst (v := 1) hx hb dL_law_661 (by decide) ?_
  refine lv_iadd hx hb dL_law_662 ?_
  refine va_sld hx hb hX hbl (Nat.not_le.mpr hbl) hS h1 dL_law_663 ?_
  unfold MM_setCore at hw
  refine lm_w (rest := []) X m_L_191 hT hS hI (c_X13_setCore l D tc s.heap.size sa q (xs (i + 1).toNatClampNeg) H hI.2.1.1 hI.2.1.2 (fun _ h => h.2.1) hw) ((hI.2.1.1.one hI.2.1.2 rfl).recv X 0 rfl (q := (RX13, TX13, 5)) rfl) dL_law_664 hl.1 rfl rfl ⟨Nat.le_of_ble_eq_true rfl, Nat.le_of_ble_eq_true rfl⟩ (Nat.le_of_ble_eq_true rfl) ⟨bud1 hf.1 rfl, bud1 hf.2 rfl⟩ (fun u H locs O hp hS hI => ?_)
  obtain ⟨b9, w9⟩ := u
  dsimp only at hp hI
  refine W.eq (g2 := F0 m 667 ls [.int b9]) rfl ?_
  refine lv_istore (lv' := [(7, .int b9), (6, .int k1), (5, .int i), (0, .ref b), (1, .ref (ar 0)), (2, .ref q), (3, .ref ob), (4, .ref od)]) hx hb dL_law_667 hl (by decide) rfl (fun ls hl => ?_)
  refine lv_aload_n hx hb dL_law_669 rfl (lv_at hl 5 rfl) ?_
  refine lm_r (rest := []) X m_L_169 hT hS hI (c_X13_thrown l D tc s.heap.size sa q H hI.2.1.1 hI.2.1.2 (post := fun v => v = w9 q 0) rfl) ((hI.2.1.1.one hI.2.1.2 rfl).recv X 0 rfl (q := (RX13, TX13, 5)) rfl) dL_law_670 hl.1 rfl rfl ⟨Nat.le_of_ble_eq_true rfl, Nat.le_of_ble_eq_true rfl⟩ (Nat.le_of_ble_eq_true rfl) ⟨bud2 hf.1 rfl, bud2 hf.2 rfl⟩ (fun u locs hu hS => ?_)
  refine W.eq (g2 := F0 m 673 ls [.int k1]) (by rw [show u = k1 from (show u = w9 q 0 from hu).trans hp.1]; rfl) ?_
  have hR := hp.2.2
  refine lv_iload hx hb dL_law_673 (lv_at hl 1 rfl) ?_
  refine lv_icmp_eq (tgt := 680) hx hb dL_law_675 (by decide) (fun _ => ?_) (fun hc0 => absurd rfl hc0)
  refine lv_iload hx hb dL_law_680 (lv_at hl 1 rfl) ?_
  refine lv_if_ne (tgt := 697) hx hb dL_law_682 (by decide) (fun hc => ?_) (fun hc => ?_)
  · refine lv_goto (tgt := 2989) hx hb dL_law_697 (by decide) ?_
    refine W.widen (k := cells + 1520) (n := slots + 13000) (wid3 rfl) (wid3 rfl) ?_
    exact kk H locs ls hS ⟨_, _, _, _, _, _, _, _, _, _, _, _, _, _, _, _, _, _, _, _, _, hI, hR⟩ (lv_sub hl [2, 3, 4, 5, 6, 7] rfl)
  · have eab : a9 = b9 := hp.2.1 hc
    subst eab
    have hfa := hfa hc
    refine lv_aload_n hx hb dL_law_685 rfl (lv_at hl 6 rfl) ?_
    refine lv_iconst (v := 0) hx hb dL_law_686 (by decide) ?_
    refine x_lald X dL_law_687 hI.2.2.1.1 in01 ?_
    refine lv_iload hx hb dL_law_688 (lv_at hl 0 rfl) ?_
    refine lv_i2l (v := a9.toInt64) hx hb dL_law_690 rfl ?_
    refine W.lcmp hx hb dL_law_691 ?_
    refine lv_if_eq (tgt := 697) hx hb dL_law_692 (by decide) (fun _ => ?_) (fun hc0 => absurd (lgc_eq hfa) hc0)
    refine lv_goto (tgt := 2989) hx hb dL_law_697 (by decide) ?_
    refine W.widen (k := cells + 1520) (n := slots + 13000) (wid3 rfl) (wid3 rfl) ?_
    exact kk H locs ls hS ⟨_, _, _, _, _, _, _, _, _, _, _, _, _, _, _, _, _, _, _, _, _, hI, hR⟩ (lv_sub hl [2, 3, 4, 5, 6, 7] rfl)
set_option maxHeartbeats 4000000 in
theorem tc_getRadiated {p : Program} {l : Launch} {e : Env} {s : State} {m : MethodId} {args : Array Value} {below : List Frame} {meth : Method} {c : Code} {H : Heap} {locs : List Loc} {cells slots : Nat} {Q : State → Prop} {D : va_G} {tc : Nat → ClassId} {ls : Array Slot} {sa : Nat → Nat} {b L j : Nat} {xs : Nat → Int32} {i : Int32} {O : Nat → Nat} {q ob od : Nat} {f : Nat → Int64} {g : Nat → UInt64} {ad ar : Nat → Nat} {sp : Option Nat} {sd pd fd : Nat → Nat → Nat} {sums : Nat → Int64} {r w : Dt} {ns : Nat} {sw : Nat → Dt} {np : Nat} {pw : Nat → Dt} {nf : Nat} {fw : Nat → Dt} {spw : Dt} {t n : Nat → Nat} {rr : Nat → Nat → Nat} {ww : Dt} (Rel : RLT) (X : Cx p c s m meth cL_law 10 RL D tc) (hN : NC s) (hT : ST s.heap.size sa s s.heap) (hlf : l.stackTraces = false) (hX : va_X b L xs s s.heap) (hbl : b < s.heap.size) (hS : va_S (old s.heap.size) s.heap H locs) (hI : (LI D tc s.heap.size (sa 3) O q ob od f g ad ar sp sd pd fd sums r w ns sw np pw nf fw spw t n rr ww H)) (hR : Rel j r w sums ns sw np pw nf fw spw q t n rr ww) (hj : j < 512) (h1 : vp_in (i + 1) L) (h2 : vp_in (i + 2) L) (h3 : vp_in (i + 3) L) (h4 : vp_in (i + 4) L) (hl : lv_has ls 10 [(5, .int i), (0, .ref b), (1, .ref (ar 0)), (2, .ref q), (3, .ref ob), (4, .ref od)]) (hf : cells + 1520 ≤ room_1.cells ∧ slots + 13000 ≤ room_1.slots) (hs : SIM_getRadiated Rel) (kk : ∀ (H1 : Heap) (locs1 : List Loc) (ls1 : Array Slot), va_S (old s.heap.size) s.heap H1 locs1 → LH Rel D tc s.heap.size (sa 3) q ob od ad ar (j + 1) H1 → lv_has ls1 10 [(5, .int i), (0, .ref b), (1, .ref (ar 0)), (2, .ref q), (3, .ref ob), (4, .ref od)] → W p l e room_1 s m args below meth c H1 locs1 (cells + 1520) (slots + 13000) Q (F0 m 2989 ls1 [])) : W p l e room_1 s m args below meth c H locs cells slots Q (F0 m 700 ls []) := by
  have hx := X.1
  have hb := X.2.1
  unfold SIM_getRadiated at hs
  refine lv_aload_n hx hb dL_law_700 rfl (lv_at hl 2 rfl) ?_
  have hw := hs j r w sums ns sw np pw nf fw spw q t n rr ww hj hR
  refine lm_r (rest := []) X m_L_192 hT hS hI (c_X8_getRadiated (l := l) (D := D) (tc := tc) (h0 := s.heap.size) (sa := sa) (H0 := H) (hBr := hI.1.1) (hBw := hI.1.2.1) (hw := hw)) (hI.1.1.recv X 0 rfl (q := (RX8, TX8, 9)) rfl) dL_law_701 hl.1 rfl rfl ⟨Nat.le_of_ble_eq_true rfl, Nat.le_of_ble_eq_true rfl⟩ (Nat.le_of_ble_eq_true rfl) ⟨bud0 hf.1 rfl, bud0 hf.2 rfl⟩ (fun a9 locs hp hS => ?_)
  have hw : MM_getRadiated Rel j r w sums ns sw np pw nf fw spw q t n rr ww a9 := hp
  refine W.eq (g2 := F0 m 704 ls [.int a9]) rfl ?_
  refine lv_aload_n hx hb dL_law_704 rfl (lv_at hl 3 rfl) ?_
  unfold MM_getRadiated at hw
  refine lm_w (rest := [.int a9]) X m_L_195 hT hS hI (c_X13_getRadiated l D tc s.heap.size sa q  H hI.2.1.1 hI.2.1.2 (fun _ h => h.2.1) hw) ((hI.2.1.1.one hI.2.1.2 rfl).recv X 0 rfl (q := (RX13, TX13, 5)) rfl) dL_law_705 hl.1 rfl rfl ⟨Nat.le_of_ble_eq_true rfl, Nat.le_of_ble_eq_true rfl⟩ (Nat.le_of_ble_eq_true rfl) ⟨bud1 hf.1 rfl, bud1 hf.2 rfl⟩ (fun u H locs O hp hS hI => ?_)
  obtain ⟨b9, w9⟩ := u
  dsimp only at hp hI
  refine W.eq (g2 := F0 m 708 ls [.int b9, .int a9]) rfl ?_
  have eab : a9 = b9 := hp.1
  have hR := hp.2
  subst eab
  refine lv_icmp_eq (tgt := 2989) hx hb dL_law_708 (by decide) (fun _ => ?_) (fun hc0 => absurd rfl hc0)
  refine W.widen (k := cells + 1520) (n := slots + 13000) (wid2 rfl) (wid2 rfl) ?_
  exact kk H locs ls hS ⟨_, _, _, _, _, _, _, _, _, _, _, _, _, _, _, _, _, _, _, _, _, hI, hR⟩ (lv_sub hl [0, 1, 2, 3, 4, 5] rfl)
set_option maxHeartbeats 4000000 in
theorem tc_pressure {p : Program} {l : Launch} {e : Env} {s : State} {m : MethodId} {args : Array Value} {below : List Frame} {meth : Method} {c : Code} {H : Heap} {locs : List Loc} {cells slots : Nat} {Q : State → Prop} {D : va_G} {tc : Nat → ClassId} {ls : Array Slot} {sa : Nat → Nat} {b L j : Nat} {xs : Nat → Int32} {i : Int32} {O : Nat → Nat} {q ob od : Nat} {f : Nat → Int64} {g : Nat → UInt64} {ad ar : Nat → Nat} {sp : Option Nat} {sd pd fd : Nat → Nat → Nat} {sums : Nat → Int64} {r w : Dt} {ns : Nat} {sw : Nat → Dt} {np : Nat} {pw : Nat → Dt} {nf : Nat} {fw : Nat → Dt} {spw : Dt} {t n : Nat → Nat} {rr : Nat → Nat → Nat} {ww : Dt} (Rel : RLT) (X : Cx p c s m meth cL_law 10 RL D tc) (hN : NC s) (hT : ST s.heap.size sa s s.heap) (hlf : l.stackTraces = false) (hX : va_X b L xs s s.heap) (hbl : b < s.heap.size) (hS : va_S (old s.heap.size) s.heap H locs) (hI : (LI D tc s.heap.size (sa 3) O q ob od f g ad ar sp sd pd fd sums r w ns sw np pw nf fw spw t n rr ww H)) (hR : Rel j r w sums ns sw np pw nf fw spw q t n rr ww) (hj : j < 512) (h1 : vp_in (i + 1) L) (h2 : vp_in (i + 2) L) (h3 : vp_in (i + 3) L) (h4 : vp_in (i + 4) L) (hl : lv_has ls 10 [(5, .int i), (0, .ref b), (1, .ref (ar 0)), (2, .ref q), (3, .ref ob), (4, .ref od)]) (hf : cells + 1520 ≤ room_1.cells ∧ slots + 13000 ≤ room_1.slots) (hs : SIM_pressure Rel) (kk : ∀ (H1 : Heap) (locs1 : List Loc) (ls1 : Array Slot), va_S (old s.heap.size) s.heap H1 locs1 → LH Rel D tc s.heap.size (sa 3) q ob od ad ar (j + 1) H1 → lv_has ls1 10 [(5, .int i), (0, .ref b), (1, .ref (ar 0)), (2, .ref q), (3, .ref ob), (4, .ref od)] → W p l e room_1 s m args below meth c H1 locs1 (cells + 1520) (slots + 13000) Q (F0 m 2989 ls1 [])) : W p l e room_1 s m args below meth c H locs cells slots Q (F0 m 713 ls []) := by
  have hx := X.1
  have hb := X.2.1
  unfold SIM_pressure at hs
  refine lv_aload_n hx hb dL_law_713 rfl (lv_at hl 2 rfl) ?_
  refine lv_aload_n hx hb dL_law_714 rfl (lv_at hl 1 rfl) ?_
  refine lv_iload hx hb dL_law_715 (lv_at hl 0 rfl) ?_
  refine lv_iconst (v := 1) hx hb dL_law_717 (by decide) ?_
  refine lv_iadd hx hb dL_law_718 ?_
  refine va_sld hx hb hX hbl (Nat.not_le.mpr hbl) hS h1 dL_law_719 ?_
  refine lv_aload hx hb dL_law_720 (lv_at hl 5 rfl) ?_
  have hw := hs j r w sums ns sw np pw nf fw spw q t n rr ww hj hR (xs (i + 1).toNatClampNeg)
  refine lc_rod (rest := []) X hN mw_196 hT hS hI (k_L_pressure l D tc s.heap.size sa H od (xs (i + 1).toNatClampNeg) hI.1.1 (c_X8_pressure (l := l) (D := D) (tc := tc) (h0 := s.heap.size) (sa := sa) (H0 := H) (x1 := (xs (i + 1).toNatClampNeg)) (hBr := hI.1.1) (hBw := hI.1.2.1) (hlf := hlf) (hw := hw)) (fun _ => rfl) (fun _ h => h.1) hI.2.2.2.1.1 (fun h => h) (fun x h => h.elim False.elim (fun e => e ▸ hI.2.2.2.1.2.2.1)) (fun _ h => h.1)) dL_law_722 hl.1 rfl rfl ⟨Nat.le_of_ble_eq_true rfl, Nat.le_of_ble_eq_true rfl⟩ (Nat.le_of_ble_eq_true rfl) ⟨bud0 hf.1 rfl, bud0 hf.2 rfl⟩ (fun H locs O g k1 hS hI ho => ?_)
  refine W.eq (g2 := F0 m 725 ls [.int k1]) rfl ?_
  obtain ⟨a9, hw, hfa⟩ : ∃ a9 : UInt32, MM_pressure Rel j r w sums ns sw np pw nf fw spw q t n rr ww (xs (i + 1).toNatClampNeg) k1 a9 ∧ (k1 = 0 → g 0 = FP.f2d a9 ∧ vf_n64 (FP.f2d a9)) := by
    rcases ho with ⟨u, hp, e1, e2⟩ | ⟨k, hp, e1⟩
    · subst e1; exact ⟨u, hp.2, fun _ => ⟨e2, hp.1⟩⟩
    · subst e1; exact ⟨0, hp.2, fun h => absurd h (by have ek := hp.1; subst ek; decide)⟩
  refine lv_istore (lv' := [(6, .int k1), (5, .int i), (0, .ref b), (1, .ref (ar 0)), (2, .ref q), (3, .ref ob), (4, .ref od)]) hx hb dL_law_725 hl (by decide) rfl (fun ls hl => ?_)
  refine lv_aload_n hx hb dL_law_727 rfl (lv_at hl 4 rfl) ?_
  refine lv_aload_n hx hb dL_law_728 rfl (lv_at hl 2 rfl) ?_
  refine lv_iload hx hb dL_law_729 (lv_at hl 1 rfl) ?_
  refine lv_iconst (v := 1) hx hb dL_law_731 (by decide) ?_
  refine lv_iadd hx hb dL_law_732 ?_
  refine va_sld hx hb hX hbl (Nat.not_le.mpr hbl) hS h1 dL_law_733 ?_
  unfold MM_pressure at hw
  refine lm_w (rest := []) X m_L_199 hT hS hI (c_X13_pressure l D tc s.heap.size sa q (xs (i + 1).toNatClampNeg) H hI.2.1.1 hI.2.1.2 (fun _ h => h.2.1) hw) ((hI.2.1.1.one hI.2.1.2 rfl).recv X 0 rfl (q := (RX13, TX13, 5)) rfl) dL_law_734 hl.1 rfl rfl ⟨Nat.le_of_ble_eq_true rfl, Nat.le_of_ble_eq_true rfl⟩ (Nat.le_of_ble_eq_true rfl) ⟨bud1 hf.1 rfl, bud1 hf.2 rfl⟩ (fun u H locs O hp hS hI => ?_)
  obtain ⟨b9, w9⟩ := u
  dsimp only at hp hI
  refine W.eq (g2 := F0 m 737 ls [.float b9]) rfl ?_
  refine lv_fstore (lv' := [(7, .float b9), (6, .int k1), (5, .int i), (0, .ref b), (1, .ref (ar 0)), (2, .ref q), (3, .ref ob), (4, .ref od)]) hx hb dL_law_737 hl (by decide) rfl (fun ls hl => ?_)
  refine lv_aload_n hx hb dL_law_739 rfl (lv_at hl 5 rfl) ?_
  refine lm_r (rest := []) X m_L_169 hT hS hI (c_X13_thrown l D tc s.heap.size sa q H hI.2.1.1 hI.2.1.2 (post := fun v => v = w9 q 0) rfl) ((hI.2.1.1.one hI.2.1.2 rfl).recv X 0 rfl (q := (RX13, TX13, 5)) rfl) dL_law_740 hl.1 rfl rfl ⟨Nat.le_of_ble_eq_true rfl, Nat.le_of_ble_eq_true rfl⟩ (Nat.le_of_ble_eq_true rfl) ⟨bud2 hf.1 rfl, bud2 hf.2 rfl⟩ (fun u locs hu hS => ?_)
  refine W.eq (g2 := F0 m 743 ls [.int k1]) (by rw [show u = k1 from (show u = w9 q 0 from hu).trans hp.1]; rfl) ?_
  have hR := hp.2.2
  refine lv_iload hx hb dL_law_743 (lv_at hl 1 rfl) ?_
  refine lv_icmp_eq (tgt := 750) hx hb dL_law_745 (by decide) (fun _ => ?_) (fun hc0 => absurd rfl hc0)
  refine lv_iload hx hb dL_law_750 (lv_at hl 1 rfl) ?_
  refine lv_if_ne (tgt := 788) hx hb dL_law_752 (by decide) (fun hc => ?_) (fun hc => ?_)
  · refine lv_goto (tgt := 2989) hx hb dL_law_788 (by decide) ?_
    refine W.widen (k := cells + 1520) (n := slots + 13000) (wid3 rfl) (wid3 rfl) ?_
    exact kk H locs ls hS ⟨_, _, _, _, _, _, _, _, _, _, _, _, _, _, _, _, _, _, _, _, _, hI, hR⟩ (lv_sub hl [2, 3, 4, 5, 6, 7] rfl)
  · have eab : a9 = b9 := hp.2.1 hc
    subst eab
    have hfa := hfa hc
    refine lv_aload hx hb dL_law_755 (lv_at hl 7 rfl) ?_
    refine lv_iconst (v := 0) hx hb dL_law_757 (by decide) ?_
    refine x_dald X dL_law_758 hI.2.2.2.1.1 in01 ?_
    refine lv_fload hx hb dL_law_759 (lv_at hl 0 rfl) ?_
    refine lv_f2d hx hb dL_law_761 hfa.2 ?_
    refine lv_dcmp hx hb dL_law_762 ?_
    refine lv_if_eq (tgt := 788) hx hb dL_law_763 (by decide) (fun _ => ?_) (fun hc0 => absurd (dc_eq2 hfa.1 hfa.2) hc0)
    refine lv_goto (tgt := 2989) hx hb dL_law_788 (by decide) ?_
    refine W.widen (k := cells + 1520) (n := slots + 13000) (wid3 rfl) (wid3 rfl) ?_
    exact kk H locs ls hS ⟨_, _, _, _, _, _, _, _, _, _, _, _, _, _, _, _, _, _, _, _, _, hI, hR⟩ (lv_sub hl [2, 3, 4, 5, 6, 7] rfl)
set_option maxHeartbeats 4000000 in
theorem tc_setTurning {p : Program} {l : Launch} {e : Env} {s : State} {m : MethodId} {args : Array Value} {below : List Frame} {meth : Method} {c : Code} {H : Heap} {locs : List Loc} {cells slots : Nat} {Q : State → Prop} {D : va_G} {tc : Nat → ClassId} {ls : Array Slot} {sa : Nat → Nat} {b L j : Nat} {xs : Nat → Int32} {i : Int32} {O : Nat → Nat} {q ob od : Nat} {f : Nat → Int64} {g : Nat → UInt64} {ad ar : Nat → Nat} {sp : Option Nat} {sd pd fd : Nat → Nat → Nat} {sums : Nat → Int64} {r w : Dt} {ns : Nat} {sw : Nat → Dt} {np : Nat} {pw : Nat → Dt} {nf : Nat} {fw : Nat → Dt} {spw : Dt} {t n : Nat → Nat} {rr : Nat → Nat → Nat} {ww : Dt} (Rel : RLT) (X : Cx p c s m meth cL_law 10 RL D tc) (hN : NC s) (hT : ST s.heap.size sa s s.heap) (hlf : l.stackTraces = false) (hX : va_X b L xs s s.heap) (hbl : b < s.heap.size) (hS : va_S (old s.heap.size) s.heap H locs) (hI : (LI D tc s.heap.size (sa 3) O q ob od f g ad ar sp sd pd fd sums r w ns sw np pw nf fw spw t n rr ww H)) (hR : Rel j r w sums ns sw np pw nf fw spw q t n rr ww) (hj : j < 512) (h1 : vp_in (i + 1) L) (h2 : vp_in (i + 2) L) (h3 : vp_in (i + 3) L) (h4 : vp_in (i + 4) L) (hl : lv_has ls 10 [(5, .int i), (0, .ref b), (1, .ref (ar 0)), (2, .ref q), (3, .ref ob), (4, .ref od)]) (hf : cells + 1520 ≤ room_1.cells ∧ slots + 13000 ≤ room_1.slots) (hs : SIM_setTurning Rel) (kk : ∀ (H1 : Heap) (locs1 : List Loc) (ls1 : Array Slot), va_S (old s.heap.size) s.heap H1 locs1 → LH Rel D tc s.heap.size (sa 3) q ob od ad ar (j + 1) H1 → lv_has ls1 10 [(5, .int i), (0, .ref b), (1, .ref (ar 0)), (2, .ref q), (3, .ref ob), (4, .ref od)] → W p l e room_1 s m args below meth c H1 locs1 (cells + 1520) (slots + 13000) Q (F0 m 2989 ls1 [])) : W p l e room_1 s m args below meth c H locs cells slots Q (F0 m 791 ls []) := by
  have hx := X.1
  have hb := X.2.1
  unfold SIM_setTurning at hs
  refine lv_aload_n hx hb dL_law_791 rfl (lv_at hl 2 rfl) ?_
  refine lv_aload_n hx hb dL_law_792 rfl (lv_at hl 1 rfl) ?_
  refine lv_iload hx hb dL_law_793 (lv_at hl 0 rfl) ?_
  refine lv_iconst (v := 1) hx hb dL_law_795 (by decide) ?_
  refine lv_iadd hx hb dL_law_796 ?_
  refine va_sld hx hb hX hbl (Nat.not_le.mpr hbl) hS h1 dL_law_797 ?_
  refine lv_aload_n hx hb dL_law_798 rfl (lv_at hl 1 rfl) ?_
  refine lv_iload hx hb dL_law_799 (lv_at hl 0 rfl) ?_
  refine lv_iconst (v := 2) hx hb dL_law_801 (by decide) ?_
  refine lv_iadd hx hb dL_law_802 ?_
  refine va_sld hx hb hX hbl (Nat.not_le.mpr hbl) hS h2 dL_law_803 ?_
  refine lv_aload_n hx hb dL_law_804 rfl (lv_at hl 4 rfl) ?_
  have hw := hs j r w sums ns sw np pw nf fw spw q t n rr ww hj hR (xs (i + 1).toNatClampNeg) (xs (i + 2).toNatClampNeg)
  refine lc_w (rest := []) X hN mw_200 hT hS hI (k_L_setTurning l D tc s.heap.size sa H ob (xs (i + 1).toNatClampNeg) (xs (i + 2).toNatClampNeg) hI.1.1 (c_X8_setTurning (l := l) (D := D) (tc := tc) (h0 := s.heap.size) (sa := sa) (H0 := H) (x1 := (xs (i + 1).toNatClampNeg)) (x2 := (xs (i + 2).toNatClampNeg)) (hBr := hI.1.1) (hBw := hI.1.2.1) (hDr := (fun _ h g => Rg.ne h g (by omega))) (hA0 := (fun _ h => h.2.1)) (hlf := hlf) (hw := hw)) (fun _ => rfl) hI.2.2.1.1 (fun h => Rg.ne h hI.2.2.1.2 (by omega)) (fun x h => h.elim (fun e => e.2.1) (fun e => e ▸ hI.2.2.1.2.2.1)) (fun _ h => h.1)) dL_law_805 hl.1 rfl rfl ⟨Nat.le_of_ble_eq_true rfl, Nat.le_of_ble_eq_true rfl⟩ (Nat.le_of_ble_eq_true rfl) ⟨bud0 hf.1 rfl, bud0 hf.2 rfl⟩ (fun H locs O f k1 w1 hS hI ho => ?_)
  refine W.eq (g2 := F0 m 808 ls [.int k1]) rfl ?_
  obtain ⟨a9, hw, hfa⟩ : ∃ a9 : Int32, MM_setTurning Rel j r w1 sums ns sw np pw nf fw spw q t n rr ww (xs (i + 1).toNatClampNeg) (xs (i + 2).toNatClampNeg) k1 a9 ∧ (k1 = 0 → f 0 = a9.toInt64) := by
    rcases ho with ⟨u, hp, e1, e2, e3⟩ | ⟨k, hp, e1, e3⟩
    · subst e1; subst e3; exact ⟨u.1, hp, fun _ => e2⟩
    · subst e1; subst e3; exact ⟨0, hp.2, fun h => absurd h (by rcases hp.1 with rfl | rfl <;> decide)⟩
  refine lv_istore (lv' := [(6, .int k1), (5, .int i), (0, .ref b), (1, .ref (ar 0)), (2, .ref q), (3, .ref ob), (4, .ref od)]) hx hb dL_law_808 hl (by decide) rfl (fun ls hl => ?_)
  refine lv_aload_n hx hb dL_law_810 rfl (lv_at hl 4 rfl) ?_
  refine lv_aload_n hx hb dL_law_811 rfl (lv_at hl 2 rfl) ?_
  refine lv_iload hx hb dL_law_812 (lv_at hl 1 rfl) ?_
  refine lv_iconst (v := 1) hx hb dL_law_814 (by decide) ?_
  refine lv_iadd hx hb dL_law_815 ?_
  refine va_sld hx hb hX hbl (Nat.not_le.mpr hbl) hS h1 dL_law_816 ?_
  refine lv_aload_n hx hb dL_law_817 rfl (lv_at hl 2 rfl) ?_
  refine lv_iload hx hb dL_law_818 (lv_at hl 1 rfl) ?_
  refine lv_iconst (v := 2) hx hb dL_law_820 (by decide) ?_
  refine lv_iadd hx hb dL_law_821 ?_
  refine va_sld hx hb hX hbl (Nat.not_le.mpr hbl) hS h2 dL_law_822 ?_
  unfold MM_setTurning at hw
  refine lm_w (rest := []) X m_L_202 hT hS hI (c_X13_setTurning l D tc s.heap.size sa q (xs (i + 1).toNatClampNeg) (xs (i + 2).toNatClampNeg) H hI.2.1.1 hI.2.1.2 (fun _ h => h.2.1) hw) ((hI.2.1.1.one hI.2.1.2 rfl).recv X 0 rfl (q := (RX13, TX13, 5)) rfl) dL_law_823 hl.1 rfl rfl ⟨Nat.le_of_ble_eq_true rfl, Nat.le_of_ble_eq_true rfl⟩ (Nat.le_of_ble_eq_true rfl) ⟨bud1 hf.1 rfl, bud1 hf.2 rfl⟩ (fun u H locs O hp hS hI => ?_)
  obtain ⟨b9, w9⟩ := u
  dsimp only at hp hI
  refine W.eq (g2 := F0 m 826 ls [.int b9]) rfl ?_
  refine lv_istore (lv' := [(7, .int b9), (6, .int k1), (5, .int i), (0, .ref b), (1, .ref (ar 0)), (2, .ref q), (3, .ref ob), (4, .ref od)]) hx hb dL_law_826 hl (by decide) rfl (fun ls hl => ?_)
  refine lv_aload_n hx hb dL_law_828 rfl (lv_at hl 5 rfl) ?_
  refine lm_r (rest := []) X m_L_169 hT hS hI (c_X13_thrown l D tc s.heap.size sa q H hI.2.1.1 hI.2.1.2 (post := fun v => v = w9 q 0) rfl) ((hI.2.1.1.one hI.2.1.2 rfl).recv X 0 rfl (q := (RX13, TX13, 5)) rfl) dL_law_829 hl.1 rfl rfl ⟨Nat.le_of_ble_eq_true rfl, Nat.le_of_ble_eq_true rfl⟩ (Nat.le_of_ble_eq_true rfl) ⟨bud2 hf.1 rfl, bud2 hf.2 rfl⟩ (fun u locs hu hS => ?_)
  refine W.eq (g2 := F0 m 832 ls [.int k1]) (by rw [show u = k1 from (show u = w9 q 0 from hu).trans hp.1]; rfl) ?_
  have hR := hp.2.2
  refine lv_iload hx hb dL_law_832 (lv_at hl 1 rfl) ?_
  refine lv_icmp_eq (tgt := 839) hx hb dL_law_834 (by decide) (fun _ => ?_) (fun hc0 => absurd rfl hc0)
  refine lv_iload hx hb dL_law_839 (lv_at hl 1 rfl) ?_
  refine lv_if_ne (tgt := 856) hx hb dL_law_841 (by decide) (fun hc => ?_) (fun hc => ?_)
  · refine lv_goto (tgt := 2989) hx hb dL_law_856 (by decide) ?_
    refine W.widen (k := cells + 1520) (n := slots + 13000) (wid3 rfl) (wid3 rfl) ?_
    exact kk H locs ls hS ⟨_, _, _, _, _, _, _, _, _, _, _, _, _, _, _, _, _, _, _, _, _, hI, hR⟩ (lv_sub hl [2, 3, 4, 5, 6, 7] rfl)
  · have eab : a9 = b9 := hp.2.1 hc
    subst eab
    have hfa := hfa hc
    refine lv_aload_n hx hb dL_law_844 rfl (lv_at hl 6 rfl) ?_
    refine lv_iconst (v := 0) hx hb dL_law_845 (by decide) ?_
    refine x_lald X dL_law_846 hI.2.2.1.1 in01 ?_
    refine lv_iload hx hb dL_law_847 (lv_at hl 0 rfl) ?_
    refine lv_i2l (v := a9.toInt64) hx hb dL_law_849 rfl ?_
    refine W.lcmp hx hb dL_law_850 ?_
    refine lv_if_eq (tgt := 856) hx hb dL_law_851 (by decide) (fun _ => ?_) (fun hc0 => absurd (lgc_eq hfa) hc0)
    refine lv_goto (tgt := 2989) hx hb dL_law_856 (by decide) ?_
    refine W.widen (k := cells + 1520) (n := slots + 13000) (wid3 rfl) (wid3 rfl) ?_
    exact kk H locs ls hS ⟨_, _, _, _, _, _, _, _, _, _, _, _, _, _, _, _, _, _, _, _, _, hI, hR⟩ (lv_sub hl [2, 3, 4, 5, 6, 7] rfl)
set_option maxHeartbeats 4000000 in
theorem tc_getTurning {p : Program} {l : Launch} {e : Env} {s : State} {m : MethodId} {args : Array Value} {below : List Frame} {meth : Method} {c : Code} {H : Heap} {locs : List Loc} {cells slots : Nat} {Q : State → Prop} {D : va_G} {tc : Nat → ClassId} {ls : Array Slot} {sa : Nat → Nat} {b L j : Nat} {xs : Nat → Int32} {i : Int32} {O : Nat → Nat} {q ob od : Nat} {f : Nat → Int64} {g : Nat → UInt64} {ad ar : Nat → Nat} {sp : Option Nat} {sd pd fd : Nat → Nat → Nat} {sums : Nat → Int64} {r w : Dt} {ns : Nat} {sw : Nat → Dt} {np : Nat} {pw : Nat → Dt} {nf : Nat} {fw : Nat → Dt} {spw : Dt} {t n : Nat → Nat} {rr : Nat → Nat → Nat} {ww : Dt} (Rel : RLT) (X : Cx p c s m meth cL_law 10 RL D tc) (hN : NC s) (hT : ST s.heap.size sa s s.heap) (hlf : l.stackTraces = false) (hX : va_X b L xs s s.heap) (hbl : b < s.heap.size) (hS : va_S (old s.heap.size) s.heap H locs) (hI : (LI D tc s.heap.size (sa 3) O q ob od f g ad ar sp sd pd fd sums r w ns sw np pw nf fw spw t n rr ww H)) (hR : Rel j r w sums ns sw np pw nf fw spw q t n rr ww) (hj : j < 512) (h1 : vp_in (i + 1) L) (h2 : vp_in (i + 2) L) (h3 : vp_in (i + 3) L) (h4 : vp_in (i + 4) L) (hl : lv_has ls 10 [(5, .int i), (0, .ref b), (1, .ref (ar 0)), (2, .ref q), (3, .ref ob), (4, .ref od)]) (hf : cells + 1520 ≤ room_1.cells ∧ slots + 13000 ≤ room_1.slots) (hs : SIM_getTurning Rel) (kk : ∀ (H1 : Heap) (locs1 : List Loc) (ls1 : Array Slot), va_S (old s.heap.size) s.heap H1 locs1 → LH Rel D tc s.heap.size (sa 3) q ob od ad ar (j + 1) H1 → lv_has ls1 10 [(5, .int i), (0, .ref b), (1, .ref (ar 0)), (2, .ref q), (3, .ref ob), (4, .ref od)] → W p l e room_1 s m args below meth c H1 locs1 (cells + 1520) (slots + 13000) Q (F0 m 2989 ls1 [])) : W p l e room_1 s m args below meth c H locs cells slots Q (F0 m 859 ls []) := by
  have hx := X.1
  have hb := X.2.1
  unfold SIM_getTurning at hs
  refine lv_aload_n hx hb dL_law_859 rfl (lv_at hl 2 rfl) ?_
  refine lv_aload_n hx hb dL_law_860 rfl (lv_at hl 1 rfl) ?_
  refine lv_iload hx hb dL_law_861 (lv_at hl 0 rfl) ?_
  refine lv_iconst (v := 1) hx hb dL_law_863 (by decide) ?_
  refine lv_iadd hx hb dL_law_864 ?_
  refine va_sld hx hb hX hbl (Nat.not_le.mpr hbl) hS h1 dL_law_865 ?_
  refine lv_aload_n hx hb dL_law_866 rfl (lv_at hl 4 rfl) ?_
  have hw := hs j r w sums ns sw np pw nf fw spw q t n rr ww hj hR (xs (i + 1).toNatClampNeg)
  refine lc_ro (rest := []) X hN mw_203 hT hS hI (k_L_getTurning l D tc s.heap.size sa H ob (xs (i + 1).toNatClampNeg) hI.1.1 (c_X8_getTurning (l := l) (D := D) (tc := tc) (h0 := s.heap.size) (sa := sa) (H0 := H) (x1 := (xs (i + 1).toNatClampNeg)) (hBr := hI.1.1) (hBw := hI.1.2.1) (hlf := hlf) (hw := hw)) (fun _ => rfl) hI.2.2.1.1 (fun h => h) (fun x h => h.elim False.elim (fun e => e ▸ hI.2.2.1.2.2.1)) (fun _ h => h.1)) dL_law_867 hl.1 rfl rfl ⟨Nat.le_of_ble_eq_true rfl, Nat.le_of_ble_eq_true rfl⟩ (Nat.le_of_ble_eq_true rfl) ⟨bud0 hf.1 rfl, bud0 hf.2 rfl⟩ (fun H locs O f k1 hS hI ho => ?_)
  refine W.eq (g2 := F0 m 870 ls [.int k1]) rfl ?_
  obtain ⟨a9, hw, hfa⟩ : ∃ a9 : Int32, MM_getTurning Rel j r w sums ns sw np pw nf fw spw q t n rr ww (xs (i + 1).toNatClampNeg) k1 a9 ∧ (k1 = 0 → f 0 = a9.toInt64) := by
    rcases ho with ⟨u, hp, e1, e2⟩ | ⟨k, hp, e1⟩
    · subst e1; exact ⟨u, hp, fun _ => e2⟩
    · subst e1; exact ⟨0, hp.2, fun h => absurd h (by have ek := hp.1; subst ek; decide)⟩
  refine lv_istore (lv' := [(6, .int k1), (5, .int i), (0, .ref b), (1, .ref (ar 0)), (2, .ref q), (3, .ref ob), (4, .ref od)]) hx hb dL_law_870 hl (by decide) rfl (fun ls hl => ?_)
  refine lv_aload_n hx hb dL_law_872 rfl (lv_at hl 4 rfl) ?_
  refine lv_aload_n hx hb dL_law_873 rfl (lv_at hl 2 rfl) ?_
  refine lv_iload hx hb dL_law_874 (lv_at hl 1 rfl) ?_
  refine lv_iconst (v := 1) hx hb dL_law_876 (by decide) ?_
  refine lv_iadd hx hb dL_law_877 ?_
  refine va_sld hx hb hX hbl (Nat.not_le.mpr hbl) hS h1 dL_law_878 ?_
  unfold MM_getTurning at hw
  refine lm_w (rest := []) X m_L_205 hT hS hI (c_X13_getTurning l D tc s.heap.size sa q (xs (i + 1).toNatClampNeg) H hI.2.1.1 hI.2.1.2 (fun _ h => h.2.1) hw) ((hI.2.1.1.one hI.2.1.2 rfl).recv X 0 rfl (q := (RX13, TX13, 5)) rfl) dL_law_879 hl.1 rfl rfl ⟨Nat.le_of_ble_eq_true rfl, Nat.le_of_ble_eq_true rfl⟩ (Nat.le_of_ble_eq_true rfl) ⟨bud1 hf.1 rfl, bud1 hf.2 rfl⟩ (fun u H locs O hp hS hI => ?_)
  obtain ⟨b9, w9⟩ := u
  dsimp only at hp hI
  refine W.eq (g2 := F0 m 882 ls [.int b9]) rfl ?_
  refine lv_istore (lv' := [(7, .int b9), (6, .int k1), (5, .int i), (0, .ref b), (1, .ref (ar 0)), (2, .ref q), (3, .ref ob), (4, .ref od)]) hx hb dL_law_882 hl (by decide) rfl (fun ls hl => ?_)
  refine lv_aload_n hx hb dL_law_884 rfl (lv_at hl 5 rfl) ?_
  refine lm_r (rest := []) X m_L_169 hT hS hI (c_X13_thrown l D tc s.heap.size sa q H hI.2.1.1 hI.2.1.2 (post := fun v => v = w9 q 0) rfl) ((hI.2.1.1.one hI.2.1.2 rfl).recv X 0 rfl (q := (RX13, TX13, 5)) rfl) dL_law_885 hl.1 rfl rfl ⟨Nat.le_of_ble_eq_true rfl, Nat.le_of_ble_eq_true rfl⟩ (Nat.le_of_ble_eq_true rfl) ⟨bud2 hf.1 rfl, bud2 hf.2 rfl⟩ (fun u locs hu hS => ?_)
  refine W.eq (g2 := F0 m 888 ls [.int k1]) (by rw [show u = k1 from (show u = w9 q 0 from hu).trans hp.1]; rfl) ?_
  have hR := hp.2.2
  refine lv_iload hx hb dL_law_888 (lv_at hl 1 rfl) ?_
  refine lv_icmp_eq (tgt := 895) hx hb dL_law_890 (by decide) (fun _ => ?_) (fun hc0 => absurd rfl hc0)
  refine lv_iload hx hb dL_law_895 (lv_at hl 1 rfl) ?_
  refine lv_if_ne (tgt := 912) hx hb dL_law_897 (by decide) (fun hc => ?_) (fun hc => ?_)
  · refine lv_goto (tgt := 2989) hx hb dL_law_912 (by decide) ?_
    refine W.widen (k := cells + 1520) (n := slots + 13000) (wid3 rfl) (wid3 rfl) ?_
    exact kk H locs ls hS ⟨_, _, _, _, _, _, _, _, _, _, _, _, _, _, _, _, _, _, _, _, _, hI, hR⟩ (lv_sub hl [2, 3, 4, 5, 6, 7] rfl)
  · have eab : a9 = b9 := hp.2.1 hc
    subst eab
    have hfa := hfa hc
    refine lv_aload_n hx hb dL_law_900 rfl (lv_at hl 6 rfl) ?_
    refine lv_iconst (v := 0) hx hb dL_law_901 (by decide) ?_
    refine x_lald X dL_law_902 hI.2.2.1.1 in01 ?_
    refine lv_iload hx hb dL_law_903 (lv_at hl 0 rfl) ?_
    refine lv_i2l (v := a9.toInt64) hx hb dL_law_905 rfl ?_
    refine W.lcmp hx hb dL_law_906 ?_
    refine lv_if_eq (tgt := 912) hx hb dL_law_907 (by decide) (fun _ => ?_) (fun hc0 => absurd (lgc_eq hfa) hc0)
    refine lv_goto (tgt := 2989) hx hb dL_law_912 (by decide) ?_
    refine W.widen (k := cells + 1520) (n := slots + 13000) (wid3 rfl) (wid3 rfl) ?_
    exact kk H locs ls hS ⟨_, _, _, _, _, _, _, _, _, _, _, _, _, _, _, _, _, _, _, _, _, hI, hR⟩ (lv_sub hl [2, 3, 4, 5, 6, 7] rfl)
set_option maxHeartbeats 4000000 in
theorem tc_getWind {p : Program} {l : Launch} {e : Env} {s : State} {m : MethodId} {args : Array Value} {below : List Frame} {meth : Method} {c : Code} {H : Heap} {locs : List Loc} {cells slots : Nat} {Q : State → Prop} {D : va_G} {tc : Nat → ClassId} {ls : Array Slot} {sa : Nat → Nat} {b L j : Nat} {xs : Nat → Int32} {i : Int32} {O : Nat → Nat} {q ob od : Nat} {f : Nat → Int64} {g : Nat → UInt64} {ad ar : Nat → Nat} {sp : Option Nat} {sd pd fd : Nat → Nat → Nat} {sums : Nat → Int64} {r w : Dt} {ns : Nat} {sw : Nat → Dt} {np : Nat} {pw : Nat → Dt} {nf : Nat} {fw : Nat → Dt} {spw : Dt} {t n : Nat → Nat} {rr : Nat → Nat → Nat} {ww : Dt} (Rel : RLT) (X : Cx p c s m meth cL_law 10 RL D tc) (hN : NC s) (hT : ST s.heap.size sa s s.heap) (hlf : l.stackTraces = false) (hX : va_X b L xs s s.heap) (hbl : b < s.heap.size) (hS : va_S (old s.heap.size) s.heap H locs) (hI : (LI D tc s.heap.size (sa 3) O q ob od f g ad ar sp sd pd fd sums r w ns sw np pw nf fw spw t n rr ww H)) (hR : Rel j r w sums ns sw np pw nf fw spw q t n rr ww) (hj : j < 512) (h1 : vp_in (i + 1) L) (h2 : vp_in (i + 2) L) (h3 : vp_in (i + 3) L) (h4 : vp_in (i + 4) L) (hl : lv_has ls 10 [(5, .int i), (0, .ref b), (1, .ref (ar 0)), (2, .ref q), (3, .ref ob), (4, .ref od)]) (hf : cells + 1520 ≤ room_1.cells ∧ slots + 13000 ≤ room_1.slots) (hs : SIM_getWind Rel) (kk : ∀ (H1 : Heap) (locs1 : List Loc) (ls1 : Array Slot), va_S (old s.heap.size) s.heap H1 locs1 → LH Rel D tc s.heap.size (sa 3) q ob od ad ar (j + 1) H1 → lv_has ls1 10 [(5, .int i), (0, .ref b), (1, .ref (ar 0)), (2, .ref q), (3, .ref ob), (4, .ref od)] → W p l e room_1 s m args below meth c H1 locs1 (cells + 1520) (slots + 13000) Q (F0 m 2989 ls1 [])) : W p l e room_1 s m args below meth c H locs cells slots Q (F0 m 915 ls []) := by
  have hx := X.1
  have hb := X.2.1
  unfold SIM_getWind at hs
  refine lv_aload_n hx hb dL_law_915 rfl (lv_at hl 2 rfl) ?_
  refine lv_aload_n hx hb dL_law_916 rfl (lv_at hl 1 rfl) ?_
  refine lv_iload hx hb dL_law_917 (lv_at hl 0 rfl) ?_
  refine lv_iconst (v := 1) hx hb dL_law_919 (by decide) ?_
  refine lv_iadd hx hb dL_law_920 ?_
  refine va_sld hx hb hX hbl (Nat.not_le.mpr hbl) hS h1 dL_law_921 ?_
  refine lv_aload_n hx hb dL_law_922 rfl (lv_at hl 4 rfl) ?_
  have hw := hs j r w sums ns sw np pw nf fw spw q t n rr ww hj hR (xs (i + 1).toNatClampNeg)
  refine lc_ro (rest := []) X hN mw_206 hT hS hI (k_L_getWind l D tc s.heap.size sa H ob (xs (i + 1).toNatClampNeg) hI.1.1 (c_X8_getWind (l := l) (D := D) (tc := tc) (h0 := s.heap.size) (sa := sa) (H0 := H) (x1 := (xs (i + 1).toNatClampNeg)) (hBr := hI.1.1) (hBw := hI.1.2.1) (hlf := hlf) (hw := hw)) (fun _ => rfl) hI.2.2.1.1 (fun h => h) (fun x h => h.elim False.elim (fun e => e ▸ hI.2.2.1.2.2.1)) (fun _ h => h.1)) dL_law_923 hl.1 rfl rfl ⟨Nat.le_of_ble_eq_true rfl, Nat.le_of_ble_eq_true rfl⟩ (Nat.le_of_ble_eq_true rfl) ⟨bud0 hf.1 rfl, bud0 hf.2 rfl⟩ (fun H locs O f k1 hS hI ho => ?_)
  refine W.eq (g2 := F0 m 926 ls [.int k1]) rfl ?_
  obtain ⟨a9, hw, hfa⟩ : ∃ a9 : Int32, MM_getWind Rel j r w sums ns sw np pw nf fw spw q t n rr ww (xs (i + 1).toNatClampNeg) k1 a9 ∧ (k1 = 0 → f 0 = a9.toInt64) := by
    rcases ho with ⟨u, hp, e1, e2⟩ | ⟨k, hp, e1⟩
    · subst e1; exact ⟨u, hp, fun _ => e2⟩
    · subst e1; exact ⟨0, hp.2, fun h => absurd h (by have ek := hp.1; subst ek; decide)⟩
  refine lv_istore (lv' := [(6, .int k1), (5, .int i), (0, .ref b), (1, .ref (ar 0)), (2, .ref q), (3, .ref ob), (4, .ref od)]) hx hb dL_law_926 hl (by decide) rfl (fun ls hl => ?_)
  refine lv_aload_n hx hb dL_law_928 rfl (lv_at hl 4 rfl) ?_
  refine lv_aload_n hx hb dL_law_929 rfl (lv_at hl 2 rfl) ?_
  refine lv_iload hx hb dL_law_930 (lv_at hl 1 rfl) ?_
  refine lv_iconst (v := 1) hx hb dL_law_932 (by decide) ?_
  refine lv_iadd hx hb dL_law_933 ?_
  refine va_sld hx hb hX hbl (Nat.not_le.mpr hbl) hS h1 dL_law_934 ?_
  unfold MM_getWind at hw
  refine lm_w (rest := []) X m_L_208 hT hS hI (c_X13_getWind l D tc s.heap.size sa q (xs (i + 1).toNatClampNeg) H hI.2.1.1 hI.2.1.2 (fun _ h => h.2.1) hw) ((hI.2.1.1.one hI.2.1.2 rfl).recv X 0 rfl (q := (RX13, TX13, 5)) rfl) dL_law_935 hl.1 rfl rfl ⟨Nat.le_of_ble_eq_true rfl, Nat.le_of_ble_eq_true rfl⟩ (Nat.le_of_ble_eq_true rfl) ⟨bud1 hf.1 rfl, bud1 hf.2 rfl⟩ (fun u H locs O hp hS hI => ?_)
  obtain ⟨b9, w9⟩ := u
  dsimp only at hp hI
  refine W.eq (g2 := F0 m 938 ls [.int b9]) rfl ?_
  refine lv_istore (lv' := [(7, .int b9), (6, .int k1), (5, .int i), (0, .ref b), (1, .ref (ar 0)), (2, .ref q), (3, .ref ob), (4, .ref od)]) hx hb dL_law_938 hl (by decide) rfl (fun ls hl => ?_)
  refine lv_aload_n hx hb dL_law_940 rfl (lv_at hl 5 rfl) ?_
  refine lm_r (rest := []) X m_L_169 hT hS hI (c_X13_thrown l D tc s.heap.size sa q H hI.2.1.1 hI.2.1.2 (post := fun v => v = w9 q 0) rfl) ((hI.2.1.1.one hI.2.1.2 rfl).recv X 0 rfl (q := (RX13, TX13, 5)) rfl) dL_law_941 hl.1 rfl rfl ⟨Nat.le_of_ble_eq_true rfl, Nat.le_of_ble_eq_true rfl⟩ (Nat.le_of_ble_eq_true rfl) ⟨bud2 hf.1 rfl, bud2 hf.2 rfl⟩ (fun u locs hu hS => ?_)
  refine W.eq (g2 := F0 m 944 ls [.int k1]) (by rw [show u = k1 from (show u = w9 q 0 from hu).trans hp.1]; rfl) ?_
  have hR := hp.2.2
  refine lv_iload hx hb dL_law_944 (lv_at hl 1 rfl) ?_
  refine lv_icmp_eq (tgt := 951) hx hb dL_law_946 (by decide) (fun _ => ?_) (fun hc0 => absurd rfl hc0)
  refine lv_iload hx hb dL_law_951 (lv_at hl 1 rfl) ?_
  refine lv_if_ne (tgt := 968) hx hb dL_law_953 (by decide) (fun hc => ?_) (fun hc => ?_)
  · refine lv_goto (tgt := 2989) hx hb dL_law_968 (by decide) ?_
    refine W.widen (k := cells + 1520) (n := slots + 13000) (wid3 rfl) (wid3 rfl) ?_
    exact kk H locs ls hS ⟨_, _, _, _, _, _, _, _, _, _, _, _, _, _, _, _, _, _, _, _, _, hI, hR⟩ (lv_sub hl [2, 3, 4, 5, 6, 7] rfl)
  · have eab : a9 = b9 := hp.2.1 hc
    subst eab
    have hfa := hfa hc
    refine lv_aload_n hx hb dL_law_956 rfl (lv_at hl 6 rfl) ?_
    refine lv_iconst (v := 0) hx hb dL_law_957 (by decide) ?_
    refine x_lald X dL_law_958 hI.2.2.1.1 in01 ?_
    refine lv_iload hx hb dL_law_959 (lv_at hl 0 rfl) ?_
    refine lv_i2l (v := a9.toInt64) hx hb dL_law_961 rfl ?_
    refine W.lcmp hx hb dL_law_962 ?_
    refine lv_if_eq (tgt := 968) hx hb dL_law_963 (by decide) (fun _ => ?_) (fun hc0 => absurd (lgc_eq hfa) hc0)
    refine lv_goto (tgt := 2989) hx hb dL_law_968 (by decide) ?_
    refine W.widen (k := cells + 1520) (n := slots + 13000) (wid3 rfl) (wid3 rfl) ?_
    exact kk H locs ls hS ⟨_, _, _, _, _, _, _, _, _, _, _, _, _, _, _, _, _, _, _, _, _, hI, hR⟩ (lv_sub hl [2, 3, 4, 5, 6, 7] rfl)
set_option maxHeartbeats 4000000 in
theorem tc_getShear {p : Program} {l : Launch} {e : Env} {s : State} {m : MethodId} {args : Array Value} {below : List Frame} {meth : Method} {c : Code} {H : Heap} {locs : List Loc} {cells slots : Nat} {Q : State → Prop} {D : va_G} {tc : Nat → ClassId} {ls : Array Slot} {sa : Nat → Nat} {b L j : Nat} {xs : Nat → Int32} {i : Int32} {O : Nat → Nat} {q ob od : Nat} {f : Nat → Int64} {g : Nat → UInt64} {ad ar : Nat → Nat} {sp : Option Nat} {sd pd fd : Nat → Nat → Nat} {sums : Nat → Int64} {r w : Dt} {ns : Nat} {sw : Nat → Dt} {np : Nat} {pw : Nat → Dt} {nf : Nat} {fw : Nat → Dt} {spw : Dt} {t n : Nat → Nat} {rr : Nat → Nat → Nat} {ww : Dt} (Rel : RLT) (X : Cx p c s m meth cL_law 10 RL D tc) (hN : NC s) (hT : ST s.heap.size sa s s.heap) (hlf : l.stackTraces = false) (hX : va_X b L xs s s.heap) (hbl : b < s.heap.size) (hS : va_S (old s.heap.size) s.heap H locs) (hI : (LI D tc s.heap.size (sa 3) O q ob od f g ad ar sp sd pd fd sums r w ns sw np pw nf fw spw t n rr ww H)) (hR : Rel j r w sums ns sw np pw nf fw spw q t n rr ww) (hj : j < 512) (h1 : vp_in (i + 1) L) (h2 : vp_in (i + 2) L) (h3 : vp_in (i + 3) L) (h4 : vp_in (i + 4) L) (hl : lv_has ls 10 [(5, .int i), (0, .ref b), (1, .ref (ar 0)), (2, .ref q), (3, .ref ob), (4, .ref od)]) (hf : cells + 1520 ≤ room_1.cells ∧ slots + 13000 ≤ room_1.slots) (hs : SIM_getShear Rel) (kk : ∀ (H1 : Heap) (locs1 : List Loc) (ls1 : Array Slot), va_S (old s.heap.size) s.heap H1 locs1 → LH Rel D tc s.heap.size (sa 3) q ob od ad ar (j + 1) H1 → lv_has ls1 10 [(5, .int i), (0, .ref b), (1, .ref (ar 0)), (2, .ref q), (3, .ref ob), (4, .ref od)] → W p l e room_1 s m args below meth c H1 locs1 (cells + 1520) (slots + 13000) Q (F0 m 2989 ls1 [])) : W p l e room_1 s m args below meth c H locs cells slots Q (F0 m 971 ls []) := by
  have hx := X.1
  have hb := X.2.1
  unfold SIM_getShear at hs
  refine lv_aload_n hx hb dL_law_971 rfl (lv_at hl 2 rfl) ?_
  refine lv_aload_n hx hb dL_law_972 rfl (lv_at hl 1 rfl) ?_
  refine lv_iload hx hb dL_law_973 (lv_at hl 0 rfl) ?_
  refine lv_iconst (v := 1) hx hb dL_law_975 (by decide) ?_
  refine lv_iadd hx hb dL_law_976 ?_
  refine va_sld hx hb hX hbl (Nat.not_le.mpr hbl) hS h1 dL_law_977 ?_
  refine lv_aload_n hx hb dL_law_978 rfl (lv_at hl 4 rfl) ?_
  have hw := hs j r w sums ns sw np pw nf fw spw q t n rr ww hj hR (xs (i + 1).toNatClampNeg)
  refine lc_ro (rest := []) X hN mw_209 hT hS hI (k_L_getShear l D tc s.heap.size sa H ob (xs (i + 1).toNatClampNeg) hI.1.1 (c_X8_getShear (l := l) (D := D) (tc := tc) (h0 := s.heap.size) (sa := sa) (H0 := H) (x1 := (xs (i + 1).toNatClampNeg)) (hBr := hI.1.1) (hBw := hI.1.2.1) (hlf := hlf) (hw := hw)) (fun _ => rfl) hI.2.2.1.1 (fun h => h) (fun x h => h.elim False.elim (fun e => e ▸ hI.2.2.1.2.2.1)) (fun _ h => h.1)) dL_law_979 hl.1 rfl rfl ⟨Nat.le_of_ble_eq_true rfl, Nat.le_of_ble_eq_true rfl⟩ (Nat.le_of_ble_eq_true rfl) ⟨bud0 hf.1 rfl, bud0 hf.2 rfl⟩ (fun H locs O f k1 hS hI ho => ?_)
  refine W.eq (g2 := F0 m 982 ls [.int k1]) rfl ?_
  obtain ⟨a9, hw, hfa⟩ : ∃ a9 : Int32, MM_getShear Rel j r w sums ns sw np pw nf fw spw q t n rr ww (xs (i + 1).toNatClampNeg) k1 a9 ∧ (k1 = 0 → f 0 = a9.toInt64) := by
    rcases ho with ⟨u, hp, e1, e2⟩ | ⟨k, hp, e1⟩
    · subst e1; exact ⟨u, hp, fun _ => e2⟩
    · subst e1; exact ⟨0, hp.2, fun h => absurd h (by have ek := hp.1; subst ek; decide)⟩
  refine lv_istore (lv' := [(6, .int k1), (5, .int i), (0, .ref b), (1, .ref (ar 0)), (2, .ref q), (3, .ref ob), (4, .ref od)]) hx hb dL_law_982 hl (by decide) rfl (fun ls hl => ?_)
  refine lv_aload_n hx hb dL_law_984 rfl (lv_at hl 4 rfl) ?_
  refine lv_aload_n hx hb dL_law_985 rfl (lv_at hl 2 rfl) ?_
  refine lv_iload hx hb dL_law_986 (lv_at hl 1 rfl) ?_
  refine lv_iconst (v := 1) hx hb dL_law_988 (by decide) ?_
  refine lv_iadd hx hb dL_law_989 ?_
  refine va_sld hx hb hX hbl (Nat.not_le.mpr hbl) hS h1 dL_law_990 ?_
  unfold MM_getShear at hw
  refine lm_w (rest := []) X m_L_211 hT hS hI (c_X13_getShear l D tc s.heap.size sa q (xs (i + 1).toNatClampNeg) H hI.2.1.1 hI.2.1.2 (fun _ h => h.2.1) hw) ((hI.2.1.1.one hI.2.1.2 rfl).recv X 0 rfl (q := (RX13, TX13, 5)) rfl) dL_law_991 hl.1 rfl rfl ⟨Nat.le_of_ble_eq_true rfl, Nat.le_of_ble_eq_true rfl⟩ (Nat.le_of_ble_eq_true rfl) ⟨bud1 hf.1 rfl, bud1 hf.2 rfl⟩ (fun u H locs O hp hS hI => ?_)
  obtain ⟨b9, w9⟩ := u
  dsimp only at hp hI
  refine W.eq (g2 := F0 m 994 ls [.int b9]) rfl ?_
  refine lv_istore (lv' := [(7, .int b9), (6, .int k1), (5, .int i), (0, .ref b), (1, .ref (ar 0)), (2, .ref q), (3, .ref ob), (4, .ref od)]) hx hb dL_law_994 hl (by decide) rfl (fun ls hl => ?_)
  refine lv_aload_n hx hb dL_law_996 rfl (lv_at hl 5 rfl) ?_
  refine lm_r (rest := []) X m_L_169 hT hS hI (c_X13_thrown l D tc s.heap.size sa q H hI.2.1.1 hI.2.1.2 (post := fun v => v = w9 q 0) rfl) ((hI.2.1.1.one hI.2.1.2 rfl).recv X 0 rfl (q := (RX13, TX13, 5)) rfl) dL_law_997 hl.1 rfl rfl ⟨Nat.le_of_ble_eq_true rfl, Nat.le_of_ble_eq_true rfl⟩ (Nat.le_of_ble_eq_true rfl) ⟨bud2 hf.1 rfl, bud2 hf.2 rfl⟩ (fun u locs hu hS => ?_)
  refine W.eq (g2 := F0 m 1000 ls [.int k1]) (by rw [show u = k1 from (show u = w9 q 0 from hu).trans hp.1]; rfl) ?_
  have hR := hp.2.2
  refine lv_iload hx hb dL_law_1000 (lv_at hl 1 rfl) ?_
  refine lv_icmp_eq (tgt := 1007) hx hb dL_law_1002 (by decide) (fun _ => ?_) (fun hc0 => absurd rfl hc0)
  refine lv_iload hx hb dL_law_1007 (lv_at hl 1 rfl) ?_
  refine lv_if_ne (tgt := 1024) hx hb dL_law_1009 (by decide) (fun hc => ?_) (fun hc => ?_)
  · refine lv_goto (tgt := 2989) hx hb dL_law_1024 (by decide) ?_
    refine W.widen (k := cells + 1520) (n := slots + 13000) (wid3 rfl) (wid3 rfl) ?_
    exact kk H locs ls hS ⟨_, _, _, _, _, _, _, _, _, _, _, _, _, _, _, _, _, _, _, _, _, hI, hR⟩ (lv_sub hl [2, 3, 4, 5, 6, 7] rfl)
  · have eab : a9 = b9 := hp.2.1 hc
    subst eab
    have hfa := hfa hc
    refine lv_aload_n hx hb dL_law_1012 rfl (lv_at hl 6 rfl) ?_
    refine lv_iconst (v := 0) hx hb dL_law_1013 (by decide) ?_
    refine x_lald X dL_law_1014 hI.2.2.1.1 in01 ?_
    refine lv_iload hx hb dL_law_1015 (lv_at hl 0 rfl) ?_
    refine lv_i2l (v := a9.toInt64) hx hb dL_law_1017 rfl ?_
    refine W.lcmp hx hb dL_law_1018 ?_
    refine lv_if_eq (tgt := 1024) hx hb dL_law_1019 (by decide) (fun _ => ?_) (fun hc0 => absurd (lgc_eq hfa) hc0)
    refine lv_goto (tgt := 2989) hx hb dL_law_1024 (by decide) ?_
    refine W.widen (k := cells + 1520) (n := slots + 13000) (wid3 rfl) (wid3 rfl) ?_
    exact kk H locs ls hS ⟨_, _, _, _, _, _, _, _, _, _, _, _, _, _, _, _, _, _, _, _, _, hI, hR⟩ (lv_sub hl [2, 3, 4, 5, 6, 7] rfl)
set_option maxHeartbeats 4000000 in
theorem tc_stir {p : Program} {l : Launch} {e : Env} {s : State} {m : MethodId} {args : Array Value} {below : List Frame} {meth : Method} {c : Code} {H : Heap} {locs : List Loc} {cells slots : Nat} {Q : State → Prop} {D : va_G} {tc : Nat → ClassId} {ls : Array Slot} {sa : Nat → Nat} {b L j : Nat} {xs : Nat → Int32} {i : Int32} {O : Nat → Nat} {q ob od : Nat} {f : Nat → Int64} {g : Nat → UInt64} {ad ar : Nat → Nat} {sp : Option Nat} {sd pd fd : Nat → Nat → Nat} {sums : Nat → Int64} {r w : Dt} {ns : Nat} {sw : Nat → Dt} {np : Nat} {pw : Nat → Dt} {nf : Nat} {fw : Nat → Dt} {spw : Dt} {t n : Nat → Nat} {rr : Nat → Nat → Nat} {ww : Dt} (Rel : RLT) (X : Cx p c s m meth cL_law 10 RL D tc) (hN : NC s) (hT : ST s.heap.size sa s s.heap) (hlf : l.stackTraces = false) (hX : va_X b L xs s s.heap) (hbl : b < s.heap.size) (hS : va_S (old s.heap.size) s.heap H locs) (hI : (LI D tc s.heap.size (sa 3) O q ob od f g ad ar sp sd pd fd sums r w ns sw np pw nf fw spw t n rr ww H)) (hR : Rel j r w sums ns sw np pw nf fw spw q t n rr ww) (hj : j < 512) (h1 : vp_in (i + 1) L) (h2 : vp_in (i + 2) L) (h3 : vp_in (i + 3) L) (h4 : vp_in (i + 4) L) (hl : lv_has ls 10 [(5, .int i), (0, .ref b), (1, .ref (ar 0)), (2, .ref q), (3, .ref ob), (4, .ref od)]) (hf : cells + 1520 ≤ room_1.cells ∧ slots + 13000 ≤ room_1.slots) (hs : SIM_stir Rel) (kk : ∀ (H1 : Heap) (locs1 : List Loc) (ls1 : Array Slot), va_S (old s.heap.size) s.heap H1 locs1 → LH Rel D tc s.heap.size (sa 3) q ob od ad ar (j + 1) H1 → lv_has ls1 10 [(5, .int i), (0, .ref b), (1, .ref (ar 0)), (2, .ref q), (3, .ref ob), (4, .ref od)] → W p l e room_1 s m args below meth c H1 locs1 (cells + 1520) (slots + 13000) Q (F0 m 2989 ls1 [])) : W p l e room_1 s m args below meth c H locs cells slots Q (F0 m 1027 ls []) := by
  have hx := X.1
  have hb := X.2.1
  unfold SIM_stir at hs
  refine lv_aload_n hx hb dL_law_1027 rfl (lv_at hl 2 rfl) ?_
  refine lv_aload_n hx hb dL_law_1028 rfl (lv_at hl 1 rfl) ?_
  refine lv_iload hx hb dL_law_1029 (lv_at hl 0 rfl) ?_
  refine lv_iconst (v := 1) hx hb dL_law_1031 (by decide) ?_
  refine lv_iadd hx hb dL_law_1032 ?_
  refine va_sld hx hb hX hbl (Nat.not_le.mpr hbl) hS h1 dL_law_1033 ?_
  refine lv_aload_n hx hb dL_law_1034 rfl (lv_at hl 1 rfl) ?_
  refine lv_iload hx hb dL_law_1035 (lv_at hl 0 rfl) ?_
  refine lv_iconst (v := 2) hx hb dL_law_1037 (by decide) ?_
  refine lv_iadd hx hb dL_law_1038 ?_
  refine va_sld hx hb hX hbl (Nat.not_le.mpr hbl) hS h2 dL_law_1039 ?_
  refine lv_aload_n hx hb dL_law_1040 rfl (lv_at hl 1 rfl) ?_
  refine lv_iload hx hb dL_law_1041 (lv_at hl 0 rfl) ?_
  refine lv_iconst (v := 3) hx hb dL_law_1043 (by decide) ?_
  refine lv_iadd hx hb dL_law_1044 ?_
  refine va_sld hx hb hX hbl (Nat.not_le.mpr hbl) hS h3 dL_law_1045 ?_
  refine lv_aload_n hx hb dL_law_1046 rfl (lv_at hl 4 rfl) ?_
  have hw := hs j r w sums ns sw np pw nf fw spw q t n rr ww hj hR (xs (i + 1).toNatClampNeg) (xs (i + 2).toNatClampNeg) (xs (i + 3).toNatClampNeg)
  refine lc_w (rest := []) X hN mw_212 hT hS hI (k_L_stir l D tc s.heap.size sa H ob (xs (i + 1).toNatClampNeg) (xs (i + 2).toNatClampNeg) (xs (i + 3).toNatClampNeg) hI.1.1 (c_X8_stir (l := l) (D := D) (tc := tc) (h0 := s.heap.size) (sa := sa) (H0 := H) (x1 := (xs (i + 1).toNatClampNeg)) (x2 := (xs (i + 2).toNatClampNeg)) (x3 := (xs (i + 3).toNatClampNeg)) (hBr := hI.1.1) (hBw := hI.1.2.1) (hDr := (fun _ h g => Rg.ne h g (by omega))) (hA0 := (fun _ h => h.2.1)) (hlf := hlf) (hw := hw)) (fun _ => rfl) hI.2.2.1.1 (fun h => Rg.ne h hI.2.2.1.2 (by omega)) (fun x h => h.elim (fun e => e.2.1) (fun e => e ▸ hI.2.2.1.2.2.1)) (fun _ h => h.1)) dL_law_1047 hl.1 rfl rfl ⟨Nat.le_of_ble_eq_true rfl, Nat.le_of_ble_eq_true rfl⟩ (Nat.le_of_ble_eq_true rfl) ⟨bud0 hf.1 rfl, bud0 hf.2 rfl⟩ (fun H locs O f k1 w1 hS hI ho => ?_)
  refine W.eq (g2 := F0 m 1050 ls [.int k1]) rfl ?_
  obtain ⟨a9, hw, hfa⟩ : ∃ a9 : Int32, MM_stir Rel j r w1 sums ns sw np pw nf fw spw q t n rr ww (xs (i + 1).toNatClampNeg) (xs (i + 2).toNatClampNeg) (xs (i + 3).toNatClampNeg) k1 a9 ∧ (k1 = 0 → f 0 = a9.toInt64) := by
    rcases ho with ⟨u, hp, e1, e2, e3⟩ | ⟨k, hp, e1, e3⟩
    · subst e1; subst e3; exact ⟨u.1, hp, fun _ => e2⟩
    · subst e1; subst e3; exact ⟨0, hp.2, fun h => absurd h (by rcases hp.1 with rfl | rfl <;> decide)⟩
  refine lv_istore (lv' := [(6, .int k1), (5, .int i), (0, .ref b), (1, .ref (ar 0)), (2, .ref q), (3, .ref ob), (4, .ref od)]) hx hb dL_law_1050 hl (by decide) rfl (fun ls hl => ?_)
  refine lv_aload_n hx hb dL_law_1052 rfl (lv_at hl 4 rfl) ?_
  refine lv_aload_n hx hb dL_law_1053 rfl (lv_at hl 2 rfl) ?_
  refine lv_iload hx hb dL_law_1054 (lv_at hl 1 rfl) ?_
  refine lv_iconst (v := 1) hx hb dL_law_1056 (by decide) ?_
  refine lv_iadd hx hb dL_law_1057 ?_
  refine va_sld hx hb hX hbl (Nat.not_le.mpr hbl) hS h1 dL_law_1058 ?_
  refine lv_aload_n hx hb dL_law_1059 rfl (lv_at hl 2 rfl) ?_
  refine lv_iload hx hb dL_law_1060 (lv_at hl 1 rfl) ?_
  refine lv_iconst (v := 2) hx hb dL_law_1062 (by decide) ?_
  refine lv_iadd hx hb dL_law_1063 ?_
  refine va_sld hx hb hX hbl (Nat.not_le.mpr hbl) hS h2 dL_law_1064 ?_
  refine lv_aload_n hx hb dL_law_1065 rfl (lv_at hl 2 rfl) ?_
  refine lv_iload hx hb dL_law_1066 (lv_at hl 1 rfl) ?_
  refine lv_iconst (v := 3) hx hb dL_law_1068 (by decide) ?_
  refine lv_iadd hx hb dL_law_1069 ?_
  refine va_sld hx hb hX hbl (Nat.not_le.mpr hbl) hS h3 dL_law_1070 ?_
  unfold MM_stir at hw
  refine lm_w (rest := []) X m_L_214 hT hS hI (c_X13_stir l D tc s.heap.size sa q (xs (i + 1).toNatClampNeg) (xs (i + 2).toNatClampNeg) (xs (i + 3).toNatClampNeg) H hI.2.1.1 hI.2.1.2 (fun _ h => h.2.1) hw) ((hI.2.1.1.one hI.2.1.2 rfl).recv X 0 rfl (q := (RX13, TX13, 5)) rfl) dL_law_1071 hl.1 rfl rfl ⟨Nat.le_of_ble_eq_true rfl, Nat.le_of_ble_eq_true rfl⟩ (Nat.le_of_ble_eq_true rfl) ⟨bud1 hf.1 rfl, bud1 hf.2 rfl⟩ (fun u H locs O hp hS hI => ?_)
  obtain ⟨b9, w9⟩ := u
  dsimp only at hp hI
  refine W.eq (g2 := F0 m 1074 ls [.int b9]) rfl ?_
  refine lv_istore (lv' := [(7, .int b9), (6, .int k1), (5, .int i), (0, .ref b), (1, .ref (ar 0)), (2, .ref q), (3, .ref ob), (4, .ref od)]) hx hb dL_law_1074 hl (by decide) rfl (fun ls hl => ?_)
  refine lv_aload_n hx hb dL_law_1076 rfl (lv_at hl 5 rfl) ?_
  refine lm_r (rest := []) X m_L_169 hT hS hI (c_X13_thrown l D tc s.heap.size sa q H hI.2.1.1 hI.2.1.2 (post := fun v => v = w9 q 0) rfl) ((hI.2.1.1.one hI.2.1.2 rfl).recv X 0 rfl (q := (RX13, TX13, 5)) rfl) dL_law_1077 hl.1 rfl rfl ⟨Nat.le_of_ble_eq_true rfl, Nat.le_of_ble_eq_true rfl⟩ (Nat.le_of_ble_eq_true rfl) ⟨bud2 hf.1 rfl, bud2 hf.2 rfl⟩ (fun u locs hu hS => ?_)
  refine W.eq (g2 := F0 m 1080 ls [.int k1]) (by rw [show u = k1 from (show u = w9 q 0 from hu).trans hp.1]; rfl) ?_
  have hR := hp.2.2
  refine lv_iload hx hb dL_law_1080 (lv_at hl 1 rfl) ?_
  refine lv_icmp_eq (tgt := 1087) hx hb dL_law_1082 (by decide) (fun _ => ?_) (fun hc0 => absurd rfl hc0)
  refine lv_iload hx hb dL_law_1087 (lv_at hl 1 rfl) ?_
  refine lv_if_ne (tgt := 1104) hx hb dL_law_1089 (by decide) (fun hc => ?_) (fun hc => ?_)
  · refine lv_goto (tgt := 2989) hx hb dL_law_1104 (by decide) ?_
    refine W.widen (k := cells + 1520) (n := slots + 13000) (wid3 rfl) (wid3 rfl) ?_
    exact kk H locs ls hS ⟨_, _, _, _, _, _, _, _, _, _, _, _, _, _, _, _, _, _, _, _, _, hI, hR⟩ (lv_sub hl [2, 3, 4, 5, 6, 7] rfl)
  · have eab : a9 = b9 := hp.2.1 hc
    subst eab
    have hfa := hfa hc
    refine lv_aload_n hx hb dL_law_1092 rfl (lv_at hl 6 rfl) ?_
    refine lv_iconst (v := 0) hx hb dL_law_1093 (by decide) ?_
    refine x_lald X dL_law_1094 hI.2.2.1.1 in01 ?_
    refine lv_iload hx hb dL_law_1095 (lv_at hl 0 rfl) ?_
    refine lv_i2l (v := a9.toInt64) hx hb dL_law_1097 rfl ?_
    refine W.lcmp hx hb dL_law_1098 ?_
    refine lv_if_eq (tgt := 1104) hx hb dL_law_1099 (by decide) (fun _ => ?_) (fun hc0 => absurd (lgc_eq hfa) hc0)
    refine lv_goto (tgt := 2989) hx hb dL_law_1104 (by decide) ?_
    refine W.widen (k := cells + 1520) (n := slots + 13000) (wid3 rfl) (wid3 rfl) ?_
    exact kk H locs ls hS ⟨_, _, _, _, _, _, _, _, _, _, _, _, _, _, _, _, _, _, _, _, _, hI, hR⟩ (lv_sub hl [2, 3, 4, 5, 6, 7] rfl)
set_option maxHeartbeats 4000000 in
theorem tc_setDrag {p : Program} {l : Launch} {e : Env} {s : State} {m : MethodId} {args : Array Value} {below : List Frame} {meth : Method} {c : Code} {H : Heap} {locs : List Loc} {cells slots : Nat} {Q : State → Prop} {D : va_G} {tc : Nat → ClassId} {ls : Array Slot} {sa : Nat → Nat} {b L j : Nat} {xs : Nat → Int32} {i : Int32} {O : Nat → Nat} {q ob od : Nat} {f : Nat → Int64} {g : Nat → UInt64} {ad ar : Nat → Nat} {sp : Option Nat} {sd pd fd : Nat → Nat → Nat} {sums : Nat → Int64} {r w : Dt} {ns : Nat} {sw : Nat → Dt} {np : Nat} {pw : Nat → Dt} {nf : Nat} {fw : Nat → Dt} {spw : Dt} {t n : Nat → Nat} {rr : Nat → Nat → Nat} {ww : Dt} (Rel : RLT) (X : Cx p c s m meth cL_law 10 RL D tc) (hN : NC s) (hT : ST s.heap.size sa s s.heap) (hlf : l.stackTraces = false) (hX : va_X b L xs s s.heap) (hbl : b < s.heap.size) (hS : va_S (old s.heap.size) s.heap H locs) (hI : (LI D tc s.heap.size (sa 3) O q ob od f g ad ar sp sd pd fd sums r w ns sw np pw nf fw spw t n rr ww H)) (hR : Rel j r w sums ns sw np pw nf fw spw q t n rr ww) (hj : j < 512) (h1 : vp_in (i + 1) L) (h2 : vp_in (i + 2) L) (h3 : vp_in (i + 3) L) (h4 : vp_in (i + 4) L) (hl : lv_has ls 10 [(5, .int i), (0, .ref b), (1, .ref (ar 0)), (2, .ref q), (3, .ref ob), (4, .ref od)]) (hf : cells + 1520 ≤ room_1.cells ∧ slots + 13000 ≤ room_1.slots) (hs : SIM_setDrag Rel) (kk : ∀ (H1 : Heap) (locs1 : List Loc) (ls1 : Array Slot), va_S (old s.heap.size) s.heap H1 locs1 → LH Rel D tc s.heap.size (sa 3) q ob od ad ar (j + 1) H1 → lv_has ls1 10 [(5, .int i), (0, .ref b), (1, .ref (ar 0)), (2, .ref q), (3, .ref ob), (4, .ref od)] → W p l e room_1 s m args below meth c H1 locs1 (cells + 1520) (slots + 13000) Q (F0 m 2989 ls1 [])) : W p l e room_1 s m args below meth c H locs cells slots Q (F0 m 1107 ls []) := by
  have hx := X.1
  have hb := X.2.1
  unfold SIM_setDrag at hs
  refine lv_aload_n hx hb dL_law_1107 rfl (lv_at hl 2 rfl) ?_
  refine lv_aload_n hx hb dL_law_1108 rfl (lv_at hl 1 rfl) ?_
  refine lv_iload hx hb dL_law_1109 (lv_at hl 0 rfl) ?_
  refine lv_iconst (v := 1) hx hb dL_law_1111 (by decide) ?_
  refine lv_iadd hx hb dL_law_1112 ?_
  refine va_sld hx hb hX hbl (Nat.not_le.mpr hbl) hS h1 dL_law_1113 ?_
  refine lv_aload_n hx hb dL_law_1114 rfl (lv_at hl 4 rfl) ?_
  have hw := hs j r w sums ns sw np pw nf fw spw q t n rr ww hj hR (xs (i + 1).toNatClampNeg)
  refine lc_w (rest := []) X hN mw_215 hT hS hI (k_L_setDrag l D tc s.heap.size sa H ob (xs (i + 1).toNatClampNeg) hI.1.1 (c_X8_setDrag (l := l) (D := D) (tc := tc) (h0 := s.heap.size) (sa := sa) (H0 := H) (x1 := (xs (i + 1).toNatClampNeg)) (hBr := hI.1.1) (hBw := hI.1.2.1) (hDr := (fun _ h g => Rg.ne h g (by omega))) (hA0 := (fun _ h => h.2.1)) (hlf := hlf) (hw := hw)) (fun _ => rfl) hI.2.2.1.1 (fun h => Rg.ne h hI.2.2.1.2 (by omega)) (fun x h => h.elim (fun e => e.2.1) (fun e => e ▸ hI.2.2.1.2.2.1)) (fun _ h => h.1)) dL_law_1115 hl.1 rfl rfl ⟨Nat.le_of_ble_eq_true rfl, Nat.le_of_ble_eq_true rfl⟩ (Nat.le_of_ble_eq_true rfl) ⟨bud0 hf.1 rfl, bud0 hf.2 rfl⟩ (fun H locs O f k1 w1 hS hI ho => ?_)
  refine W.eq (g2 := F0 m 1118 ls [.int k1]) rfl ?_
  obtain ⟨a9, hw, hfa⟩ : ∃ a9 : Int32, MM_setDrag Rel j r w1 sums ns sw np pw nf fw spw q t n rr ww (xs (i + 1).toNatClampNeg) k1 a9 ∧ (k1 = 0 → f 0 = a9.toInt64) := by
    rcases ho with ⟨u, hp, e1, e2, e3⟩ | ⟨k, hp, e1, e3⟩
    · subst e1; subst e3; exact ⟨u.1, hp, fun _ => e2⟩
    · subst e1; subst e3; exact ⟨0, hp.2, fun h => absurd h (by have ek := hp.1; subst ek; decide)⟩
  refine lv_istore (lv' := [(6, .int k1), (5, .int i), (0, .ref b), (1, .ref (ar 0)), (2, .ref q), (3, .ref ob), (4, .ref od)]) hx hb dL_law_1118 hl (by decide) rfl (fun ls hl => ?_)
  refine lv_aload_n hx hb dL_law_1120 rfl (lv_at hl 4 rfl) ?_
  refine lv_aload_n hx hb dL_law_1121 rfl (lv_at hl 2 rfl) ?_
  refine lv_iload hx hb dL_law_1122 (lv_at hl 1 rfl) ?_
  refine lv_iconst (v := 1) hx hb dL_law_1124 (by decide) ?_
  refine lv_iadd hx hb dL_law_1125 ?_
  refine va_sld hx hb hX hbl (Nat.not_le.mpr hbl) hS h1 dL_law_1126 ?_
  unfold MM_setDrag at hw
  refine lm_w (rest := []) X m_L_217 hT hS hI (c_X13_setDrag l D tc s.heap.size sa q (xs (i + 1).toNatClampNeg) H hI.2.1.1 hI.2.1.2 (fun _ h => h.2.1) hw) ((hI.2.1.1.one hI.2.1.2 rfl).recv X 0 rfl (q := (RX13, TX13, 5)) rfl) dL_law_1127 hl.1 rfl rfl ⟨Nat.le_of_ble_eq_true rfl, Nat.le_of_ble_eq_true rfl⟩ (Nat.le_of_ble_eq_true rfl) ⟨bud1 hf.1 rfl, bud1 hf.2 rfl⟩ (fun u H locs O hp hS hI => ?_)
  obtain ⟨b9, w9⟩ := u
  dsimp only at hp hI
  refine W.eq (g2 := F0 m 1130 ls [.int b9]) rfl ?_
  refine lv_istore (lv' := [(7, .int b9), (6, .int k1), (5, .int i), (0, .ref b), (1, .ref (ar 0)), (2, .ref q), (3, .ref ob), (4, .ref od)]) hx hb dL_law_1130 hl (by decide) rfl (fun ls hl => ?_)
  refine lv_aload_n hx hb dL_law_1132 rfl (lv_at hl 5 rfl) ?_
  refine lm_r (rest := []) X m_L_169 hT hS hI (c_X13_thrown l D tc s.heap.size sa q H hI.2.1.1 hI.2.1.2 (post := fun v => v = w9 q 0) rfl) ((hI.2.1.1.one hI.2.1.2 rfl).recv X 0 rfl (q := (RX13, TX13, 5)) rfl) dL_law_1133 hl.1 rfl rfl ⟨Nat.le_of_ble_eq_true rfl, Nat.le_of_ble_eq_true rfl⟩ (Nat.le_of_ble_eq_true rfl) ⟨bud2 hf.1 rfl, bud2 hf.2 rfl⟩ (fun u locs hu hS => ?_)
  refine W.eq (g2 := F0 m 1136 ls [.int k1]) (by rw [show u = k1 from (show u = w9 q 0 from hu).trans hp.1]; rfl) ?_
  have hR := hp.2.2
  refine lv_iload hx hb dL_law_1136 (lv_at hl 1 rfl) ?_
  refine lv_icmp_eq (tgt := 1143) hx hb dL_law_1138 (by decide) (fun _ => ?_) (fun hc0 => absurd rfl hc0)
  refine lv_iload hx hb dL_law_1143 (lv_at hl 1 rfl) ?_
  refine lv_if_ne (tgt := 1160) hx hb dL_law_1145 (by decide) (fun hc => ?_) (fun hc => ?_)
  · refine lv_goto (tgt := 2989) hx hb dL_law_1160 (by decide) ?_
    refine W.widen (k := cells + 1520) (n := slots + 13000) (wid3 rfl) (wid3 rfl) ?_
    exact kk H locs ls hS ⟨_, _, _, _, _, _, _, _, _, _, _, _, _, _, _, _, _, _, _, _, _, hI, hR⟩ (lv_sub hl [2, 3, 4, 5, 6, 7] rfl)
  · have eab : a9 = b9 := hp.2.1 hc
    subst eab
    have hfa := hfa hc
    refine lv_aload_n hx hb dL_law_1148 rfl (lv_at hl 6 rfl) ?_
    refine lv_iconst (v := 0) hx hb dL_law_1149 (by decide) ?_
    refine x_lald X dL_law_1150 hI.2.2.1.1 in01 ?_
    refine lv_iload hx hb dL_law_1151 (lv_at hl 0 rfl) ?_
    refine lv_i2l (v := a9.toInt64) hx hb dL_law_1153 rfl ?_
    refine W.lcmp hx hb dL_law_1154 ?_
    refine lv_if_eq (tgt := 1160) hx hb dL_law_1155 (by decide) (fun _ => ?_) (fun hc0 => absurd (lgc_eq hfa) hc0)
    refine lv_goto (tgt := 2989) hx hb dL_law_1160 (by decide) ?_
    refine W.widen (k := cells + 1520) (n := slots + 13000) (wid3 rfl) (wid3 rfl) ?_
    exact kk H locs ls hS ⟨_, _, _, _, _, _, _, _, _, _, _, _, _, _, _, _, _, _, _, _, _, hI, hR⟩ (lv_sub hl [2, 3, 4, 5, 6, 7] rfl)
set_option maxHeartbeats 4000000 in
theorem tc_getDeep {p : Program} {l : Launch} {e : Env} {s : State} {m : MethodId} {args : Array Value} {below : List Frame} {meth : Method} {c : Code} {H : Heap} {locs : List Loc} {cells slots : Nat} {Q : State → Prop} {D : va_G} {tc : Nat → ClassId} {ls : Array Slot} {sa : Nat → Nat} {b L j : Nat} {xs : Nat → Int32} {i : Int32} {O : Nat → Nat} {q ob od : Nat} {f : Nat → Int64} {g : Nat → UInt64} {ad ar : Nat → Nat} {sp : Option Nat} {sd pd fd : Nat → Nat → Nat} {sums : Nat → Int64} {r w : Dt} {ns : Nat} {sw : Nat → Dt} {np : Nat} {pw : Nat → Dt} {nf : Nat} {fw : Nat → Dt} {spw : Dt} {t n : Nat → Nat} {rr : Nat → Nat → Nat} {ww : Dt} (Rel : RLT) (X : Cx p c s m meth cL_law 10 RL D tc) (hN : NC s) (hT : ST s.heap.size sa s s.heap) (hlf : l.stackTraces = false) (hX : va_X b L xs s s.heap) (hbl : b < s.heap.size) (hS : va_S (old s.heap.size) s.heap H locs) (hI : (LI D tc s.heap.size (sa 3) O q ob od f g ad ar sp sd pd fd sums r w ns sw np pw nf fw spw t n rr ww H)) (hR : Rel j r w sums ns sw np pw nf fw spw q t n rr ww) (hj : j < 512) (h1 : vp_in (i + 1) L) (h2 : vp_in (i + 2) L) (h3 : vp_in (i + 3) L) (h4 : vp_in (i + 4) L) (hl : lv_has ls 10 [(5, .int i), (0, .ref b), (1, .ref (ar 0)), (2, .ref q), (3, .ref ob), (4, .ref od)]) (hf : cells + 1520 ≤ room_1.cells ∧ slots + 13000 ≤ room_1.slots) (hs : SIM_getDeep Rel) (kk : ∀ (H1 : Heap) (locs1 : List Loc) (ls1 : Array Slot), va_S (old s.heap.size) s.heap H1 locs1 → LH Rel D tc s.heap.size (sa 3) q ob od ad ar (j + 1) H1 → lv_has ls1 10 [(5, .int i), (0, .ref b), (1, .ref (ar 0)), (2, .ref q), (3, .ref ob), (4, .ref od)] → W p l e room_1 s m args below meth c H1 locs1 (cells + 1520) (slots + 13000) Q (F0 m 2989 ls1 [])) : W p l e room_1 s m args below meth c H locs cells slots Q (F0 m 1163 ls []) := by
  have hx := X.1
  have hb := X.2.1
  unfold SIM_getDeep at hs
  refine lv_aload_n hx hb dL_law_1163 rfl (lv_at hl 2 rfl) ?_
  have hw := hs j r w sums ns sw np pw nf fw spw q t n rr ww hj hR
  refine lm_r (rest := []) X m_L_218 hT hS hI (c_X8_getDeep (l := l) (D := D) (tc := tc) (h0 := s.heap.size) (sa := sa) (H0 := H) (hBr := hI.1.1) (hBw := hI.1.2.1) (hw := hw)) (hI.1.1.recv X 0 rfl (q := (RX8, TX8, 9)) rfl) dL_law_1164 hl.1 rfl rfl ⟨Nat.le_of_ble_eq_true rfl, Nat.le_of_ble_eq_true rfl⟩ (Nat.le_of_ble_eq_true rfl) ⟨bud0 hf.1 rfl, bud0 hf.2 rfl⟩ (fun a9 locs hp hS => ?_)
  have hw : MM_getDeep Rel j r w sums ns sw np pw nf fw spw q t n rr ww a9 := hp
  refine W.eq (g2 := F0 m 1167 ls [.int a9]) rfl ?_
  refine lv_aload_n hx hb dL_law_1167 rfl (lv_at hl 3 rfl) ?_
  unfold MM_getDeep at hw
  refine lm_w (rest := [.int a9]) X m_L_221 hT hS hI (c_X13_getDeep l D tc s.heap.size sa q  H hI.2.1.1 hI.2.1.2 (fun _ h => h.2.1) hw) ((hI.2.1.1.one hI.2.1.2 rfl).recv X 0 rfl (q := (RX13, TX13, 5)) rfl) dL_law_1168 hl.1 rfl rfl ⟨Nat.le_of_ble_eq_true rfl, Nat.le_of_ble_eq_true rfl⟩ (Nat.le_of_ble_eq_true rfl) ⟨bud1 hf.1 rfl, bud1 hf.2 rfl⟩ (fun u H locs O hp hS hI => ?_)
  obtain ⟨b9, w9⟩ := u
  dsimp only at hp hI
  refine W.eq (g2 := F0 m 1171 ls [.int b9, .int a9]) rfl ?_
  have eab : a9 = b9 := hp.1
  have hR := hp.2
  subst eab
  refine lv_icmp_eq (tgt := 2989) hx hb dL_law_1171 (by decide) (fun _ => ?_) (fun hc0 => absurd rfl hc0)
  refine W.widen (k := cells + 1520) (n := slots + 13000) (wid2 rfl) (wid2 rfl) ?_
  exact kk H locs ls hS ⟨_, _, _, _, _, _, _, _, _, _, _, _, _, _, _, _, _, _, _, _, _, hI, hR⟩ (lv_sub hl [0, 1, 2, 3, 4, 5] rfl)
set_option maxHeartbeats 4000000 in
theorem tc_addStorm {p : Program} {l : Launch} {e : Env} {s : State} {m : MethodId} {args : Array Value} {below : List Frame} {meth : Method} {c : Code} {H : Heap} {locs : List Loc} {cells slots : Nat} {Q : State → Prop} {D : va_G} {tc : Nat → ClassId} {ls : Array Slot} {sa : Nat → Nat} {b L j : Nat} {xs : Nat → Int32} {i : Int32} {O : Nat → Nat} {q ob od : Nat} {f : Nat → Int64} {g : Nat → UInt64} {ad ar : Nat → Nat} {sp : Option Nat} {sd pd fd : Nat → Nat → Nat} {sums : Nat → Int64} {r w : Dt} {ns : Nat} {sw : Nat → Dt} {np : Nat} {pw : Nat → Dt} {nf : Nat} {fw : Nat → Dt} {spw : Dt} {t n : Nat → Nat} {rr : Nat → Nat → Nat} {ww : Dt} (Rel : RLT) (X : Cx p c s m meth cL_law 10 RL D tc) (hN : NC s) (hT : ST s.heap.size sa s s.heap) (hlf : l.stackTraces = false) (hX : va_X b L xs s s.heap) (hbl : b < s.heap.size) (hS : va_S (old s.heap.size) s.heap H locs) (hI : (LI D tc s.heap.size (sa 3) O q ob od f g ad ar sp sd pd fd sums r w ns sw np pw nf fw spw t n rr ww H)) (hR : Rel j r w sums ns sw np pw nf fw spw q t n rr ww) (hj : j < 512) (h1 : vp_in (i + 1) L) (h2 : vp_in (i + 2) L) (h3 : vp_in (i + 3) L) (h4 : vp_in (i + 4) L) (hl : lv_has ls 10 [(5, .int i), (0, .ref b), (1, .ref (ar 0)), (2, .ref q), (3, .ref ob), (4, .ref od)]) (hf : cells + 1520 ≤ room_1.cells ∧ slots + 13000 ≤ room_1.slots) (hs : SIM_addStorm Rel) (kk : ∀ (H1 : Heap) (locs1 : List Loc) (ls1 : Array Slot), va_S (old s.heap.size) s.heap H1 locs1 → LH Rel D tc s.heap.size (sa 3) q ob od ad ar (j + 1) H1 → lv_has ls1 10 [(5, .int i), (0, .ref b), (1, .ref (ar 0)), (2, .ref q), (3, .ref ob), (4, .ref od)] → W p l e room_1 s m args below meth c H1 locs1 (cells + 1520) (slots + 13000) Q (F0 m 2989 ls1 [])) : W p l e room_1 s m args below meth c H locs cells slots Q (F0 m 1176 ls []) := by
  have hx := X.1
  have hb := X.2.1
  unfold SIM_addStorm at hs
  refine lv_aload_n hx hb dL_law_1176 rfl (lv_at hl 2 rfl) ?_
  refine lv_aload_n hx hb dL_law_1177 rfl (lv_at hl 1 rfl) ?_
  refine lv_iload hx hb dL_law_1178 (lv_at hl 0 rfl) ?_
  refine lv_iconst (v := 1) hx hb dL_law_1180 (by decide) ?_
  refine lv_iadd hx hb dL_law_1181 ?_
  refine va_sld hx hb hX hbl (Nat.not_le.mpr hbl) hS h1 dL_law_1182 ?_
  refine lv_aload_n hx hb dL_law_1183 rfl (lv_at hl 1 rfl) ?_
  refine lv_iload hx hb dL_law_1184 (lv_at hl 0 rfl) ?_
  refine lv_iconst (v := 2) hx hb dL_law_1186 (by decide) ?_
  refine lv_iadd hx hb dL_law_1187 ?_
  refine va_sld hx hb hX hbl (Nat.not_le.mpr hbl) hS h2 dL_law_1188 ?_
  refine lv_aload_n hx hb dL_law_1189 rfl (lv_at hl 1 rfl) ?_
  refine lv_iload hx hb dL_law_1190 (lv_at hl 0 rfl) ?_
  refine lv_iconst (v := 3) hx hb dL_law_1192 (by decide) ?_
  refine lv_iadd hx hb dL_law_1193 ?_
  refine va_sld hx hb hX hbl (Nat.not_le.mpr hbl) hS h3 dL_law_1194 ?_
  refine lv_aload_n hx hb dL_law_1195 rfl (lv_at hl 4 rfl) ?_
  have hw := hs j r w sums ns sw np pw nf fw spw q t n rr ww hj hR (xs (i + 1).toNatClampNeg) (xs (i + 2).toNatClampNeg) (xs (i + 3).toNatClampNeg)
  refine lc_w (rest := []) X hN mw_222 hT hS hI (k_L_addStorm l D tc s.heap.size sa H ob (xs (i + 1).toNatClampNeg) (xs (i + 2).toNatClampNeg) (xs (i + 3).toNatClampNeg) hI.1.1 (c_X8_addStorm (l := l) (D := D) (tc := tc) (h0 := s.heap.size) (sa := sa) (H0 := H) (x1 := (xs (i + 1).toNatClampNeg)) (x2 := (xs (i + 2).toNatClampNeg)) (x3 := (xs (i + 3).toNatClampNeg)) (hBr := hI.1.1) (hBw := hI.1.2.1) (hDr := (fun _ h g => Rg.ne h g (by omega))) (hA0 := (fun _ h => h.2.1)) (hlf := hlf) (hw := hw)) (fun _ => rfl) hI.2.2.1.1 (fun h => Rg.ne h hI.2.2.1.2 (by omega)) (fun x h => h.elim (fun e => e.2.1) (fun e => e ▸ hI.2.2.1.2.2.1)) (fun _ h => h.1)) dL_law_1196 hl.1 rfl rfl ⟨Nat.le_of_ble_eq_true rfl, Nat.le_of_ble_eq_true rfl⟩ (Nat.le_of_ble_eq_true rfl) ⟨bud0 hf.1 rfl, bud0 hf.2 rfl⟩ (fun H locs O f k1 w1 hS hI ho => ?_)
  refine W.eq (g2 := F0 m 1199 ls [.int k1]) rfl ?_
  obtain ⟨a9, hw, hfa⟩ : ∃ a9 : Int32, MM_addStorm Rel j r w1 sums ns sw np pw nf fw spw q t n rr ww (xs (i + 1).toNatClampNeg) (xs (i + 2).toNatClampNeg) (xs (i + 3).toNatClampNeg) k1 a9 ∧ (k1 = 0 → f 0 = a9.toInt64) := by
    rcases ho with ⟨u, hp, e1, e2, e3⟩ | ⟨k, hp, e1, e3⟩
    · subst e1; subst e3; exact ⟨u.1, hp, fun _ => e2⟩
    · subst e1; subst e3; exact ⟨0, hp.2, fun h => absurd h (by rcases hp.1 with rfl | rfl | rfl <;> decide)⟩
  refine lv_istore (lv' := [(6, .int k1), (5, .int i), (0, .ref b), (1, .ref (ar 0)), (2, .ref q), (3, .ref ob), (4, .ref od)]) hx hb dL_law_1199 hl (by decide) rfl (fun ls hl => ?_)
  refine lv_aload_n hx hb dL_law_1201 rfl (lv_at hl 4 rfl) ?_
  refine lv_aload_n hx hb dL_law_1202 rfl (lv_at hl 2 rfl) ?_
  refine lv_iload hx hb dL_law_1203 (lv_at hl 1 rfl) ?_
  refine lv_iconst (v := 1) hx hb dL_law_1205 (by decide) ?_
  refine lv_iadd hx hb dL_law_1206 ?_
  refine va_sld hx hb hX hbl (Nat.not_le.mpr hbl) hS h1 dL_law_1207 ?_
  refine lv_aload_n hx hb dL_law_1208 rfl (lv_at hl 2 rfl) ?_
  refine lv_iload hx hb dL_law_1209 (lv_at hl 1 rfl) ?_
  refine lv_iconst (v := 2) hx hb dL_law_1211 (by decide) ?_
  refine lv_iadd hx hb dL_law_1212 ?_
  refine va_sld hx hb hX hbl (Nat.not_le.mpr hbl) hS h2 dL_law_1213 ?_
  refine lv_aload_n hx hb dL_law_1214 rfl (lv_at hl 2 rfl) ?_
  refine lv_iload hx hb dL_law_1215 (lv_at hl 1 rfl) ?_
  refine lv_iconst (v := 3) hx hb dL_law_1217 (by decide) ?_
  refine lv_iadd hx hb dL_law_1218 ?_
  refine va_sld hx hb hX hbl (Nat.not_le.mpr hbl) hS h3 dL_law_1219 ?_
  unfold MM_addStorm at hw
  refine lm_g (rest := []) X m_L_224 hT hS hI (c_X13_addStorm l D tc s.heap.size sa q (xs (i + 1).toNatClampNeg) (xs (i + 2).toNatClampNeg) (xs (i + 3).toNatClampNeg) 1400 12000 H (hI.2.1.1.mono (fun x _ h => Or.inl h)) hI.2.1.2 (fun x h => h.elim (fun h => h.2.1) (fun h => Nat.le_trans hI.2.2.2.2 h)) (fun x h => Or.inr h) hw) ((hI.2.1.1.one hI.2.1.2 rfl).recv X 0 rfl (q := (RX13, TX13, 5)) rfl) dL_law_1220 hl.1 rfl rfl ⟨Nat.le_of_ble_eq_true rfl, Nat.le_of_ble_eq_true rfl⟩ (Nat.le_of_ble_eq_true rfl) ⟨bud1 hf.1 rfl, bud1 hf.2 rfl⟩ (fun u H locs O hp hS hI => ?_)
  obtain ⟨b9, t9, n9, r9, w9⟩ := u
  dsimp only at hp hI
  refine W.eq (g2 := F0 m 1223 ls [.int b9]) rfl ?_
  refine lv_istore (lv' := [(7, .int b9), (6, .int k1), (5, .int i), (0, .ref b), (1, .ref (ar 0)), (2, .ref q), (3, .ref ob), (4, .ref od)]) hx hb dL_law_1223 hl (by decide) rfl (fun ls hl => ?_)
  refine lv_aload_n hx hb dL_law_1225 rfl (lv_at hl 5 rfl) ?_
  refine lm_r (rest := []) X m_L_169 hT hS hI (c_X13_thrown l D tc s.heap.size sa q H hI.2.1.1 hI.2.1.2 (post := fun v => v = w9 q 0) rfl) ((hI.2.1.1.one hI.2.1.2 rfl).recv X 0 rfl (q := (RX13, TX13, 5)) rfl) dL_law_1226 hl.1 rfl rfl ⟨Nat.le_of_ble_eq_true rfl, Nat.le_of_ble_eq_true rfl⟩ (Nat.le_of_ble_eq_true rfl) ⟨bud2 hf.1 rfl, bud2 hf.2 rfl⟩ (fun u locs hu hS => ?_)
  refine W.eq (g2 := F0 m 1229 ls [.int k1]) (by rw [show u = k1 from (show u = w9 q 0 from hu).trans hp.1]; rfl) ?_
  have hR := hp.2.2
  refine lv_iload hx hb dL_law_1229 (lv_at hl 1 rfl) ?_
  refine lv_icmp_eq (tgt := 1236) hx hb dL_law_1231 (by decide) (fun _ => ?_) (fun hc0 => absurd rfl hc0)
  refine lv_iload hx hb dL_law_1236 (lv_at hl 1 rfl) ?_
  refine lv_if_ne (tgt := 1253) hx hb dL_law_1238 (by decide) (fun hc => ?_) (fun hc => ?_)
  · refine lv_goto (tgt := 2989) hx hb dL_law_1253 (by decide) ?_
    refine W.widen (k := cells + 1520) (n := slots + 13000) (wid3 rfl) (wid3 rfl) ?_
    exact kk H locs ls hS ⟨_, _, _, _, _, _, _, _, _, _, _, _, _, _, _, _, _, _, _, _, _, hI, hR⟩ (lv_sub hl [2, 3, 4, 5, 6, 7] rfl)
  · have eab : a9 = b9 := hp.2.1 hc
    subst eab
    have hfa := hfa hc
    refine lv_aload_n hx hb dL_law_1241 rfl (lv_at hl 6 rfl) ?_
    refine lv_iconst (v := 0) hx hb dL_law_1242 (by decide) ?_
    refine x_lald X dL_law_1243 hI.2.2.1.1 in01 ?_
    refine lv_iload hx hb dL_law_1244 (lv_at hl 0 rfl) ?_
    refine lv_i2l (v := a9.toInt64) hx hb dL_law_1246 rfl ?_
    refine W.lcmp hx hb dL_law_1247 ?_
    refine lv_if_eq (tgt := 1253) hx hb dL_law_1248 (by decide) (fun _ => ?_) (fun hc0 => absurd (lgc_eq hfa) hc0)
    refine lv_goto (tgt := 2989) hx hb dL_law_1253 (by decide) ?_
    refine W.widen (k := cells + 1520) (n := slots + 13000) (wid3 rfl) (wid3 rfl) ?_
    exact kk H locs ls hS ⟨_, _, _, _, _, _, _, _, _, _, _, _, _, _, _, _, _, _, _, _, _, hI, hR⟩ (lv_sub hl [2, 3, 4, 5, 6, 7] rfl)
set_option maxHeartbeats 4000000 in
theorem tc_nameStorm {p : Program} {l : Launch} {e : Env} {s : State} {m : MethodId} {args : Array Value} {below : List Frame} {meth : Method} {c : Code} {H : Heap} {locs : List Loc} {cells slots : Nat} {Q : State → Prop} {D : va_G} {tc : Nat → ClassId} {ls : Array Slot} {sa : Nat → Nat} {b L j : Nat} {xs : Nat → Int32} {i : Int32} {O : Nat → Nat} {q ob od : Nat} {f : Nat → Int64} {g : Nat → UInt64} {ad ar : Nat → Nat} {sp : Option Nat} {sd pd fd : Nat → Nat → Nat} {sums : Nat → Int64} {r w : Dt} {ns : Nat} {sw : Nat → Dt} {np : Nat} {pw : Nat → Dt} {nf : Nat} {fw : Nat → Dt} {spw : Dt} {t n : Nat → Nat} {rr : Nat → Nat → Nat} {ww : Dt} (Rel : RLT) (X : Cx p c s m meth cL_law 10 RL D tc) (hN : NC s) (hT : ST s.heap.size sa s s.heap) (hlf : l.stackTraces = false) (hX : va_X b L xs s s.heap) (hbl : b < s.heap.size) (hS : va_S (old s.heap.size) s.heap H locs) (hI : (LI D tc s.heap.size (sa 3) O q ob od f g ad ar sp sd pd fd sums r w ns sw np pw nf fw spw t n rr ww H)) (hR : Rel j r w sums ns sw np pw nf fw spw q t n rr ww) (hj : j < 512) (h1 : vp_in (i + 1) L) (h2 : vp_in (i + 2) L) (h3 : vp_in (i + 3) L) (h4 : vp_in (i + 4) L) (hl : lv_has ls 10 [(5, .int i), (0, .ref b), (1, .ref (ar 0)), (2, .ref q), (3, .ref ob), (4, .ref od)]) (hf : cells + 1520 ≤ room_1.cells ∧ slots + 13000 ≤ room_1.slots) (hs : SIM_nameStorm Rel) (kk : ∀ (H1 : Heap) (locs1 : List Loc) (ls1 : Array Slot), va_S (old s.heap.size) s.heap H1 locs1 → LH Rel D tc s.heap.size (sa 3) q ob od ad ar (j + 1) H1 → lv_has ls1 10 [(5, .int i), (0, .ref b), (1, .ref (ar 0)), (2, .ref q), (3, .ref ob), (4, .ref od)] → W p l e room_1 s m args below meth c H1 locs1 (cells + 1520) (slots + 13000) Q (F0 m 2989 ls1 [])) : W p l e room_1 s m args below meth c H locs cells slots Q (F0 m 1256 ls []) := by
  have hx := X.1
  have hb := X.2.1
  unfold SIM_nameStorm at hs
  refine lv_aload_n hx hb dL_law_1256 rfl (lv_at hl 2 rfl) ?_
  refine lv_aload_n hx hb dL_law_1257 rfl (lv_at hl 1 rfl) ?_
  refine lv_iload hx hb dL_law_1258 (lv_at hl 0 rfl) ?_
  refine lv_iconst (v := 1) hx hb dL_law_1260 (by decide) ?_
  refine lv_iadd hx hb dL_law_1261 ?_
  refine va_sld hx hb hX hbl (Nat.not_le.mpr hbl) hS h1 dL_law_1262 ?_
  refine lv_aload_n hx hb dL_law_1263 rfl (lv_at hl 1 rfl) ?_
  refine lv_iload hx hb dL_law_1264 (lv_at hl 0 rfl) ?_
  refine lv_iconst (v := 2) hx hb dL_law_1266 (by decide) ?_
  refine lv_iadd hx hb dL_law_1267 ?_
  refine va_sld hx hb hX hbl (Nat.not_le.mpr hbl) hS h2 dL_law_1268 ?_
  refine lv_i2c (v := (chr9 (xs (i + 2).toNatClampNeg))) hx hb dL_law_1269 rfl ?_
  refine lv_aload_n hx hb dL_law_1270 rfl (lv_at hl 4 rfl) ?_
  have hw := hs j r w sums ns sw np pw nf fw spw q t n rr ww hj hR (xs (i + 1).toNatClampNeg) (chr9 (xs (i + 2).toNatClampNeg))
  refine lc_w (rest := []) X hN mw_225 hT hS hI (k_L_nameStorm l D tc s.heap.size sa H ob (xs (i + 1).toNatClampNeg) (chr9 (xs (i + 2).toNatClampNeg)) hI.1.1 (c_X8_nameStorm (l := l) (D := D) (tc := tc) (h0 := s.heap.size) (sa := sa) (H0 := H) (x1 := (xs (i + 1).toNatClampNeg)) (x2 := (chr9 (xs (i + 2).toNatClampNeg))) (hBr := hI.1.1) (hBw := hI.1.2.1) (hDr := (fun _ h g => Rg.ne h g (by omega))) (hA0 := (fun _ h => h.2.1)) (hlf := hlf) (hw := hw)) (fun _ => rfl) hI.2.2.1.1 (fun h => Rg.ne h hI.2.2.1.2 (by omega)) (fun x h => h.elim (fun e => e.2.1) (fun e => e ▸ hI.2.2.1.2.2.1)) (fun _ h => h.1)) dL_law_1271 hl.1 rfl rfl ⟨Nat.le_of_ble_eq_true rfl, Nat.le_of_ble_eq_true rfl⟩ (Nat.le_of_ble_eq_true rfl) ⟨bud0 hf.1 rfl, bud0 hf.2 rfl⟩ (fun H locs O f k1 w1 hS hI ho => ?_)
  refine W.eq (g2 := F0 m 1274 ls [.int k1]) rfl ?_
  obtain ⟨a9, hw, hfa⟩ : ∃ a9 : Int32, MM_nameStorm Rel j r w1 sums ns sw np pw nf fw spw q t n rr ww (xs (i + 1).toNatClampNeg) (chr9 (xs (i + 2).toNatClampNeg)) k1 a9 ∧ (k1 = 0 → f 0 = a9.toInt64) := by
    rcases ho with ⟨u, hp, e1, e2, e3⟩ | ⟨k, hp, e1, e3⟩
    · subst e1; subst e3; exact ⟨u.1, hp, fun _ => e2⟩
    · subst e1; subst e3; exact ⟨0, hp.2, fun h => absurd h (by rcases hp.1 with rfl | rfl | rfl <;> decide)⟩
  refine lv_istore (lv' := [(6, .int k1), (5, .int i), (0, .ref b), (1, .ref (ar 0)), (2, .ref q), (3, .ref ob), (4, .ref od)]) hx hb dL_law_1274 hl (by decide) rfl (fun ls hl => ?_)
  refine lv_aload_n hx hb dL_law_1276 rfl (lv_at hl 4 rfl) ?_
  refine lv_aload_n hx hb dL_law_1277 rfl (lv_at hl 2 rfl) ?_
  refine lv_iload hx hb dL_law_1278 (lv_at hl 1 rfl) ?_
  refine lv_iconst (v := 1) hx hb dL_law_1280 (by decide) ?_
  refine lv_iadd hx hb dL_law_1281 ?_
  refine va_sld hx hb hX hbl (Nat.not_le.mpr hbl) hS h1 dL_law_1282 ?_
  refine lv_aload_n hx hb dL_law_1283 rfl (lv_at hl 2 rfl) ?_
  refine lv_iload hx hb dL_law_1284 (lv_at hl 1 rfl) ?_
  refine lv_iconst (v := 2) hx hb dL_law_1286 (by decide) ?_
  refine lv_iadd hx hb dL_law_1287 ?_
  refine va_sld hx hb hX hbl (Nat.not_le.mpr hbl) hS h2 dL_law_1288 ?_
  refine lv_i2c (v := (chr9 (xs (i + 2).toNatClampNeg))) hx hb dL_law_1289 rfl ?_
  unfold MM_nameStorm at hw
  refine lm_w (rest := []) X m_L_228 hT hS hI (c_X13_nameStorm l D tc s.heap.size sa q (xs (i + 1).toNatClampNeg) (chr9 (xs (i + 2).toNatClampNeg)) H hI.2.1.1 hI.2.1.2 (fun _ h => h.2.1) hw) ((hI.2.1.1.one hI.2.1.2 rfl).recv X 0 rfl (q := (RX13, TX13, 5)) rfl) dL_law_1290 hl.1 rfl rfl ⟨Nat.le_of_ble_eq_true rfl, Nat.le_of_ble_eq_true rfl⟩ (Nat.le_of_ble_eq_true rfl) ⟨bud1 hf.1 rfl, bud1 hf.2 rfl⟩ (fun u H locs O hp hS hI => ?_)
  obtain ⟨b9, w9⟩ := u
  dsimp only at hp hI
  refine W.eq (g2 := F0 m 1293 ls [.int b9]) rfl ?_
  refine lv_istore (lv' := [(7, .int b9), (6, .int k1), (5, .int i), (0, .ref b), (1, .ref (ar 0)), (2, .ref q), (3, .ref ob), (4, .ref od)]) hx hb dL_law_1293 hl (by decide) rfl (fun ls hl => ?_)
  refine lv_aload_n hx hb dL_law_1295 rfl (lv_at hl 5 rfl) ?_
  refine lm_r (rest := []) X m_L_169 hT hS hI (c_X13_thrown l D tc s.heap.size sa q H hI.2.1.1 hI.2.1.2 (post := fun v => v = w9 q 0) rfl) ((hI.2.1.1.one hI.2.1.2 rfl).recv X 0 rfl (q := (RX13, TX13, 5)) rfl) dL_law_1296 hl.1 rfl rfl ⟨Nat.le_of_ble_eq_true rfl, Nat.le_of_ble_eq_true rfl⟩ (Nat.le_of_ble_eq_true rfl) ⟨bud2 hf.1 rfl, bud2 hf.2 rfl⟩ (fun u locs hu hS => ?_)
  refine W.eq (g2 := F0 m 1299 ls [.int k1]) (by rw [show u = k1 from (show u = w9 q 0 from hu).trans hp.1]; rfl) ?_
  have hR := hp.2.2
  refine lv_iload hx hb dL_law_1299 (lv_at hl 1 rfl) ?_
  refine lv_icmp_eq (tgt := 1306) hx hb dL_law_1301 (by decide) (fun _ => ?_) (fun hc0 => absurd rfl hc0)
  refine lv_iload hx hb dL_law_1306 (lv_at hl 1 rfl) ?_
  refine lv_if_ne (tgt := 1323) hx hb dL_law_1308 (by decide) (fun hc => ?_) (fun hc => ?_)
  · refine lv_goto (tgt := 2989) hx hb dL_law_1323 (by decide) ?_
    refine W.widen (k := cells + 1520) (n := slots + 13000) (wid3 rfl) (wid3 rfl) ?_
    exact kk H locs ls hS ⟨_, _, _, _, _, _, _, _, _, _, _, _, _, _, _, _, _, _, _, _, _, hI, hR⟩ (lv_sub hl [2, 3, 4, 5, 6, 7] rfl)
  · have eab : a9 = b9 := hp.2.1 hc
    subst eab
    have hfa := hfa hc
    refine lv_aload_n hx hb dL_law_1311 rfl (lv_at hl 6 rfl) ?_
    refine lv_iconst (v := 0) hx hb dL_law_1312 (by decide) ?_
    refine x_lald X dL_law_1313 hI.2.2.1.1 in01 ?_
    refine lv_iload hx hb dL_law_1314 (lv_at hl 0 rfl) ?_
    refine lv_i2l (v := a9.toInt64) hx hb dL_law_1316 rfl ?_
    refine W.lcmp hx hb dL_law_1317 ?_
    refine lv_if_eq (tgt := 1323) hx hb dL_law_1318 (by decide) (fun _ => ?_) (fun hc0 => absurd (lgc_eq hfa) hc0)
    refine lv_goto (tgt := 2989) hx hb dL_law_1323 (by decide) ?_
    refine W.widen (k := cells + 1520) (n := slots + 13000) (wid3 rfl) (wid3 rfl) ?_
    exact kk H locs ls hS ⟨_, _, _, _, _, _, _, _, _, _, _, _, _, _, _, _, _, _, _, _, _, hI, hR⟩ (lv_sub hl [2, 3, 4, 5, 6, 7] rfl)
set_option maxHeartbeats 4000000 in
theorem tc_findName {p : Program} {l : Launch} {e : Env} {s : State} {m : MethodId} {args : Array Value} {below : List Frame} {meth : Method} {c : Code} {H : Heap} {locs : List Loc} {cells slots : Nat} {Q : State → Prop} {D : va_G} {tc : Nat → ClassId} {ls : Array Slot} {sa : Nat → Nat} {b L j : Nat} {xs : Nat → Int32} {i : Int32} {O : Nat → Nat} {q ob od : Nat} {f : Nat → Int64} {g : Nat → UInt64} {ad ar : Nat → Nat} {sp : Option Nat} {sd pd fd : Nat → Nat → Nat} {sums : Nat → Int64} {r w : Dt} {ns : Nat} {sw : Nat → Dt} {np : Nat} {pw : Nat → Dt} {nf : Nat} {fw : Nat → Dt} {spw : Dt} {t n : Nat → Nat} {rr : Nat → Nat → Nat} {ww : Dt} (Rel : RLT) (X : Cx p c s m meth cL_law 10 RL D tc) (hN : NC s) (hT : ST s.heap.size sa s s.heap) (hlf : l.stackTraces = false) (hX : va_X b L xs s s.heap) (hbl : b < s.heap.size) (hS : va_S (old s.heap.size) s.heap H locs) (hI : (LI D tc s.heap.size (sa 3) O q ob od f g ad ar sp sd pd fd sums r w ns sw np pw nf fw spw t n rr ww H)) (hR : Rel j r w sums ns sw np pw nf fw spw q t n rr ww) (hj : j < 512) (h1 : vp_in (i + 1) L) (h2 : vp_in (i + 2) L) (h3 : vp_in (i + 3) L) (h4 : vp_in (i + 4) L) (hl : lv_has ls 10 [(5, .int i), (0, .ref b), (1, .ref (ar 0)), (2, .ref q), (3, .ref ob), (4, .ref od)]) (hf : cells + 1520 ≤ room_1.cells ∧ slots + 13000 ≤ room_1.slots) (hs : SIM_findName Rel) (kk : ∀ (H1 : Heap) (locs1 : List Loc) (ls1 : Array Slot), va_S (old s.heap.size) s.heap H1 locs1 → LH Rel D tc s.heap.size (sa 3) q ob od ad ar (j + 1) H1 → lv_has ls1 10 [(5, .int i), (0, .ref b), (1, .ref (ar 0)), (2, .ref q), (3, .ref ob), (4, .ref od)] → W p l e room_1 s m args below meth c H1 locs1 (cells + 1520) (slots + 13000) Q (F0 m 2989 ls1 [])) : W p l e room_1 s m args below meth c H locs cells slots Q (F0 m 1326 ls []) := by
  have hx := X.1
  have hb := X.2.1
  unfold SIM_findName at hs
  refine lv_aload_n hx hb dL_law_1326 rfl (lv_at hl 2 rfl) ?_
  refine lv_aload_n hx hb dL_law_1327 rfl (lv_at hl 1 rfl) ?_
  refine lv_iload hx hb dL_law_1328 (lv_at hl 0 rfl) ?_
  refine lv_iconst (v := 1) hx hb dL_law_1330 (by decide) ?_
  refine lv_iadd hx hb dL_law_1331 ?_
  refine va_sld hx hb hX hbl (Nat.not_le.mpr hbl) hS h1 dL_law_1332 ?_
  refine lv_i2c (v := (chr9 (xs (i + 1).toNatClampNeg))) hx hb dL_law_1333 rfl ?_
  refine lv_aload_n hx hb dL_law_1334 rfl (lv_at hl 4 rfl) ?_
  have hw := hs j r w sums ns sw np pw nf fw spw q t n rr ww hj hR (chr9 (xs (i + 1).toNatClampNeg))
  refine lc_ro (rest := []) X hN mw_229 hT hS hI (k_L_findName l D tc s.heap.size sa H ob (chr9 (xs (i + 1).toNatClampNeg)) hI.1.1 (c_X8_findName (l := l) (D := D) (tc := tc) (h0 := s.heap.size) (sa := sa) (H0 := H) (x1 := (chr9 (xs (i + 1).toNatClampNeg))) (hBr := hI.1.1) (hBw := hI.1.2.1) (hlf := hlf) (hw := hw)) (fun _ => rfl) hI.2.2.1.1 (fun h => h) (fun x h => h.elim False.elim (fun e => e ▸ hI.2.2.1.2.2.1)) (fun _ h => h.1)) dL_law_1335 hl.1 rfl rfl ⟨Nat.le_of_ble_eq_true rfl, Nat.le_of_ble_eq_true rfl⟩ (Nat.le_of_ble_eq_true rfl) ⟨bud0 hf.1 rfl, bud0 hf.2 rfl⟩ (fun H locs O f k1 hS hI ho => ?_)
  refine W.eq (g2 := F0 m 1338 ls [.int k1]) rfl ?_
  obtain ⟨a9, hw, hfa⟩ : ∃ a9 : Int32, MM_findName Rel j r w sums ns sw np pw nf fw spw q t n rr ww (chr9 (xs (i + 1).toNatClampNeg)) k1 a9 ∧ (k1 = 0 → f 0 = a9.toInt64) := by
    rcases ho with ⟨u, hp, e1, e2⟩ | ⟨k, hp, e1⟩
    · subst e1; exact ⟨u, hp, fun _ => e2⟩
    · subst e1; exact ⟨0, hp.2, fun h => absurd h (by rcases hp.1 with rfl | rfl <;> decide)⟩
  refine lv_istore (lv' := [(6, .int k1), (5, .int i), (0, .ref b), (1, .ref (ar 0)), (2, .ref q), (3, .ref ob), (4, .ref od)]) hx hb dL_law_1338 hl (by decide) rfl (fun ls hl => ?_)
  refine lv_aload_n hx hb dL_law_1340 rfl (lv_at hl 4 rfl) ?_
  refine lv_aload_n hx hb dL_law_1341 rfl (lv_at hl 2 rfl) ?_
  refine lv_iload hx hb dL_law_1342 (lv_at hl 1 rfl) ?_
  refine lv_iconst (v := 1) hx hb dL_law_1344 (by decide) ?_
  refine lv_iadd hx hb dL_law_1345 ?_
  refine va_sld hx hb hX hbl (Nat.not_le.mpr hbl) hS h1 dL_law_1346 ?_
  refine lv_i2c (v := (chr9 (xs (i + 1).toNatClampNeg))) hx hb dL_law_1347 rfl ?_
  unfold MM_findName at hw
  refine lm_w (rest := []) X m_L_232 hT hS hI (c_X13_findName l D tc s.heap.size sa q (chr9 (xs (i + 1).toNatClampNeg)) H hI.2.1.1 hI.2.1.2 (fun _ h => h.2.1) hw) ((hI.2.1.1.one hI.2.1.2 rfl).recv X 0 rfl (q := (RX13, TX13, 5)) rfl) dL_law_1348 hl.1 rfl rfl ⟨Nat.le_of_ble_eq_true rfl, Nat.le_of_ble_eq_true rfl⟩ (Nat.le_of_ble_eq_true rfl) ⟨bud1 hf.1 rfl, bud1 hf.2 rfl⟩ (fun u H locs O hp hS hI => ?_)
  obtain ⟨b9, w9⟩ := u
  dsimp only at hp hI
  refine W.eq (g2 := F0 m 1351 ls [.int b9]) rfl ?_
  refine lv_istore (lv' := [(7, .int b9), (6, .int k1), (5, .int i), (0, .ref b), (1, .ref (ar 0)), (2, .ref q), (3, .ref ob), (4, .ref od)]) hx hb dL_law_1351 hl (by decide) rfl (fun ls hl => ?_)
  refine lv_aload_n hx hb dL_law_1353 rfl (lv_at hl 5 rfl) ?_
  refine lm_r (rest := []) X m_L_169 hT hS hI (c_X13_thrown l D tc s.heap.size sa q H hI.2.1.1 hI.2.1.2 (post := fun v => v = w9 q 0) rfl) ((hI.2.1.1.one hI.2.1.2 rfl).recv X 0 rfl (q := (RX13, TX13, 5)) rfl) dL_law_1354 hl.1 rfl rfl ⟨Nat.le_of_ble_eq_true rfl, Nat.le_of_ble_eq_true rfl⟩ (Nat.le_of_ble_eq_true rfl) ⟨bud2 hf.1 rfl, bud2 hf.2 rfl⟩ (fun u locs hu hS => ?_)
  refine W.eq (g2 := F0 m 1357 ls [.int k1]) (by rw [show u = k1 from (show u = w9 q 0 from hu).trans hp.1]; rfl) ?_
  have hR := hp.2.2
  refine lv_iload hx hb dL_law_1357 (lv_at hl 1 rfl) ?_
  refine lv_icmp_eq (tgt := 1364) hx hb dL_law_1359 (by decide) (fun _ => ?_) (fun hc0 => absurd rfl hc0)
  refine lv_iload hx hb dL_law_1364 (lv_at hl 1 rfl) ?_
  refine lv_if_ne (tgt := 1381) hx hb dL_law_1366 (by decide) (fun hc => ?_) (fun hc => ?_)
  · refine lv_goto (tgt := 2989) hx hb dL_law_1381 (by decide) ?_
    refine W.widen (k := cells + 1520) (n := slots + 13000) (wid3 rfl) (wid3 rfl) ?_
    exact kk H locs ls hS ⟨_, _, _, _, _, _, _, _, _, _, _, _, _, _, _, _, _, _, _, _, _, hI, hR⟩ (lv_sub hl [2, 3, 4, 5, 6, 7] rfl)
  · have eab : a9 = b9 := hp.2.1 hc
    subst eab
    have hfa := hfa hc
    refine lv_aload_n hx hb dL_law_1369 rfl (lv_at hl 6 rfl) ?_
    refine lv_iconst (v := 0) hx hb dL_law_1370 (by decide) ?_
    refine x_lald X dL_law_1371 hI.2.2.1.1 in01 ?_
    refine lv_iload hx hb dL_law_1372 (lv_at hl 0 rfl) ?_
    refine lv_i2l (v := a9.toInt64) hx hb dL_law_1374 rfl ?_
    refine W.lcmp hx hb dL_law_1375 ?_
    refine lv_if_eq (tgt := 1381) hx hb dL_law_1376 (by decide) (fun _ => ?_) (fun hc0 => absurd (lgc_eq hfa) hc0)
    refine lv_goto (tgt := 2989) hx hb dL_law_1381 (by decide) ?_
    refine W.widen (k := cells + 1520) (n := slots + 13000) (wid3 rfl) (wid3 rfl) ?_
    exact kk H locs ls hS ⟨_, _, _, _, _, _, _, _, _, _, _, _, _, _, _, _, _, _, _, _, _, hI, hR⟩ (lv_sub hl [2, 3, 4, 5, 6, 7] rfl)
set_option maxHeartbeats 4000000 in
theorem tc_getLongitude {p : Program} {l : Launch} {e : Env} {s : State} {m : MethodId} {args : Array Value} {below : List Frame} {meth : Method} {c : Code} {H : Heap} {locs : List Loc} {cells slots : Nat} {Q : State → Prop} {D : va_G} {tc : Nat → ClassId} {ls : Array Slot} {sa : Nat → Nat} {b L j : Nat} {xs : Nat → Int32} {i : Int32} {O : Nat → Nat} {q ob od : Nat} {f : Nat → Int64} {g : Nat → UInt64} {ad ar : Nat → Nat} {sp : Option Nat} {sd pd fd : Nat → Nat → Nat} {sums : Nat → Int64} {r w : Dt} {ns : Nat} {sw : Nat → Dt} {np : Nat} {pw : Nat → Dt} {nf : Nat} {fw : Nat → Dt} {spw : Dt} {t n : Nat → Nat} {rr : Nat → Nat → Nat} {ww : Dt} (Rel : RLT) (X : Cx p c s m meth cL_law 10 RL D tc) (hN : NC s) (hT : ST s.heap.size sa s s.heap) (hlf : l.stackTraces = false) (hX : va_X b L xs s s.heap) (hbl : b < s.heap.size) (hS : va_S (old s.heap.size) s.heap H locs) (hI : (LI D tc s.heap.size (sa 3) O q ob od f g ad ar sp sd pd fd sums r w ns sw np pw nf fw spw t n rr ww H)) (hR : Rel j r w sums ns sw np pw nf fw spw q t n rr ww) (hj : j < 512) (h1 : vp_in (i + 1) L) (h2 : vp_in (i + 2) L) (h3 : vp_in (i + 3) L) (h4 : vp_in (i + 4) L) (hl : lv_has ls 10 [(5, .int i), (0, .ref b), (1, .ref (ar 0)), (2, .ref q), (3, .ref ob), (4, .ref od)]) (hf : cells + 1520 ≤ room_1.cells ∧ slots + 13000 ≤ room_1.slots) (hs : SIM_getLongitude Rel) (kk : ∀ (H1 : Heap) (locs1 : List Loc) (ls1 : Array Slot), va_S (old s.heap.size) s.heap H1 locs1 → LH Rel D tc s.heap.size (sa 3) q ob od ad ar (j + 1) H1 → lv_has ls1 10 [(5, .int i), (0, .ref b), (1, .ref (ar 0)), (2, .ref q), (3, .ref ob), (4, .ref od)] → W p l e room_1 s m args below meth c H1 locs1 (cells + 1520) (slots + 13000) Q (F0 m 2989 ls1 [])) : W p l e room_1 s m args below meth c H locs cells slots Q (F0 m 1384 ls []) := by
  have hx := X.1
  have hb := X.2.1
  unfold SIM_getLongitude at hs
  refine lv_aload_n hx hb dL_law_1384 rfl (lv_at hl 2 rfl) ?_
  refine lv_aload_n hx hb dL_law_1385 rfl (lv_at hl 1 rfl) ?_
  refine lv_iload hx hb dL_law_1386 (lv_at hl 0 rfl) ?_
  refine lv_iconst (v := 1) hx hb dL_law_1388 (by decide) ?_
  refine lv_iadd hx hb dL_law_1389 ?_
  refine va_sld hx hb hX hbl (Nat.not_le.mpr hbl) hS h1 dL_law_1390 ?_
  refine lv_aload_n hx hb dL_law_1391 rfl (lv_at hl 4 rfl) ?_
  have hw := hs j r w sums ns sw np pw nf fw spw q t n rr ww hj hR (xs (i + 1).toNatClampNeg)
  refine lc_ro (rest := []) X hN mw_233 hT hS hI (k_L_getLongitude l D tc s.heap.size sa H ob (xs (i + 1).toNatClampNeg) hI.1.1 (c_X8_getLongitude (l := l) (D := D) (tc := tc) (h0 := s.heap.size) (sa := sa) (H0 := H) (x1 := (xs (i + 1).toNatClampNeg)) (hBr := hI.1.1) (hBw := hI.1.2.1) (hlf := hlf) (hw := hw)) (fun _ => rfl) hI.2.2.1.1 (fun h => h) (fun x h => h.elim False.elim (fun e => e ▸ hI.2.2.1.2.2.1)) (fun _ h => h.1)) dL_law_1392 hl.1 rfl rfl ⟨Nat.le_of_ble_eq_true rfl, Nat.le_of_ble_eq_true rfl⟩ (Nat.le_of_ble_eq_true rfl) ⟨bud0 hf.1 rfl, bud0 hf.2 rfl⟩ (fun H locs O f k1 hS hI ho => ?_)
  refine W.eq (g2 := F0 m 1395 ls [.int k1]) rfl ?_
  obtain ⟨a9, hw, hfa⟩ : ∃ a9 : Int32, MM_getLongitude Rel j r w sums ns sw np pw nf fw spw q t n rr ww (xs (i + 1).toNatClampNeg) k1 a9 ∧ (k1 = 0 → f 0 = a9.toInt64) := by
    rcases ho with ⟨u, hp, e1, e2⟩ | ⟨k, hp, e1⟩
    · subst e1; exact ⟨u, hp, fun _ => e2⟩
    · subst e1; exact ⟨0, hp.2, fun h => absurd h (by rcases hp.1 with rfl | rfl <;> decide)⟩
  refine lv_istore (lv' := [(6, .int k1), (5, .int i), (0, .ref b), (1, .ref (ar 0)), (2, .ref q), (3, .ref ob), (4, .ref od)]) hx hb dL_law_1395 hl (by decide) rfl (fun ls hl => ?_)
  refine lv_aload_n hx hb dL_law_1397 rfl (lv_at hl 4 rfl) ?_
  refine lv_aload_n hx hb dL_law_1398 rfl (lv_at hl 2 rfl) ?_
  refine lv_iload hx hb dL_law_1399 (lv_at hl 1 rfl) ?_
  refine lv_iconst (v := 1) hx hb dL_law_1401 (by decide) ?_
  refine lv_iadd hx hb dL_law_1402 ?_
  refine va_sld hx hb hX hbl (Nat.not_le.mpr hbl) hS h1 dL_law_1403 ?_
  unfold MM_getLongitude at hw
  refine lm_w (rest := []) X m_L_235 hT hS hI (c_X13_getLongitude l D tc s.heap.size sa q (xs (i + 1).toNatClampNeg) H hI.2.1.1 hI.2.1.2 (fun _ h => h.2.1) hw) ((hI.2.1.1.one hI.2.1.2 rfl).recv X 0 rfl (q := (RX13, TX13, 5)) rfl) dL_law_1404 hl.1 rfl rfl ⟨Nat.le_of_ble_eq_true rfl, Nat.le_of_ble_eq_true rfl⟩ (Nat.le_of_ble_eq_true rfl) ⟨bud1 hf.1 rfl, bud1 hf.2 rfl⟩ (fun u H locs O hp hS hI => ?_)
  obtain ⟨b9, w9⟩ := u
  dsimp only at hp hI
  refine W.eq (g2 := F0 m 1407 ls [.int b9]) rfl ?_
  refine lv_istore (lv' := [(7, .int b9), (6, .int k1), (5, .int i), (0, .ref b), (1, .ref (ar 0)), (2, .ref q), (3, .ref ob), (4, .ref od)]) hx hb dL_law_1407 hl (by decide) rfl (fun ls hl => ?_)
  refine lv_aload_n hx hb dL_law_1409 rfl (lv_at hl 5 rfl) ?_
  refine lm_r (rest := []) X m_L_169 hT hS hI (c_X13_thrown l D tc s.heap.size sa q H hI.2.1.1 hI.2.1.2 (post := fun v => v = w9 q 0) rfl) ((hI.2.1.1.one hI.2.1.2 rfl).recv X 0 rfl (q := (RX13, TX13, 5)) rfl) dL_law_1410 hl.1 rfl rfl ⟨Nat.le_of_ble_eq_true rfl, Nat.le_of_ble_eq_true rfl⟩ (Nat.le_of_ble_eq_true rfl) ⟨bud2 hf.1 rfl, bud2 hf.2 rfl⟩ (fun u locs hu hS => ?_)
  refine W.eq (g2 := F0 m 1413 ls [.int k1]) (by rw [show u = k1 from (show u = w9 q 0 from hu).trans hp.1]; rfl) ?_
  have hR := hp.2.2
  refine lv_iload hx hb dL_law_1413 (lv_at hl 1 rfl) ?_
  refine lv_icmp_eq (tgt := 1420) hx hb dL_law_1415 (by decide) (fun _ => ?_) (fun hc0 => absurd rfl hc0)
  refine lv_iload hx hb dL_law_1420 (lv_at hl 1 rfl) ?_
  refine lv_if_ne (tgt := 1437) hx hb dL_law_1422 (by decide) (fun hc => ?_) (fun hc => ?_)
  · refine lv_goto (tgt := 2989) hx hb dL_law_1437 (by decide) ?_
    refine W.widen (k := cells + 1520) (n := slots + 13000) (wid3 rfl) (wid3 rfl) ?_
    exact kk H locs ls hS ⟨_, _, _, _, _, _, _, _, _, _, _, _, _, _, _, _, _, _, _, _, _, hI, hR⟩ (lv_sub hl [2, 3, 4, 5, 6, 7] rfl)
  · have eab : a9 = b9 := hp.2.1 hc
    subst eab
    have hfa := hfa hc
    refine lv_aload_n hx hb dL_law_1425 rfl (lv_at hl 6 rfl) ?_
    refine lv_iconst (v := 0) hx hb dL_law_1426 (by decide) ?_
    refine x_lald X dL_law_1427 hI.2.2.1.1 in01 ?_
    refine lv_iload hx hb dL_law_1428 (lv_at hl 0 rfl) ?_
    refine lv_i2l (v := a9.toInt64) hx hb dL_law_1430 rfl ?_
    refine W.lcmp hx hb dL_law_1431 ?_
    refine lv_if_eq (tgt := 1437) hx hb dL_law_1432 (by decide) (fun _ => ?_) (fun hc0 => absurd (lgc_eq hfa) hc0)
    refine lv_goto (tgt := 2989) hx hb dL_law_1437 (by decide) ?_
    refine W.widen (k := cells + 1520) (n := slots + 13000) (wid3 rfl) (wid3 rfl) ?_
    exact kk H locs ls hS ⟨_, _, _, _, _, _, _, _, _, _, _, _, _, _, _, _, _, _, _, _, _, hI, hR⟩ (lv_sub hl [2, 3, 4, 5, 6, 7] rfl)
set_option maxHeartbeats 4000000 in
theorem tc_getSize {p : Program} {l : Launch} {e : Env} {s : State} {m : MethodId} {args : Array Value} {below : List Frame} {meth : Method} {c : Code} {H : Heap} {locs : List Loc} {cells slots : Nat} {Q : State → Prop} {D : va_G} {tc : Nat → ClassId} {ls : Array Slot} {sa : Nat → Nat} {b L j : Nat} {xs : Nat → Int32} {i : Int32} {O : Nat → Nat} {q ob od : Nat} {f : Nat → Int64} {g : Nat → UInt64} {ad ar : Nat → Nat} {sp : Option Nat} {sd pd fd : Nat → Nat → Nat} {sums : Nat → Int64} {r w : Dt} {ns : Nat} {sw : Nat → Dt} {np : Nat} {pw : Nat → Dt} {nf : Nat} {fw : Nat → Dt} {spw : Dt} {t n : Nat → Nat} {rr : Nat → Nat → Nat} {ww : Dt} (Rel : RLT) (X : Cx p c s m meth cL_law 10 RL D tc) (hN : NC s) (hT : ST s.heap.size sa s s.heap) (hlf : l.stackTraces = false) (hX : va_X b L xs s s.heap) (hbl : b < s.heap.size) (hS : va_S (old s.heap.size) s.heap H locs) (hI : (LI D tc s.heap.size (sa 3) O q ob od f g ad ar sp sd pd fd sums r w ns sw np pw nf fw spw t n rr ww H)) (hR : Rel j r w sums ns sw np pw nf fw spw q t n rr ww) (hj : j < 512) (h1 : vp_in (i + 1) L) (h2 : vp_in (i + 2) L) (h3 : vp_in (i + 3) L) (h4 : vp_in (i + 4) L) (hl : lv_has ls 10 [(5, .int i), (0, .ref b), (1, .ref (ar 0)), (2, .ref q), (3, .ref ob), (4, .ref od)]) (hf : cells + 1520 ≤ room_1.cells ∧ slots + 13000 ≤ room_1.slots) (hs : SIM_getSize Rel) (kk : ∀ (H1 : Heap) (locs1 : List Loc) (ls1 : Array Slot), va_S (old s.heap.size) s.heap H1 locs1 → LH Rel D tc s.heap.size (sa 3) q ob od ad ar (j + 1) H1 → lv_has ls1 10 [(5, .int i), (0, .ref b), (1, .ref (ar 0)), (2, .ref q), (3, .ref ob), (4, .ref od)] → W p l e room_1 s m args below meth c H1 locs1 (cells + 1520) (slots + 13000) Q (F0 m 2989 ls1 [])) : W p l e room_1 s m args below meth c H locs cells slots Q (F0 m 1440 ls []) := by
  have hx := X.1
  have hb := X.2.1
  unfold SIM_getSize at hs
  refine lv_aload_n hx hb dL_law_1440 rfl (lv_at hl 2 rfl) ?_
  refine lv_aload_n hx hb dL_law_1441 rfl (lv_at hl 1 rfl) ?_
  refine lv_iload hx hb dL_law_1442 (lv_at hl 0 rfl) ?_
  refine lv_iconst (v := 1) hx hb dL_law_1444 (by decide) ?_
  refine lv_iadd hx hb dL_law_1445 ?_
  refine va_sld hx hb hX hbl (Nat.not_le.mpr hbl) hS h1 dL_law_1446 ?_
  refine lv_aload_n hx hb dL_law_1447 rfl (lv_at hl 4 rfl) ?_
  have hw := hs j r w sums ns sw np pw nf fw spw q t n rr ww hj hR (xs (i + 1).toNatClampNeg)
  refine lc_ro (rest := []) X hN mw_236 hT hS hI (k_L_getSize l D tc s.heap.size sa H ob (xs (i + 1).toNatClampNeg) hI.1.1 (c_X8_getSize (l := l) (D := D) (tc := tc) (h0 := s.heap.size) (sa := sa) (H0 := H) (x1 := (xs (i + 1).toNatClampNeg)) (hBr := hI.1.1) (hBw := hI.1.2.1) (hlf := hlf) (hw := hw)) (fun _ => rfl) hI.2.2.1.1 (fun h => h) (fun x h => h.elim False.elim (fun e => e ▸ hI.2.2.1.2.2.1)) (fun _ h => h.1)) dL_law_1448 hl.1 rfl rfl ⟨Nat.le_of_ble_eq_true rfl, Nat.le_of_ble_eq_true rfl⟩ (Nat.le_of_ble_eq_true rfl) ⟨bud0 hf.1 rfl, bud0 hf.2 rfl⟩ (fun H locs O f k1 hS hI ho => ?_)
  refine W.eq (g2 := F0 m 1451 ls [.int k1]) rfl ?_
  obtain ⟨a9, hw, hfa⟩ : ∃ a9 : Int32, MM_getSize Rel j r w sums ns sw np pw nf fw spw q t n rr ww (xs (i + 1).toNatClampNeg) k1 a9 ∧ (k1 = 0 → f 0 = a9.toInt64) := by
    rcases ho with ⟨u, hp, e1, e2⟩ | ⟨k, hp, e1⟩
    · subst e1; exact ⟨u, hp, fun _ => e2⟩
    · subst e1; exact ⟨0, hp.2, fun h => absurd h (by rcases hp.1 with rfl | rfl <;> decide)⟩
  refine lv_istore (lv' := [(6, .int k1), (5, .int i), (0, .ref b), (1, .ref (ar 0)), (2, .ref q), (3, .ref ob), (4, .ref od)]) hx hb dL_law_1451 hl (by decide) rfl (fun ls hl => ?_)
  refine lv_aload_n hx hb dL_law_1453 rfl (lv_at hl 4 rfl) ?_
  refine lv_aload_n hx hb dL_law_1454 rfl (lv_at hl 2 rfl) ?_
  refine lv_iload hx hb dL_law_1455 (lv_at hl 1 rfl) ?_
  refine lv_iconst (v := 1) hx hb dL_law_1457 (by decide) ?_
  refine lv_iadd hx hb dL_law_1458 ?_
  refine va_sld hx hb hX hbl (Nat.not_le.mpr hbl) hS h1 dL_law_1459 ?_
  unfold MM_getSize at hw
  refine lm_w (rest := []) X m_L_238 hT hS hI (c_X13_getSize l D tc s.heap.size sa q (xs (i + 1).toNatClampNeg) H hI.2.1.1 hI.2.1.2 (fun _ h => h.2.1) hw) ((hI.2.1.1.one hI.2.1.2 rfl).recv X 0 rfl (q := (RX13, TX13, 5)) rfl) dL_law_1460 hl.1 rfl rfl ⟨Nat.le_of_ble_eq_true rfl, Nat.le_of_ble_eq_true rfl⟩ (Nat.le_of_ble_eq_true rfl) ⟨bud1 hf.1 rfl, bud1 hf.2 rfl⟩ (fun u H locs O hp hS hI => ?_)
  obtain ⟨b9, w9⟩ := u
  dsimp only at hp hI
  refine W.eq (g2 := F0 m 1463 ls [.int b9]) rfl ?_
  refine lv_istore (lv' := [(7, .int b9), (6, .int k1), (5, .int i), (0, .ref b), (1, .ref (ar 0)), (2, .ref q), (3, .ref ob), (4, .ref od)]) hx hb dL_law_1463 hl (by decide) rfl (fun ls hl => ?_)
  refine lv_aload_n hx hb dL_law_1465 rfl (lv_at hl 5 rfl) ?_
  refine lm_r (rest := []) X m_L_169 hT hS hI (c_X13_thrown l D tc s.heap.size sa q H hI.2.1.1 hI.2.1.2 (post := fun v => v = w9 q 0) rfl) ((hI.2.1.1.one hI.2.1.2 rfl).recv X 0 rfl (q := (RX13, TX13, 5)) rfl) dL_law_1466 hl.1 rfl rfl ⟨Nat.le_of_ble_eq_true rfl, Nat.le_of_ble_eq_true rfl⟩ (Nat.le_of_ble_eq_true rfl) ⟨bud2 hf.1 rfl, bud2 hf.2 rfl⟩ (fun u locs hu hS => ?_)
  refine W.eq (g2 := F0 m 1469 ls [.int k1]) (by rw [show u = k1 from (show u = w9 q 0 from hu).trans hp.1]; rfl) ?_
  have hR := hp.2.2
  refine lv_iload hx hb dL_law_1469 (lv_at hl 1 rfl) ?_
  refine lv_icmp_eq (tgt := 1476) hx hb dL_law_1471 (by decide) (fun _ => ?_) (fun hc0 => absurd rfl hc0)
  refine lv_iload hx hb dL_law_1476 (lv_at hl 1 rfl) ?_
  refine lv_if_ne (tgt := 1493) hx hb dL_law_1478 (by decide) (fun hc => ?_) (fun hc => ?_)
  · refine lv_goto (tgt := 2989) hx hb dL_law_1493 (by decide) ?_
    refine W.widen (k := cells + 1520) (n := slots + 13000) (wid3 rfl) (wid3 rfl) ?_
    exact kk H locs ls hS ⟨_, _, _, _, _, _, _, _, _, _, _, _, _, _, _, _, _, _, _, _, _, hI, hR⟩ (lv_sub hl [2, 3, 4, 5, 6, 7] rfl)
  · have eab : a9 = b9 := hp.2.1 hc
    subst eab
    have hfa := hfa hc
    refine lv_aload_n hx hb dL_law_1481 rfl (lv_at hl 6 rfl) ?_
    refine lv_iconst (v := 0) hx hb dL_law_1482 (by decide) ?_
    refine x_lald X dL_law_1483 hI.2.2.1.1 in01 ?_
    refine lv_iload hx hb dL_law_1484 (lv_at hl 0 rfl) ?_
    refine lv_i2l (v := a9.toInt64) hx hb dL_law_1486 rfl ?_
    refine W.lcmp hx hb dL_law_1487 ?_
    refine lv_if_eq (tgt := 1493) hx hb dL_law_1488 (by decide) (fun _ => ?_) (fun hc0 => absurd (lgc_eq hfa) hc0)
    refine lv_goto (tgt := 2989) hx hb dL_law_1493 (by decide) ?_
    refine W.widen (k := cells + 1520) (n := slots + 13000) (wid3 rfl) (wid3 rfl) ?_
    exact kk H locs ls hS ⟨_, _, _, _, _, _, _, _, _, _, _, _, _, _, _, _, _, _, _, _, _, hI, hR⟩ (lv_sub hl [2, 3, 4, 5, 6, 7] rfl)
set_option maxHeartbeats 4000000 in
theorem tc_getAge {p : Program} {l : Launch} {e : Env} {s : State} {m : MethodId} {args : Array Value} {below : List Frame} {meth : Method} {c : Code} {H : Heap} {locs : List Loc} {cells slots : Nat} {Q : State → Prop} {D : va_G} {tc : Nat → ClassId} {ls : Array Slot} {sa : Nat → Nat} {b L j : Nat} {xs : Nat → Int32} {i : Int32} {O : Nat → Nat} {q ob od : Nat} {f : Nat → Int64} {g : Nat → UInt64} {ad ar : Nat → Nat} {sp : Option Nat} {sd pd fd : Nat → Nat → Nat} {sums : Nat → Int64} {r w : Dt} {ns : Nat} {sw : Nat → Dt} {np : Nat} {pw : Nat → Dt} {nf : Nat} {fw : Nat → Dt} {spw : Dt} {t n : Nat → Nat} {rr : Nat → Nat → Nat} {ww : Dt} (Rel : RLT) (X : Cx p c s m meth cL_law 10 RL D tc) (hN : NC s) (hT : ST s.heap.size sa s s.heap) (hlf : l.stackTraces = false) (hX : va_X b L xs s s.heap) (hbl : b < s.heap.size) (hS : va_S (old s.heap.size) s.heap H locs) (hI : (LI D tc s.heap.size (sa 3) O q ob od f g ad ar sp sd pd fd sums r w ns sw np pw nf fw spw t n rr ww H)) (hR : Rel j r w sums ns sw np pw nf fw spw q t n rr ww) (hj : j < 512) (h1 : vp_in (i + 1) L) (h2 : vp_in (i + 2) L) (h3 : vp_in (i + 3) L) (h4 : vp_in (i + 4) L) (hl : lv_has ls 10 [(5, .int i), (0, .ref b), (1, .ref (ar 0)), (2, .ref q), (3, .ref ob), (4, .ref od)]) (hf : cells + 1520 ≤ room_1.cells ∧ slots + 13000 ≤ room_1.slots) (hs : SIM_getAge Rel) (kk : ∀ (H1 : Heap) (locs1 : List Loc) (ls1 : Array Slot), va_S (old s.heap.size) s.heap H1 locs1 → LH Rel D tc s.heap.size (sa 3) q ob od ad ar (j + 1) H1 → lv_has ls1 10 [(5, .int i), (0, .ref b), (1, .ref (ar 0)), (2, .ref q), (3, .ref ob), (4, .ref od)] → W p l e room_1 s m args below meth c H1 locs1 (cells + 1520) (slots + 13000) Q (F0 m 2989 ls1 [])) : W p l e room_1 s m args below meth c H locs cells slots Q (F0 m 1496 ls []) := by
  have hx := X.1
  have hb := X.2.1
  unfold SIM_getAge at hs
  refine lv_aload_n hx hb dL_law_1496 rfl (lv_at hl 2 rfl) ?_
  refine lv_aload_n hx hb dL_law_1497 rfl (lv_at hl 1 rfl) ?_
  refine lv_iload hx hb dL_law_1498 (lv_at hl 0 rfl) ?_
  refine lv_iconst (v := 1) hx hb dL_law_1500 (by decide) ?_
  refine lv_iadd hx hb dL_law_1501 ?_
  refine va_sld hx hb hX hbl (Nat.not_le.mpr hbl) hS h1 dL_law_1502 ?_
  refine lv_aload_n hx hb dL_law_1503 rfl (lv_at hl 4 rfl) ?_
  have hw := hs j r w sums ns sw np pw nf fw spw q t n rr ww hj hR (xs (i + 1).toNatClampNeg)
  refine lc_ro (rest := []) X hN mw_239 hT hS hI (k_L_getAge l D tc s.heap.size sa H ob (xs (i + 1).toNatClampNeg) hI.1.1 (c_X8_getAge (l := l) (D := D) (tc := tc) (h0 := s.heap.size) (sa := sa) (H0 := H) (x1 := (xs (i + 1).toNatClampNeg)) (hBr := hI.1.1) (hBw := hI.1.2.1) (hlf := hlf) (hw := hw)) (fun _ => rfl) hI.2.2.1.1 (fun h => h) (fun x h => h.elim False.elim (fun e => e ▸ hI.2.2.1.2.2.1)) (fun _ h => h.1)) dL_law_1504 hl.1 rfl rfl ⟨Nat.le_of_ble_eq_true rfl, Nat.le_of_ble_eq_true rfl⟩ (Nat.le_of_ble_eq_true rfl) ⟨bud0 hf.1 rfl, bud0 hf.2 rfl⟩ (fun H locs O f k1 hS hI ho => ?_)
  refine W.eq (g2 := F0 m 1507 ls [.int k1]) rfl ?_
  obtain ⟨a9, hw, hfa⟩ : ∃ a9 : Int32, MM_getAge Rel j r w sums ns sw np pw nf fw spw q t n rr ww (xs (i + 1).toNatClampNeg) k1 a9 ∧ (k1 = 0 → f 0 = a9.toInt64) := by
    rcases ho with ⟨u, hp, e1, e2⟩ | ⟨k, hp, e1⟩
    · subst e1; exact ⟨u, hp, fun _ => e2⟩
    · subst e1; exact ⟨0, hp.2, fun h => absurd h (by have ek := hp.1; subst ek; decide)⟩
  refine lv_istore (lv' := [(6, .int k1), (5, .int i), (0, .ref b), (1, .ref (ar 0)), (2, .ref q), (3, .ref ob), (4, .ref od)]) hx hb dL_law_1507 hl (by decide) rfl (fun ls hl => ?_)
  refine lv_aload_n hx hb dL_law_1509 rfl (lv_at hl 4 rfl) ?_
  refine lv_aload_n hx hb dL_law_1510 rfl (lv_at hl 2 rfl) ?_
  refine lv_iload hx hb dL_law_1511 (lv_at hl 1 rfl) ?_
  refine lv_iconst (v := 1) hx hb dL_law_1513 (by decide) ?_
  refine lv_iadd hx hb dL_law_1514 ?_
  refine va_sld hx hb hX hbl (Nat.not_le.mpr hbl) hS h1 dL_law_1515 ?_
  unfold MM_getAge at hw
  refine lm_w (rest := []) X m_L_241 hT hS hI (c_X13_getAge l D tc s.heap.size sa q (xs (i + 1).toNatClampNeg) H hI.2.1.1 hI.2.1.2 (fun _ h => h.2.1) hw) ((hI.2.1.1.one hI.2.1.2 rfl).recv X 0 rfl (q := (RX13, TX13, 5)) rfl) dL_law_1516 hl.1 rfl rfl ⟨Nat.le_of_ble_eq_true rfl, Nat.le_of_ble_eq_true rfl⟩ (Nat.le_of_ble_eq_true rfl) ⟨bud1 hf.1 rfl, bud1 hf.2 rfl⟩ (fun u H locs O hp hS hI => ?_)
  obtain ⟨b9, w9⟩ := u
  dsimp only at hp hI
  refine W.eq (g2 := F0 m 1519 ls [.int b9]) rfl ?_
  refine lv_istore (lv' := [(7, .int b9), (6, .int k1), (5, .int i), (0, .ref b), (1, .ref (ar 0)), (2, .ref q), (3, .ref ob), (4, .ref od)]) hx hb dL_law_1519 hl (by decide) rfl (fun ls hl => ?_)
  refine lv_aload_n hx hb dL_law_1521 rfl (lv_at hl 5 rfl) ?_
  refine lm_r (rest := []) X m_L_169 hT hS hI (c_X13_thrown l D tc s.heap.size sa q H hI.2.1.1 hI.2.1.2 (post := fun v => v = w9 q 0) rfl) ((hI.2.1.1.one hI.2.1.2 rfl).recv X 0 rfl (q := (RX13, TX13, 5)) rfl) dL_law_1522 hl.1 rfl rfl ⟨Nat.le_of_ble_eq_true rfl, Nat.le_of_ble_eq_true rfl⟩ (Nat.le_of_ble_eq_true rfl) ⟨bud2 hf.1 rfl, bud2 hf.2 rfl⟩ (fun u locs hu hS => ?_)
  refine W.eq (g2 := F0 m 1525 ls [.int k1]) (by rw [show u = k1 from (show u = w9 q 0 from hu).trans hp.1]; rfl) ?_
  have hR := hp.2.2
  refine lv_iload hx hb dL_law_1525 (lv_at hl 1 rfl) ?_
  refine lv_icmp_eq (tgt := 1532) hx hb dL_law_1527 (by decide) (fun _ => ?_) (fun hc0 => absurd rfl hc0)
  refine lv_iload hx hb dL_law_1532 (lv_at hl 1 rfl) ?_
  refine lv_if_ne (tgt := 1549) hx hb dL_law_1534 (by decide) (fun hc => ?_) (fun hc => ?_)
  · refine lv_goto (tgt := 2989) hx hb dL_law_1549 (by decide) ?_
    refine W.widen (k := cells + 1520) (n := slots + 13000) (wid3 rfl) (wid3 rfl) ?_
    exact kk H locs ls hS ⟨_, _, _, _, _, _, _, _, _, _, _, _, _, _, _, _, _, _, _, _, _, hI, hR⟩ (lv_sub hl [2, 3, 4, 5, 6, 7] rfl)
  · have eab : a9 = b9 := hp.2.1 hc
    subst eab
    have hfa := hfa hc
    refine lv_aload_n hx hb dL_law_1537 rfl (lv_at hl 6 rfl) ?_
    refine lv_iconst (v := 0) hx hb dL_law_1538 (by decide) ?_
    refine x_lald X dL_law_1539 hI.2.2.1.1 in01 ?_
    refine lv_iload hx hb dL_law_1540 (lv_at hl 0 rfl) ?_
    refine lv_i2l (v := a9.toInt64) hx hb dL_law_1542 rfl ?_
    refine W.lcmp hx hb dL_law_1543 ?_
    refine lv_if_eq (tgt := 1549) hx hb dL_law_1544 (by decide) (fun _ => ?_) (fun hc0 => absurd (lgc_eq hfa) hc0)
    refine lv_goto (tgt := 2989) hx hb dL_law_1549 (by decide) ?_
    refine W.widen (k := cells + 1520) (n := slots + 13000) (wid3 rfl) (wid3 rfl) ?_
    exact kk H locs ls hS ⟨_, _, _, _, _, _, _, _, _, _, _, _, _, _, _, _, _, _, _, _, _, hI, hR⟩ (lv_sub hl [2, 3, 4, 5, 6, 7] rfl)
set_option maxHeartbeats 4000000 in
theorem tc_isThere {p : Program} {l : Launch} {e : Env} {s : State} {m : MethodId} {args : Array Value} {below : List Frame} {meth : Method} {c : Code} {H : Heap} {locs : List Loc} {cells slots : Nat} {Q : State → Prop} {D : va_G} {tc : Nat → ClassId} {ls : Array Slot} {sa : Nat → Nat} {b L j : Nat} {xs : Nat → Int32} {i : Int32} {O : Nat → Nat} {q ob od : Nat} {f : Nat → Int64} {g : Nat → UInt64} {ad ar : Nat → Nat} {sp : Option Nat} {sd pd fd : Nat → Nat → Nat} {sums : Nat → Int64} {r w : Dt} {ns : Nat} {sw : Nat → Dt} {np : Nat} {pw : Nat → Dt} {nf : Nat} {fw : Nat → Dt} {spw : Dt} {t n : Nat → Nat} {rr : Nat → Nat → Nat} {ww : Dt} (Rel : RLT) (X : Cx p c s m meth cL_law 10 RL D tc) (hN : NC s) (hT : ST s.heap.size sa s s.heap) (hlf : l.stackTraces = false) (hX : va_X b L xs s s.heap) (hbl : b < s.heap.size) (hS : va_S (old s.heap.size) s.heap H locs) (hI : (LI D tc s.heap.size (sa 3) O q ob od f g ad ar sp sd pd fd sums r w ns sw np pw nf fw spw t n rr ww H)) (hR : Rel j r w sums ns sw np pw nf fw spw q t n rr ww) (hj : j < 512) (h1 : vp_in (i + 1) L) (h2 : vp_in (i + 2) L) (h3 : vp_in (i + 3) L) (h4 : vp_in (i + 4) L) (hl : lv_has ls 10 [(5, .int i), (0, .ref b), (1, .ref (ar 0)), (2, .ref q), (3, .ref ob), (4, .ref od)]) (hf : cells + 1520 ≤ room_1.cells ∧ slots + 13000 ≤ room_1.slots) (hs : SIM_isThere Rel) (kk : ∀ (H1 : Heap) (locs1 : List Loc) (ls1 : Array Slot), va_S (old s.heap.size) s.heap H1 locs1 → LH Rel D tc s.heap.size (sa 3) q ob od ad ar (j + 1) H1 → lv_has ls1 10 [(5, .int i), (0, .ref b), (1, .ref (ar 0)), (2, .ref q), (3, .ref ob), (4, .ref od)] → W p l e room_1 s m args below meth c H1 locs1 (cells + 1520) (slots + 13000) Q (F0 m 2989 ls1 [])) : W p l e room_1 s m args below meth c H locs cells slots Q (F0 m 1552 ls []) := by
  have hx := X.1
  have hb := X.2.1
  unfold SIM_isThere at hs
  refine lv_aload_n hx hb dL_law_1552 rfl (lv_at hl 2 rfl) ?_
  refine lv_aload_n hx hb dL_law_1553 rfl (lv_at hl 1 rfl) ?_
  refine lv_iload hx hb dL_law_1554 (lv_at hl 0 rfl) ?_
  refine lv_iconst (v := 1) hx hb dL_law_1556 (by decide) ?_
  refine lv_iadd hx hb dL_law_1557 ?_
  refine va_sld hx hb hX hbl (Nat.not_le.mpr hbl) hS h1 dL_law_1558 ?_
  refine lv_aload_n hx hb dL_law_1559 rfl (lv_at hl 4 rfl) ?_
  have hw := hs j r w sums ns sw np pw nf fw spw q t n rr ww hj hR (xs (i + 1).toNatClampNeg)
  refine lc_ro (rest := []) X hN mw_242 hT hS hI (k_L_isThere l D tc s.heap.size sa H ob (xs (i + 1).toNatClampNeg) hI.1.1 (c_X8_isThere (l := l) (D := D) (tc := tc) (h0 := s.heap.size) (sa := sa) (H0 := H) (x1 := (xs (i + 1).toNatClampNeg)) (hBr := hI.1.1) (hBw := hI.1.2.1) (hlf := hlf) (hw := hw)) (fun _ => rfl) hI.2.2.1.1 (fun h => h) (fun x h => h.elim False.elim (fun e => e ▸ hI.2.2.1.2.2.1)) (fun _ h => h.1)) dL_law_1560 hl.1 rfl rfl ⟨Nat.le_of_ble_eq_true rfl, Nat.le_of_ble_eq_true rfl⟩ (Nat.le_of_ble_eq_true rfl) ⟨bud0 hf.1 rfl, bud0 hf.2 rfl⟩ (fun H locs O f k1 hS hI ho => ?_)
  refine W.eq (g2 := F0 m 1563 ls [.int k1]) rfl ?_
  obtain ⟨a9, hw, hfa⟩ : ∃ a9 : Int32, MM_isThere Rel j r w sums ns sw np pw nf fw spw q t n rr ww (xs (i + 1).toNatClampNeg) k1 a9 ∧ (k1 = 0 → f 0 = if a9 = 0 then 0 else 1) := by
    rcases ho with ⟨u, hp, e1, e2⟩ | ⟨k, hp, e1⟩
    · subst e1; exact ⟨u, hp, fun _ => e2⟩
    · subst e1; exact ⟨0, hp.2, fun h => absurd h (by have ek := hp.1; subst ek; decide)⟩
  refine lv_istore (lv' := [(6, .int k1), (5, .int i), (0, .ref b), (1, .ref (ar 0)), (2, .ref q), (3, .ref ob), (4, .ref od)]) hx hb dL_law_1563 hl (by decide) rfl (fun ls hl => ?_)
  refine lv_aload_n hx hb dL_law_1565 rfl (lv_at hl 4 rfl) ?_
  refine lv_aload_n hx hb dL_law_1566 rfl (lv_at hl 2 rfl) ?_
  refine lv_iload hx hb dL_law_1567 (lv_at hl 1 rfl) ?_
  refine lv_iconst (v := 1) hx hb dL_law_1569 (by decide) ?_
  refine lv_iadd hx hb dL_law_1570 ?_
  refine va_sld hx hb hX hbl (Nat.not_le.mpr hbl) hS h1 dL_law_1571 ?_
  unfold MM_isThere at hw
  refine lm_w (rest := []) X m_L_244 hT hS hI (c_X13_isThere l D tc s.heap.size sa q (xs (i + 1).toNatClampNeg) H hI.2.1.1 hI.2.1.2 (fun _ h => h.2.1) hw) ((hI.2.1.1.one hI.2.1.2 rfl).recv X 0 rfl (q := (RX13, TX13, 5)) rfl) dL_law_1572 hl.1 rfl rfl ⟨Nat.le_of_ble_eq_true rfl, Nat.le_of_ble_eq_true rfl⟩ (Nat.le_of_ble_eq_true rfl) ⟨bud1 hf.1 rfl, bud1 hf.2 rfl⟩ (fun u H locs O hp hS hI => ?_)
  obtain ⟨b9, w9⟩ := u
  dsimp only at hp hI
  refine W.eq (g2 := F0 m 1575 ls [.int b9]) rfl ?_
  refine lv_istore (lv' := [(7, .int b9), (6, .int k1), (5, .int i), (0, .ref b), (1, .ref (ar 0)), (2, .ref q), (3, .ref ob), (4, .ref od)]) hx hb dL_law_1575 hl (by decide) rfl (fun ls hl => ?_)
  refine lv_aload_n hx hb dL_law_1577 rfl (lv_at hl 5 rfl) ?_
  refine lm_r (rest := []) X m_L_169 hT hS hI (c_X13_thrown l D tc s.heap.size sa q H hI.2.1.1 hI.2.1.2 (post := fun v => v = w9 q 0) rfl) ((hI.2.1.1.one hI.2.1.2 rfl).recv X 0 rfl (q := (RX13, TX13, 5)) rfl) dL_law_1578 hl.1 rfl rfl ⟨Nat.le_of_ble_eq_true rfl, Nat.le_of_ble_eq_true rfl⟩ (Nat.le_of_ble_eq_true rfl) ⟨bud2 hf.1 rfl, bud2 hf.2 rfl⟩ (fun u locs hu hS => ?_)
  refine W.eq (g2 := F0 m 1581 ls [.int k1]) (by rw [show u = k1 from (show u = w9 q 0 from hu).trans hp.1]; rfl) ?_
  have hR := hp.2.2
  refine lv_iload hx hb dL_law_1581 (lv_at hl 1 rfl) ?_
  refine lv_icmp_eq (tgt := 1588) hx hb dL_law_1583 (by decide) (fun _ => ?_) (fun hc0 => absurd rfl hc0)
  refine lv_iload hx hb dL_law_1588 (lv_at hl 1 rfl) ?_
  refine lv_if_ne (tgt := 1612) hx hb dL_law_1590 (by decide) (fun hc => ?_) (fun hc => ?_)
  · refine lv_goto (tgt := 2989) hx hb dL_law_1612 (by decide) ?_
    refine W.widen (k := cells + 1520) (n := slots + 13000) (wid3 rfl) (wid3 rfl) ?_
    exact kk H locs ls hS ⟨_, _, _, _, _, _, _, _, _, _, _, _, _, _, _, _, _, _, _, _, _, hI, hR⟩ (lv_sub hl [2, 3, 4, 5, 6, 7] rfl)
  · have eab : a9 = b9 := hp.2.1 hc
    subst eab
    have hfa := hfa hc
    refine lv_aload_n hx hb dL_law_1593 rfl (lv_at hl 6 rfl) ?_
    refine lv_iconst (v := 0) hx hb dL_law_1594 (by decide) ?_
    refine x_lald X dL_law_1595 hI.2.2.1.1 in01 ?_
    refine lv_iload hx hb dL_law_1596 (lv_at hl 0 rfl) ?_
    refine lv_if_eq (tgt := 1605) hx hb dL_law_1598 (by decide) (fun hc2 => ?_) (fun hc2 => ?_)
    · rw [if_pos hc2] at hfa
      refine lv_lconst (v := 0) hx hb dL_law_1605 (by decide) ?_
      refine W.lcmp hx hb dL_law_1606 ?_
      refine lv_if_eq (tgt := 1612) hx hb dL_law_1607 (by decide) (fun _ => ?_) (fun hc0 => absurd (lgc_eq hfa) hc0)
      refine lv_goto (tgt := 2989) hx hb dL_law_1612 (by decide) ?_
      refine W.widen (k := cells + 1520) (n := slots + 13000) (wid3 rfl) (wid3 rfl) ?_
      exact kk H locs ls hS ⟨_, _, _, _, _, _, _, _, _, _, _, _, _, _, _, _, _, _, _, _, _, hI, hR⟩ (lv_sub hl [2, 3, 4, 5, 6, 7] rfl)
    · rw [if_neg hc2] at hfa
      refine lv_lconst (v := 1) hx hb dL_law_1601 (by decide) ?_
      refine lv_goto (tgt := 1606) hx hb dL_law_1602 (by decide) ?_
      refine W.lcmp hx hb dL_law_1606 ?_
      refine lv_if_eq (tgt := 1612) hx hb dL_law_1607 (by decide) (fun _ => ?_) (fun hc0 => absurd (lgc_eq hfa) hc0)
      refine lv_goto (tgt := 2989) hx hb dL_law_1612 (by decide) ?_
      refine W.widen (k := cells + 1520) (n := slots + 13000) (wid3 rfl) (wid3 rfl) ?_
      exact kk H locs ls hS ⟨_, _, _, _, _, _, _, _, _, _, _, _, _, _, _, _, _, _, _, _, _, hI, hR⟩ (lv_sub hl [2, 3, 4, 5, 6, 7] rfl)
set_option maxHeartbeats 4000000 in
theorem tc_livesIn {p : Program} {l : Launch} {e : Env} {s : State} {m : MethodId} {args : Array Value} {below : List Frame} {meth : Method} {c : Code} {H : Heap} {locs : List Loc} {cells slots : Nat} {Q : State → Prop} {D : va_G} {tc : Nat → ClassId} {ls : Array Slot} {sa : Nat → Nat} {b L j : Nat} {xs : Nat → Int32} {i : Int32} {O : Nat → Nat} {q ob od : Nat} {f : Nat → Int64} {g : Nat → UInt64} {ad ar : Nat → Nat} {sp : Option Nat} {sd pd fd : Nat → Nat → Nat} {sums : Nat → Int64} {r w : Dt} {ns : Nat} {sw : Nat → Dt} {np : Nat} {pw : Nat → Dt} {nf : Nat} {fw : Nat → Dt} {spw : Dt} {t n : Nat → Nat} {rr : Nat → Nat → Nat} {ww : Dt} (Rel : RLT) (X : Cx p c s m meth cL_law 10 RL D tc) (hN : NC s) (hT : ST s.heap.size sa s s.heap) (hlf : l.stackTraces = false) (hX : va_X b L xs s s.heap) (hbl : b < s.heap.size) (hS : va_S (old s.heap.size) s.heap H locs) (hI : (LI D tc s.heap.size (sa 3) O q ob od f g ad ar sp sd pd fd sums r w ns sw np pw nf fw spw t n rr ww H)) (hR : Rel j r w sums ns sw np pw nf fw spw q t n rr ww) (hj : j < 512) (h1 : vp_in (i + 1) L) (h2 : vp_in (i + 2) L) (h3 : vp_in (i + 3) L) (h4 : vp_in (i + 4) L) (hl : lv_has ls 10 [(5, .int i), (0, .ref b), (1, .ref (ar 0)), (2, .ref q), (3, .ref ob), (4, .ref od)]) (hf : cells + 1520 ≤ room_1.cells ∧ slots + 13000 ≤ room_1.slots) (hs : SIM_livesIn Rel) (kk : ∀ (H1 : Heap) (locs1 : List Loc) (ls1 : Array Slot), va_S (old s.heap.size) s.heap H1 locs1 → LH Rel D tc s.heap.size (sa 3) q ob od ad ar (j + 1) H1 → lv_has ls1 10 [(5, .int i), (0, .ref b), (1, .ref (ar 0)), (2, .ref q), (3, .ref ob), (4, .ref od)] → W p l e room_1 s m args below meth c H1 locs1 (cells + 1520) (slots + 13000) Q (F0 m 2989 ls1 [])) : W p l e room_1 s m args below meth c H locs cells slots Q (F0 m 1615 ls []) := by
  have hx := X.1
  have hb := X.2.1
  unfold SIM_livesIn at hs
  refine lv_aload_n hx hb dL_law_1615 rfl (lv_at hl 2 rfl) ?_
  refine lv_aload_n hx hb dL_law_1616 rfl (lv_at hl 1 rfl) ?_
  refine lv_iload hx hb dL_law_1617 (lv_at hl 0 rfl) ?_
  refine lv_iconst (v := 1) hx hb dL_law_1619 (by decide) ?_
  refine lv_iadd hx hb dL_law_1620 ?_
  refine va_sld hx hb hX hbl (Nat.not_le.mpr hbl) hS h1 dL_law_1621 ?_
  refine lv_aload_n hx hb dL_law_1622 rfl (lv_at hl 4 rfl) ?_
  have hw := hs j r w sums ns sw np pw nf fw spw q t n rr ww hj hR (xs (i + 1).toNatClampNeg)
  refine lc_ro (rest := []) X hN mw_245 hT hS hI (k_L_livesIn l D tc s.heap.size sa H ob (xs (i + 1).toNatClampNeg) hI.1.1 (c_X8_livesIn (l := l) (D := D) (tc := tc) (h0 := s.heap.size) (sa := sa) (H0 := H) (x1 := (xs (i + 1).toNatClampNeg)) (hBr := hI.1.1) (hBw := hI.1.2.1) (hlf := hlf) (hw := hw)) (fun _ => rfl) hI.2.2.1.1 (fun h => h) (fun x h => h.elim False.elim (fun e => e ▸ hI.2.2.1.2.2.1)) (fun _ h => h.1)) dL_law_1623 hl.1 rfl rfl ⟨Nat.le_of_ble_eq_true rfl, Nat.le_of_ble_eq_true rfl⟩ (Nat.le_of_ble_eq_true rfl) ⟨bud0 hf.1 rfl, bud0 hf.2 rfl⟩ (fun H locs O f k1 hS hI ho => ?_)
  refine W.eq (g2 := F0 m 1626 ls [.int k1]) rfl ?_
  obtain ⟨a9, hw, hfa⟩ : ∃ a9 : Int32, MM_livesIn Rel j r w sums ns sw np pw nf fw spw q t n rr ww (xs (i + 1).toNatClampNeg) k1 a9 ∧ (k1 = 0 → f 0 = a9.toInt64) := by
    rcases ho with ⟨u, hp, e1, e2⟩ | ⟨k, hp, e1⟩
    · subst e1; exact ⟨u, hp, fun _ => e2⟩
    · subst e1; exact ⟨0, hp.2, fun h => absurd h (by rcases hp.1 with rfl | rfl <;> decide)⟩
  refine lv_istore (lv' := [(6, .int k1), (5, .int i), (0, .ref b), (1, .ref (ar 0)), (2, .ref q), (3, .ref ob), (4, .ref od)]) hx hb dL_law_1626 hl (by decide) rfl (fun ls hl => ?_)
  refine lv_aload_n hx hb dL_law_1628 rfl (lv_at hl 4 rfl) ?_
  refine lv_aload_n hx hb dL_law_1629 rfl (lv_at hl 2 rfl) ?_
  refine lv_iload hx hb dL_law_1630 (lv_at hl 1 rfl) ?_
  refine lv_iconst (v := 1) hx hb dL_law_1632 (by decide) ?_
  refine lv_iadd hx hb dL_law_1633 ?_
  refine va_sld hx hb hX hbl (Nat.not_le.mpr hbl) hS h1 dL_law_1634 ?_
  unfold MM_livesIn at hw
  refine lm_w (rest := []) X m_L_247 hT hS hI (c_X13_livesIn l D tc s.heap.size sa q (xs (i + 1).toNatClampNeg) H hI.2.1.1 hI.2.1.2 (fun _ h => h.2.1) hw) ((hI.2.1.1.one hI.2.1.2 rfl).recv X 0 rfl (q := (RX13, TX13, 5)) rfl) dL_law_1635 hl.1 rfl rfl ⟨Nat.le_of_ble_eq_true rfl, Nat.le_of_ble_eq_true rfl⟩ (Nat.le_of_ble_eq_true rfl) ⟨bud1 hf.1 rfl, bud1 hf.2 rfl⟩ (fun u H locs O hp hS hI => ?_)
  obtain ⟨b9, w9⟩ := u
  dsimp only at hp hI
  refine W.eq (g2 := F0 m 1638 ls [.int b9]) rfl ?_
  refine lv_istore (lv' := [(7, .int b9), (6, .int k1), (5, .int i), (0, .ref b), (1, .ref (ar 0)), (2, .ref q), (3, .ref ob), (4, .ref od)]) hx hb dL_law_1638 hl (by decide) rfl (fun ls hl => ?_)
  refine lv_aload_n hx hb dL_law_1640 rfl (lv_at hl 5 rfl) ?_
  refine lm_r (rest := []) X m_L_169 hT hS hI (c_X13_thrown l D tc s.heap.size sa q H hI.2.1.1 hI.2.1.2 (post := fun v => v = w9 q 0) rfl) ((hI.2.1.1.one hI.2.1.2 rfl).recv X 0 rfl (q := (RX13, TX13, 5)) rfl) dL_law_1641 hl.1 rfl rfl ⟨Nat.le_of_ble_eq_true rfl, Nat.le_of_ble_eq_true rfl⟩ (Nat.le_of_ble_eq_true rfl) ⟨bud2 hf.1 rfl, bud2 hf.2 rfl⟩ (fun u locs hu hS => ?_)
  refine W.eq (g2 := F0 m 1644 ls [.int k1]) (by rw [show u = k1 from (show u = w9 q 0 from hu).trans hp.1]; rfl) ?_
  have hR := hp.2.2
  refine lv_iload hx hb dL_law_1644 (lv_at hl 1 rfl) ?_
  refine lv_icmp_eq (tgt := 1651) hx hb dL_law_1646 (by decide) (fun _ => ?_) (fun hc0 => absurd rfl hc0)
  refine lv_iload hx hb dL_law_1651 (lv_at hl 1 rfl) ?_
  refine lv_if_ne (tgt := 1668) hx hb dL_law_1653 (by decide) (fun hc => ?_) (fun hc => ?_)
  · refine lv_goto (tgt := 2989) hx hb dL_law_1668 (by decide) ?_
    refine W.widen (k := cells + 1520) (n := slots + 13000) (wid3 rfl) (wid3 rfl) ?_
    exact kk H locs ls hS ⟨_, _, _, _, _, _, _, _, _, _, _, _, _, _, _, _, _, _, _, _, _, hI, hR⟩ (lv_sub hl [2, 3, 4, 5, 6, 7] rfl)
  · have eab : a9 = b9 := hp.2.1 hc
    subst eab
    have hfa := hfa hc
    refine lv_aload_n hx hb dL_law_1656 rfl (lv_at hl 6 rfl) ?_
    refine lv_iconst (v := 0) hx hb dL_law_1657 (by decide) ?_
    refine x_lald X dL_law_1658 hI.2.2.1.1 in01 ?_
    refine lv_iload hx hb dL_law_1659 (lv_at hl 0 rfl) ?_
    refine lv_i2l (v := a9.toInt64) hx hb dL_law_1661 rfl ?_
    refine W.lcmp hx hb dL_law_1662 ?_
    refine lv_if_eq (tgt := 1668) hx hb dL_law_1663 (by decide) (fun _ => ?_) (fun hc0 => absurd (lgc_eq hfa) hc0)
    refine lv_goto (tgt := 2989) hx hb dL_law_1668 (by decide) ?_
    refine W.widen (k := cells + 1520) (n := slots + 13000) (wid3 rfl) (wid3 rfl) ?_
    exact kk H locs ls hS ⟨_, _, _, _, _, _, _, _, _, _, _, _, _, _, _, _, _, _, _, _, _, hI, hR⟩ (lv_sub hl [2, 3, 4, 5, 6, 7] rfl)
set_option maxHeartbeats 4000000 in
theorem tc_burst {p : Program} {l : Launch} {e : Env} {s : State} {m : MethodId} {args : Array Value} {below : List Frame} {meth : Method} {c : Code} {H : Heap} {locs : List Loc} {cells slots : Nat} {Q : State → Prop} {D : va_G} {tc : Nat → ClassId} {ls : Array Slot} {sa : Nat → Nat} {b L j : Nat} {xs : Nat → Int32} {i : Int32} {O : Nat → Nat} {q ob od : Nat} {f : Nat → Int64} {g : Nat → UInt64} {ad ar : Nat → Nat} {sp : Option Nat} {sd pd fd : Nat → Nat → Nat} {sums : Nat → Int64} {r w : Dt} {ns : Nat} {sw : Nat → Dt} {np : Nat} {pw : Nat → Dt} {nf : Nat} {fw : Nat → Dt} {spw : Dt} {t n : Nat → Nat} {rr : Nat → Nat → Nat} {ww : Dt} (Rel : RLT) (X : Cx p c s m meth cL_law 10 RL D tc) (hN : NC s) (hT : ST s.heap.size sa s s.heap) (hlf : l.stackTraces = false) (hX : va_X b L xs s s.heap) (hbl : b < s.heap.size) (hS : va_S (old s.heap.size) s.heap H locs) (hI : (LI D tc s.heap.size (sa 3) O q ob od f g ad ar sp sd pd fd sums r w ns sw np pw nf fw spw t n rr ww H)) (hR : Rel j r w sums ns sw np pw nf fw spw q t n rr ww) (hj : j < 512) (h1 : vp_in (i + 1) L) (h2 : vp_in (i + 2) L) (h3 : vp_in (i + 3) L) (h4 : vp_in (i + 4) L) (hl : lv_has ls 10 [(5, .int i), (0, .ref b), (1, .ref (ar 0)), (2, .ref q), (3, .ref ob), (4, .ref od)]) (hf : cells + 1520 ≤ room_1.cells ∧ slots + 13000 ≤ room_1.slots) (hs : SIM_burst Rel) (kk : ∀ (H1 : Heap) (locs1 : List Loc) (ls1 : Array Slot), va_S (old s.heap.size) s.heap H1 locs1 → LH Rel D tc s.heap.size (sa 3) q ob od ad ar (j + 1) H1 → lv_has ls1 10 [(5, .int i), (0, .ref b), (1, .ref (ar 0)), (2, .ref q), (3, .ref ob), (4, .ref od)] → W p l e room_1 s m args below meth c H1 locs1 (cells + 1520) (slots + 13000) Q (F0 m 2989 ls1 [])) : W p l e room_1 s m args below meth c H locs cells slots Q (F0 m 1671 ls []) := by
  have hx := X.1
  have hb := X.2.1
  unfold SIM_burst at hs
  refine lv_aload_n hx hb dL_law_1671 rfl (lv_at hl 2 rfl) ?_
  refine lv_aload_n hx hb dL_law_1672 rfl (lv_at hl 1 rfl) ?_
  refine lv_iload hx hb dL_law_1673 (lv_at hl 0 rfl) ?_
  refine lv_iconst (v := 1) hx hb dL_law_1675 (by decide) ?_
  refine lv_iadd hx hb dL_law_1676 ?_
  refine va_sld hx hb hX hbl (Nat.not_le.mpr hbl) hS h1 dL_law_1677 ?_
  refine lv_aload_n hx hb dL_law_1678 rfl (lv_at hl 1 rfl) ?_
  refine lv_iload hx hb dL_law_1679 (lv_at hl 0 rfl) ?_
  refine lv_iconst (v := 2) hx hb dL_law_1681 (by decide) ?_
  refine lv_iadd hx hb dL_law_1682 ?_
  refine va_sld hx hb hX hbl (Nat.not_le.mpr hbl) hS h2 dL_law_1683 ?_
  refine lv_aload_n hx hb dL_law_1684 rfl (lv_at hl 4 rfl) ?_
  have hw := hs j r w sums ns sw np pw nf fw spw q t n rr ww hj hR (xs (i + 1).toNatClampNeg) (xs (i + 2).toNatClampNeg)
  refine lc_w (rest := []) X hN mw_248 hT hS hI (k_L_burst l D tc s.heap.size sa H ob (xs (i + 1).toNatClampNeg) (xs (i + 2).toNatClampNeg) hI.1.1 (c_X8_burst (l := l) (D := D) (tc := tc) (h0 := s.heap.size) (sa := sa) (H0 := H) (x1 := (xs (i + 1).toNatClampNeg)) (x2 := (xs (i + 2).toNatClampNeg)) (hBr := hI.1.1) (hBw := hI.1.2.1) (hDr := (fun _ h g => Rg.ne h g (by omega))) (hA0 := (fun _ h => h.2.1)) (hlf := hlf) (hw := hw)) (fun _ => rfl) hI.2.2.1.1 (fun h => Rg.ne h hI.2.2.1.2 (by omega)) (fun x h => h.elim (fun e => e.2.1) (fun e => e ▸ hI.2.2.1.2.2.1)) (fun _ h => h.1)) dL_law_1685 hl.1 rfl rfl ⟨Nat.le_of_ble_eq_true rfl, Nat.le_of_ble_eq_true rfl⟩ (Nat.le_of_ble_eq_true rfl) ⟨bud0 hf.1 rfl, bud0 hf.2 rfl⟩ (fun H locs O f k1 w1 hS hI ho => ?_)
  refine W.eq (g2 := F0 m 1688 ls [.int k1]) rfl ?_
  obtain ⟨a9, hw, hfa⟩ : ∃ a9 : Int32, MM_burst Rel j r w1 sums ns sw np pw nf fw spw q t n rr ww (xs (i + 1).toNatClampNeg) (xs (i + 2).toNatClampNeg) k1 a9 ∧ (k1 = 0 → f 0 = a9.toInt64) := by
    rcases ho with ⟨u, hp, e1, e2, e3⟩ | ⟨k, hp, e1, e3⟩
    · subst e1; subst e3; exact ⟨u.1, hp, fun _ => e2⟩
    · subst e1; subst e3; exact ⟨0, hp.2, fun h => absurd h (by rcases hp.1 with rfl | rfl | rfl | rfl <;> decide)⟩
  refine lv_istore (lv' := [(6, .int k1), (5, .int i), (0, .ref b), (1, .ref (ar 0)), (2, .ref q), (3, .ref ob), (4, .ref od)]) hx hb dL_law_1688 hl (by decide) rfl (fun ls hl => ?_)
  refine lv_aload_n hx hb dL_law_1690 rfl (lv_at hl 4 rfl) ?_
  refine lv_aload_n hx hb dL_law_1691 rfl (lv_at hl 2 rfl) ?_
  refine lv_iload hx hb dL_law_1692 (lv_at hl 1 rfl) ?_
  refine lv_iconst (v := 1) hx hb dL_law_1694 (by decide) ?_
  refine lv_iadd hx hb dL_law_1695 ?_
  refine va_sld hx hb hX hbl (Nat.not_le.mpr hbl) hS h1 dL_law_1696 ?_
  refine lv_aload_n hx hb dL_law_1697 rfl (lv_at hl 2 rfl) ?_
  refine lv_iload hx hb dL_law_1698 (lv_at hl 1 rfl) ?_
  refine lv_iconst (v := 2) hx hb dL_law_1700 (by decide) ?_
  refine lv_iadd hx hb dL_law_1701 ?_
  refine va_sld hx hb hX hbl (Nat.not_le.mpr hbl) hS h2 dL_law_1702 ?_
  unfold MM_burst at hw
  refine lm_g (rest := []) X m_L_250 hT hS hI (c_X13_burst l D tc s.heap.size sa q (xs (i + 1).toNatClampNeg) (xs (i + 2).toNatClampNeg) 1400 12000 H (hI.2.1.1.mono (fun x _ h => Or.inl h)) hI.2.1.2 (fun x h => h.elim (fun h => h.2.1) (fun h => Nat.le_trans hI.2.2.2.2 h)) (fun x h => Or.inr h) hw) ((hI.2.1.1.one hI.2.1.2 rfl).recv X 0 rfl (q := (RX13, TX13, 5)) rfl) dL_law_1703 hl.1 rfl rfl ⟨Nat.le_of_ble_eq_true rfl, Nat.le_of_ble_eq_true rfl⟩ (Nat.le_of_ble_eq_true rfl) ⟨bud1 hf.1 rfl, bud1 hf.2 rfl⟩ (fun u H locs O hp hS hI => ?_)
  obtain ⟨b9, t9, n9, r9, w9⟩ := u
  dsimp only at hp hI
  refine W.eq (g2 := F0 m 1706 ls [.int b9]) rfl ?_
  refine lv_istore (lv' := [(7, .int b9), (6, .int k1), (5, .int i), (0, .ref b), (1, .ref (ar 0)), (2, .ref q), (3, .ref ob), (4, .ref od)]) hx hb dL_law_1706 hl (by decide) rfl (fun ls hl => ?_)
  refine lv_aload_n hx hb dL_law_1708 rfl (lv_at hl 5 rfl) ?_
  refine lm_r (rest := []) X m_L_169 hT hS hI (c_X13_thrown l D tc s.heap.size sa q H hI.2.1.1 hI.2.1.2 (post := fun v => v = w9 q 0) rfl) ((hI.2.1.1.one hI.2.1.2 rfl).recv X 0 rfl (q := (RX13, TX13, 5)) rfl) dL_law_1709 hl.1 rfl rfl ⟨Nat.le_of_ble_eq_true rfl, Nat.le_of_ble_eq_true rfl⟩ (Nat.le_of_ble_eq_true rfl) ⟨bud2 hf.1 rfl, bud2 hf.2 rfl⟩ (fun u locs hu hS => ?_)
  refine W.eq (g2 := F0 m 1712 ls [.int k1]) (by rw [show u = k1 from (show u = w9 q 0 from hu).trans hp.1]; rfl) ?_
  have hR := hp.2.2
  refine lv_iload hx hb dL_law_1712 (lv_at hl 1 rfl) ?_
  refine lv_icmp_eq (tgt := 1719) hx hb dL_law_1714 (by decide) (fun _ => ?_) (fun hc0 => absurd rfl hc0)
  refine lv_iload hx hb dL_law_1719 (lv_at hl 1 rfl) ?_
  refine lv_if_ne (tgt := 1736) hx hb dL_law_1721 (by decide) (fun hc => ?_) (fun hc => ?_)
  · refine lv_goto (tgt := 2989) hx hb dL_law_1736 (by decide) ?_
    refine W.widen (k := cells + 1520) (n := slots + 13000) (wid3 rfl) (wid3 rfl) ?_
    exact kk H locs ls hS ⟨_, _, _, _, _, _, _, _, _, _, _, _, _, _, _, _, _, _, _, _, _, hI, hR⟩ (lv_sub hl [2, 3, 4, 5, 6, 7] rfl)
  · have eab : a9 = b9 := hp.2.1 hc
    subst eab
    have hfa := hfa hc
    refine lv_aload_n hx hb dL_law_1724 rfl (lv_at hl 6 rfl) ?_
    refine lv_iconst (v := 0) hx hb dL_law_1725 (by decide) ?_
    refine x_lald X dL_law_1726 hI.2.2.1.1 in01 ?_
    refine lv_iload hx hb dL_law_1727 (lv_at hl 0 rfl) ?_
    refine lv_i2l (v := a9.toInt64) hx hb dL_law_1729 rfl ?_
    refine W.lcmp hx hb dL_law_1730 ?_
    refine lv_if_eq (tgt := 1736) hx hb dL_law_1731 (by decide) (fun _ => ?_) (fun hc0 => absurd (lgc_eq hfa) hc0)
    refine lv_goto (tgt := 2989) hx hb dL_law_1736 (by decide) ?_
    refine W.widen (k := cells + 1520) (n := slots + 13000) (wid3 rfl) (wid3 rfl) ?_
    exact kk H locs ls hS ⟨_, _, _, _, _, _, _, _, _, _, _, _, _, _, _, _, _, _, _, _, _, hI, hR⟩ (lv_sub hl [2, 3, 4, 5, 6, 7] rfl)
set_option maxHeartbeats 4000000 in
theorem tc_strike {p : Program} {l : Launch} {e : Env} {s : State} {m : MethodId} {args : Array Value} {below : List Frame} {meth : Method} {c : Code} {H : Heap} {locs : List Loc} {cells slots : Nat} {Q : State → Prop} {D : va_G} {tc : Nat → ClassId} {ls : Array Slot} {sa : Nat → Nat} {b L j : Nat} {xs : Nat → Int32} {i : Int32} {O : Nat → Nat} {q ob od : Nat} {f : Nat → Int64} {g : Nat → UInt64} {ad ar : Nat → Nat} {sp : Option Nat} {sd pd fd : Nat → Nat → Nat} {sums : Nat → Int64} {r w : Dt} {ns : Nat} {sw : Nat → Dt} {np : Nat} {pw : Nat → Dt} {nf : Nat} {fw : Nat → Dt} {spw : Dt} {t n : Nat → Nat} {rr : Nat → Nat → Nat} {ww : Dt} (Rel : RLT) (X : Cx p c s m meth cL_law 10 RL D tc) (hN : NC s) (hT : ST s.heap.size sa s s.heap) (hlf : l.stackTraces = false) (hX : va_X b L xs s s.heap) (hbl : b < s.heap.size) (hS : va_S (old s.heap.size) s.heap H locs) (hI : (LI D tc s.heap.size (sa 3) O q ob od f g ad ar sp sd pd fd sums r w ns sw np pw nf fw spw t n rr ww H)) (hR : Rel j r w sums ns sw np pw nf fw spw q t n rr ww) (hj : j < 512) (h1 : vp_in (i + 1) L) (h2 : vp_in (i + 2) L) (h3 : vp_in (i + 3) L) (h4 : vp_in (i + 4) L) (hl : lv_has ls 10 [(5, .int i), (0, .ref b), (1, .ref (ar 0)), (2, .ref q), (3, .ref ob), (4, .ref od)]) (hf : cells + 1520 ≤ room_1.cells ∧ slots + 13000 ≤ room_1.slots) (hs : SIM_strike Rel) (kk : ∀ (H1 : Heap) (locs1 : List Loc) (ls1 : Array Slot), va_S (old s.heap.size) s.heap H1 locs1 → LH Rel D tc s.heap.size (sa 3) q ob od ad ar (j + 1) H1 → lv_has ls1 10 [(5, .int i), (0, .ref b), (1, .ref (ar 0)), (2, .ref q), (3, .ref ob), (4, .ref od)] → W p l e room_1 s m args below meth c H1 locs1 (cells + 1520) (slots + 13000) Q (F0 m 2989 ls1 [])) : W p l e room_1 s m args below meth c H locs cells slots Q (F0 m 1739 ls []) := by
  have hx := X.1
  have hb := X.2.1
  unfold SIM_strike at hs
  refine lv_aload_n hx hb dL_law_1739 rfl (lv_at hl 2 rfl) ?_
  refine lv_aload_n hx hb dL_law_1740 rfl (lv_at hl 1 rfl) ?_
  refine lv_iload hx hb dL_law_1741 (lv_at hl 0 rfl) ?_
  refine lv_iconst (v := 1) hx hb dL_law_1743 (by decide) ?_
  refine lv_iadd hx hb dL_law_1744 ?_
  refine va_sld hx hb hX hbl (Nat.not_le.mpr hbl) hS h1 dL_law_1745 ?_
  refine lv_aload_n hx hb dL_law_1746 rfl (lv_at hl 1 rfl) ?_
  refine lv_iload hx hb dL_law_1747 (lv_at hl 0 rfl) ?_
  refine lv_iconst (v := 2) hx hb dL_law_1749 (by decide) ?_
  refine lv_iadd hx hb dL_law_1750 ?_
  refine va_sld hx hb hX hbl (Nat.not_le.mpr hbl) hS h2 dL_law_1751 ?_
  refine lv_aload_n hx hb dL_law_1752 rfl (lv_at hl 1 rfl) ?_
  refine lv_iload hx hb dL_law_1753 (lv_at hl 0 rfl) ?_
  refine lv_iconst (v := 3) hx hb dL_law_1755 (by decide) ?_
  refine lv_iadd hx hb dL_law_1756 ?_
  refine va_sld hx hb hX hbl (Nat.not_le.mpr hbl) hS h3 dL_law_1757 ?_
  refine lv_aload_n hx hb dL_law_1758 rfl (lv_at hl 4 rfl) ?_
  have hw := hs j r w sums ns sw np pw nf fw spw q t n rr ww hj hR (xs (i + 1).toNatClampNeg) (xs (i + 2).toNatClampNeg) (xs (i + 3).toNatClampNeg)
  refine lc_w (rest := []) X hN mw_251 hT hS hI (k_L_strike l D tc s.heap.size sa H ob (xs (i + 1).toNatClampNeg) (xs (i + 2).toNatClampNeg) (xs (i + 3).toNatClampNeg) hI.1.1 (c_X8_strike (l := l) (D := D) (tc := tc) (h0 := s.heap.size) (sa := sa) (H0 := H) (x1 := (xs (i + 1).toNatClampNeg)) (x2 := (xs (i + 2).toNatClampNeg)) (x3 := (xs (i + 3).toNatClampNeg)) (hBr := hI.1.1) (hBw := hI.1.2.1) (hDr := (fun _ h g => Rg.ne h g (by omega))) (hA0 := (fun _ h => h.2.1)) (hlf := hlf) (hw := hw)) (fun _ => rfl) hI.2.2.1.1 (fun h => Rg.ne h hI.2.2.1.2 (by omega)) (fun x h => h.elim (fun e => e.2.1) (fun e => e ▸ hI.2.2.1.2.2.1)) (fun _ h => h.1)) dL_law_1759 hl.1 rfl rfl ⟨Nat.le_of_ble_eq_true rfl, Nat.le_of_ble_eq_true rfl⟩ (Nat.le_of_ble_eq_true rfl) ⟨bud0 hf.1 rfl, bud0 hf.2 rfl⟩ (fun H locs O f k1 w1 hS hI ho => ?_)
  refine W.eq (g2 := F0 m 1762 ls [.int k1]) rfl ?_
  obtain ⟨a9, hw, hfa⟩ : ∃ a9 : Int32, MM_strike Rel j r w1 sums ns sw np pw nf fw spw q t n rr ww (xs (i + 1).toNatClampNeg) (xs (i + 2).toNatClampNeg) (xs (i + 3).toNatClampNeg) k1 a9 ∧ (k1 = 0 → f 0 = a9.toInt64) := by
    rcases ho with ⟨u, hp, e1, e2, e3⟩ | ⟨k, hp, e1, e3⟩
    · subst e1; subst e3; exact ⟨u.1, hp, fun _ => e2⟩
    · subst e1; subst e3; exact ⟨0, hp.2, fun h => absurd h (by rcases hp.1 with rfl | rfl | rfl <;> decide)⟩
  refine lv_istore (lv' := [(6, .int k1), (5, .int i), (0, .ref b), (1, .ref (ar 0)), (2, .ref q), (3, .ref ob), (4, .ref od)]) hx hb dL_law_1762 hl (by decide) rfl (fun ls hl => ?_)
  refine lv_aload_n hx hb dL_law_1764 rfl (lv_at hl 4 rfl) ?_
  refine lv_aload_n hx hb dL_law_1765 rfl (lv_at hl 2 rfl) ?_
  refine lv_iload hx hb dL_law_1766 (lv_at hl 1 rfl) ?_
  refine lv_iconst (v := 1) hx hb dL_law_1768 (by decide) ?_
  refine lv_iadd hx hb dL_law_1769 ?_
  refine va_sld hx hb hX hbl (Nat.not_le.mpr hbl) hS h1 dL_law_1770 ?_
  refine lv_aload_n hx hb dL_law_1771 rfl (lv_at hl 2 rfl) ?_
  refine lv_iload hx hb dL_law_1772 (lv_at hl 1 rfl) ?_
  refine lv_iconst (v := 2) hx hb dL_law_1774 (by decide) ?_
  refine lv_iadd hx hb dL_law_1775 ?_
  refine va_sld hx hb hX hbl (Nat.not_le.mpr hbl) hS h2 dL_law_1776 ?_
  refine lv_aload_n hx hb dL_law_1777 rfl (lv_at hl 2 rfl) ?_
  refine lv_iload hx hb dL_law_1778 (lv_at hl 1 rfl) ?_
  refine lv_iconst (v := 3) hx hb dL_law_1780 (by decide) ?_
  refine lv_iadd hx hb dL_law_1781 ?_
  refine va_sld hx hb hX hbl (Nat.not_le.mpr hbl) hS h3 dL_law_1782 ?_
  unfold MM_strike at hw
  refine lm_g (rest := []) X m_L_253 hT hS hI (c_X13_strike l D tc s.heap.size sa q (xs (i + 1).toNatClampNeg) (xs (i + 2).toNatClampNeg) (xs (i + 3).toNatClampNeg) 1400 12000 H (hI.2.1.1.mono (fun x _ h => Or.inl h)) hI.2.1.2 (fun x h => h.elim (fun h => h.2.1) (fun h => Nat.le_trans hI.2.2.2.2 h)) (fun x h => Or.inr h) hw) ((hI.2.1.1.one hI.2.1.2 rfl).recv X 0 rfl (q := (RX13, TX13, 5)) rfl) dL_law_1783 hl.1 rfl rfl ⟨Nat.le_of_ble_eq_true rfl, Nat.le_of_ble_eq_true rfl⟩ (Nat.le_of_ble_eq_true rfl) ⟨bud1 hf.1 rfl, bud1 hf.2 rfl⟩ (fun u H locs O hp hS hI => ?_)
  obtain ⟨b9, t9, n9, r9, w9⟩ := u
  dsimp only at hp hI
  refine W.eq (g2 := F0 m 1786 ls [.int b9]) rfl ?_
  refine lv_istore (lv' := [(7, .int b9), (6, .int k1), (5, .int i), (0, .ref b), (1, .ref (ar 0)), (2, .ref q), (3, .ref ob), (4, .ref od)]) hx hb dL_law_1786 hl (by decide) rfl (fun ls hl => ?_)
  refine lv_aload_n hx hb dL_law_1788 rfl (lv_at hl 5 rfl) ?_
  refine lm_r (rest := []) X m_L_169 hT hS hI (c_X13_thrown l D tc s.heap.size sa q H hI.2.1.1 hI.2.1.2 (post := fun v => v = w9 q 0) rfl) ((hI.2.1.1.one hI.2.1.2 rfl).recv X 0 rfl (q := (RX13, TX13, 5)) rfl) dL_law_1789 hl.1 rfl rfl ⟨Nat.le_of_ble_eq_true rfl, Nat.le_of_ble_eq_true rfl⟩ (Nat.le_of_ble_eq_true rfl) ⟨bud2 hf.1 rfl, bud2 hf.2 rfl⟩ (fun u locs hu hS => ?_)
  refine W.eq (g2 := F0 m 1792 ls [.int k1]) (by rw [show u = k1 from (show u = w9 q 0 from hu).trans hp.1]; rfl) ?_
  have hR := hp.2.2
  refine lv_iload hx hb dL_law_1792 (lv_at hl 1 rfl) ?_
  refine lv_icmp_eq (tgt := 1799) hx hb dL_law_1794 (by decide) (fun _ => ?_) (fun hc0 => absurd rfl hc0)
  refine lv_iload hx hb dL_law_1799 (lv_at hl 1 rfl) ?_
  refine lv_if_ne (tgt := 1816) hx hb dL_law_1801 (by decide) (fun hc => ?_) (fun hc => ?_)
  · refine lv_goto (tgt := 2989) hx hb dL_law_1816 (by decide) ?_
    refine W.widen (k := cells + 1520) (n := slots + 13000) (wid3 rfl) (wid3 rfl) ?_
    exact kk H locs ls hS ⟨_, _, _, _, _, _, _, _, _, _, _, _, _, _, _, _, _, _, _, _, _, hI, hR⟩ (lv_sub hl [2, 3, 4, 5, 6, 7] rfl)
  · have eab : a9 = b9 := hp.2.1 hc
    subst eab
    have hfa := hfa hc
    refine lv_aload_n hx hb dL_law_1804 rfl (lv_at hl 6 rfl) ?_
    refine lv_iconst (v := 0) hx hb dL_law_1805 (by decide) ?_
    refine x_lald X dL_law_1806 hI.2.2.1.1 in01 ?_
    refine lv_iload hx hb dL_law_1807 (lv_at hl 0 rfl) ?_
    refine lv_i2l (v := a9.toInt64) hx hb dL_law_1809 rfl ?_
    refine W.lcmp hx hb dL_law_1810 ?_
    refine lv_if_eq (tgt := 1816) hx hb dL_law_1811 (by decide) (fun _ => ?_) (fun hc0 => absurd (lgc_eq hfa) hc0)
    refine lv_goto (tgt := 2989) hx hb dL_law_1816 (by decide) ?_
    refine W.widen (k := cells + 1520) (n := slots + 13000) (wid3 rfl) (wid3 rfl) ?_
    exact kk H locs ls hS ⟨_, _, _, _, _, _, _, _, _, _, _, _, _, _, _, _, _, _, _, _, _, hI, hR⟩ (lv_sub hl [2, 3, 4, 5, 6, 7] rfl)
set_option maxHeartbeats 4000000 in
theorem tc_getWidth {p : Program} {l : Launch} {e : Env} {s : State} {m : MethodId} {args : Array Value} {below : List Frame} {meth : Method} {c : Code} {H : Heap} {locs : List Loc} {cells slots : Nat} {Q : State → Prop} {D : va_G} {tc : Nat → ClassId} {ls : Array Slot} {sa : Nat → Nat} {b L j : Nat} {xs : Nat → Int32} {i : Int32} {O : Nat → Nat} {q ob od : Nat} {f : Nat → Int64} {g : Nat → UInt64} {ad ar : Nat → Nat} {sp : Option Nat} {sd pd fd : Nat → Nat → Nat} {sums : Nat → Int64} {r w : Dt} {ns : Nat} {sw : Nat → Dt} {np : Nat} {pw : Nat → Dt} {nf : Nat} {fw : Nat → Dt} {spw : Dt} {t n : Nat → Nat} {rr : Nat → Nat → Nat} {ww : Dt} (Rel : RLT) (X : Cx p c s m meth cL_law 10 RL D tc) (hN : NC s) (hT : ST s.heap.size sa s s.heap) (hlf : l.stackTraces = false) (hX : va_X b L xs s s.heap) (hbl : b < s.heap.size) (hS : va_S (old s.heap.size) s.heap H locs) (hI : (LI D tc s.heap.size (sa 3) O q ob od f g ad ar sp sd pd fd sums r w ns sw np pw nf fw spw t n rr ww H)) (hR : Rel j r w sums ns sw np pw nf fw spw q t n rr ww) (hj : j < 512) (h1 : vp_in (i + 1) L) (h2 : vp_in (i + 2) L) (h3 : vp_in (i + 3) L) (h4 : vp_in (i + 4) L) (hl : lv_has ls 10 [(5, .int i), (0, .ref b), (1, .ref (ar 0)), (2, .ref q), (3, .ref ob), (4, .ref od)]) (hf : cells + 1520 ≤ room_1.cells ∧ slots + 13000 ≤ room_1.slots) (hs : SIM_getWidth Rel) (kk : ∀ (H1 : Heap) (locs1 : List Loc) (ls1 : Array Slot), va_S (old s.heap.size) s.heap H1 locs1 → LH Rel D tc s.heap.size (sa 3) q ob od ad ar (j + 1) H1 → lv_has ls1 10 [(5, .int i), (0, .ref b), (1, .ref (ar 0)), (2, .ref q), (3, .ref ob), (4, .ref od)] → W p l e room_1 s m args below meth c H1 locs1 (cells + 1520) (slots + 13000) Q (F0 m 2989 ls1 [])) : W p l e room_1 s m args below meth c H locs cells slots Q (F0 m 1819 ls []) := by
  have hx := X.1
  have hb := X.2.1
  unfold SIM_getWidth at hs
  refine lv_aload_n hx hb dL_law_1819 rfl (lv_at hl 2 rfl) ?_
  refine lv_aload_n hx hb dL_law_1820 rfl (lv_at hl 1 rfl) ?_
  refine lv_iload hx hb dL_law_1821 (lv_at hl 0 rfl) ?_
  refine lv_iconst (v := 1) hx hb dL_law_1823 (by decide) ?_
  refine lv_iadd hx hb dL_law_1824 ?_
  refine va_sld hx hb hX hbl (Nat.not_le.mpr hbl) hS h1 dL_law_1825 ?_
  refine lv_aload_n hx hb dL_law_1826 rfl (lv_at hl 4 rfl) ?_
  have hw := hs j r w sums ns sw np pw nf fw spw q t n rr ww hj hR (xs (i + 1).toNatClampNeg)
  refine lc_ro (rest := []) X hN mw_254 hT hS hI (k_L_getWidth l D tc s.heap.size sa H ob (xs (i + 1).toNatClampNeg) hI.1.1 (c_X8_getWidth (l := l) (D := D) (tc := tc) (h0 := s.heap.size) (sa := sa) (H0 := H) (x1 := (xs (i + 1).toNatClampNeg)) (hBr := hI.1.1) (hBw := hI.1.2.1) (hlf := hlf) (hw := hw)) (fun _ => rfl) hI.2.2.1.1 (fun h => h) (fun x h => h.elim False.elim (fun e => e ▸ hI.2.2.1.2.2.1)) (fun _ h => h.1)) dL_law_1827 hl.1 rfl rfl ⟨Nat.le_of_ble_eq_true rfl, Nat.le_of_ble_eq_true rfl⟩ (Nat.le_of_ble_eq_true rfl) ⟨bud0 hf.1 rfl, bud0 hf.2 rfl⟩ (fun H locs O f k1 hS hI ho => ?_)
  refine W.eq (g2 := F0 m 1830 ls [.int k1]) rfl ?_
  obtain ⟨a9, hw, hfa⟩ : ∃ a9 : Int32, MM_getWidth Rel j r w sums ns sw np pw nf fw spw q t n rr ww (xs (i + 1).toNatClampNeg) k1 a9 ∧ (k1 = 0 → f 0 = a9.toInt64) := by
    rcases ho with ⟨u, hp, e1, e2⟩ | ⟨k, hp, e1⟩
    · subst e1; exact ⟨u, hp, fun _ => e2⟩
    · subst e1; exact ⟨0, hp.2, fun h => absurd h (by have ek := hp.1; subst ek; decide)⟩
  refine lv_istore (lv' := [(6, .int k1), (5, .int i), (0, .ref b), (1, .ref (ar 0)), (2, .ref q), (3, .ref ob), (4, .ref od)]) hx hb dL_law_1830 hl (by decide) rfl (fun ls hl => ?_)
  refine lv_aload_n hx hb dL_law_1832 rfl (lv_at hl 4 rfl) ?_
  refine lv_aload_n hx hb dL_law_1833 rfl (lv_at hl 2 rfl) ?_
  refine lv_iload hx hb dL_law_1834 (lv_at hl 1 rfl) ?_
  refine lv_iconst (v := 1) hx hb dL_law_1836 (by decide) ?_
  refine lv_iadd hx hb dL_law_1837 ?_
  refine va_sld hx hb hX hbl (Nat.not_le.mpr hbl) hS h1 dL_law_1838 ?_
  unfold MM_getWidth at hw
  refine lm_w (rest := []) X m_L_256 hT hS hI (c_X13_getWidth l D tc s.heap.size sa q (xs (i + 1).toNatClampNeg) H hI.2.1.1 hI.2.1.2 (fun _ h => h.2.1) hw) ((hI.2.1.1.one hI.2.1.2 rfl).recv X 0 rfl (q := (RX13, TX13, 5)) rfl) dL_law_1839 hl.1 rfl rfl ⟨Nat.le_of_ble_eq_true rfl, Nat.le_of_ble_eq_true rfl⟩ (Nat.le_of_ble_eq_true rfl) ⟨bud1 hf.1 rfl, bud1 hf.2 rfl⟩ (fun u H locs O hp hS hI => ?_)
  obtain ⟨b9, w9⟩ := u
  dsimp only at hp hI
  refine W.eq (g2 := F0 m 1842 ls [.int b9]) rfl ?_
  refine lv_istore (lv' := [(7, .int b9), (6, .int k1), (5, .int i), (0, .ref b), (1, .ref (ar 0)), (2, .ref q), (3, .ref ob), (4, .ref od)]) hx hb dL_law_1842 hl (by decide) rfl (fun ls hl => ?_)
  refine lv_aload_n hx hb dL_law_1844 rfl (lv_at hl 5 rfl) ?_
  refine lm_r (rest := []) X m_L_169 hT hS hI (c_X13_thrown l D tc s.heap.size sa q H hI.2.1.1 hI.2.1.2 (post := fun v => v = w9 q 0) rfl) ((hI.2.1.1.one hI.2.1.2 rfl).recv X 0 rfl (q := (RX13, TX13, 5)) rfl) dL_law_1845 hl.1 rfl rfl ⟨Nat.le_of_ble_eq_true rfl, Nat.le_of_ble_eq_true rfl⟩ (Nat.le_of_ble_eq_true rfl) ⟨bud2 hf.1 rfl, bud2 hf.2 rfl⟩ (fun u locs hu hS => ?_)
  refine W.eq (g2 := F0 m 1848 ls [.int k1]) (by rw [show u = k1 from (show u = w9 q 0 from hu).trans hp.1]; rfl) ?_
  have hR := hp.2.2
  refine lv_iload hx hb dL_law_1848 (lv_at hl 1 rfl) ?_
  refine lv_icmp_eq (tgt := 1855) hx hb dL_law_1850 (by decide) (fun _ => ?_) (fun hc0 => absurd rfl hc0)
  refine lv_iload hx hb dL_law_1855 (lv_at hl 1 rfl) ?_
  refine lv_if_ne (tgt := 1872) hx hb dL_law_1857 (by decide) (fun hc => ?_) (fun hc => ?_)
  · refine lv_goto (tgt := 2989) hx hb dL_law_1872 (by decide) ?_
    refine W.widen (k := cells + 1520) (n := slots + 13000) (wid3 rfl) (wid3 rfl) ?_
    exact kk H locs ls hS ⟨_, _, _, _, _, _, _, _, _, _, _, _, _, _, _, _, _, _, _, _, _, hI, hR⟩ (lv_sub hl [2, 3, 4, 5, 6, 7] rfl)
  · have eab : a9 = b9 := hp.2.1 hc
    subst eab
    have hfa := hfa hc
    refine lv_aload_n hx hb dL_law_1860 rfl (lv_at hl 6 rfl) ?_
    refine lv_iconst (v := 0) hx hb dL_law_1861 (by decide) ?_
    refine x_lald X dL_law_1862 hI.2.2.1.1 in01 ?_
    refine lv_iload hx hb dL_law_1863 (lv_at hl 0 rfl) ?_
    refine lv_i2l (v := a9.toInt64) hx hb dL_law_1865 rfl ?_
    refine W.lcmp hx hb dL_law_1866 ?_
    refine lv_if_eq (tgt := 1872) hx hb dL_law_1867 (by decide) (fun _ => ?_) (fun hc0 => absurd (lgc_eq hfa) hc0)
    refine lv_goto (tgt := 2989) hx hb dL_law_1872 (by decide) ?_
    refine W.widen (k := cells + 1520) (n := slots + 13000) (wid3 rfl) (wid3 rfl) ?_
    exact kk H locs ls hS ⟨_, _, _, _, _, _, _, _, _, _, _, _, _, _, _, _, _, _, _, _, _, hI, hR⟩ (lv_sub hl [2, 3, 4, 5, 6, 7] rfl)
set_option maxHeartbeats 4000000 in
theorem tc_scarTurns {p : Program} {l : Launch} {e : Env} {s : State} {m : MethodId} {args : Array Value} {below : List Frame} {meth : Method} {c : Code} {H : Heap} {locs : List Loc} {cells slots : Nat} {Q : State → Prop} {D : va_G} {tc : Nat → ClassId} {ls : Array Slot} {sa : Nat → Nat} {b L j : Nat} {xs : Nat → Int32} {i : Int32} {O : Nat → Nat} {q ob od : Nat} {f : Nat → Int64} {g : Nat → UInt64} {ad ar : Nat → Nat} {sp : Option Nat} {sd pd fd : Nat → Nat → Nat} {sums : Nat → Int64} {r w : Dt} {ns : Nat} {sw : Nat → Dt} {np : Nat} {pw : Nat → Dt} {nf : Nat} {fw : Nat → Dt} {spw : Dt} {t n : Nat → Nat} {rr : Nat → Nat → Nat} {ww : Dt} (Rel : RLT) (X : Cx p c s m meth cL_law 10 RL D tc) (hN : NC s) (hT : ST s.heap.size sa s s.heap) (hlf : l.stackTraces = false) (hX : va_X b L xs s s.heap) (hbl : b < s.heap.size) (hS : va_S (old s.heap.size) s.heap H locs) (hI : (LI D tc s.heap.size (sa 3) O q ob od f g ad ar sp sd pd fd sums r w ns sw np pw nf fw spw t n rr ww H)) (hR : Rel j r w sums ns sw np pw nf fw spw q t n rr ww) (hj : j < 512) (h1 : vp_in (i + 1) L) (h2 : vp_in (i + 2) L) (h3 : vp_in (i + 3) L) (h4 : vp_in (i + 4) L) (hl : lv_has ls 10 [(5, .int i), (0, .ref b), (1, .ref (ar 0)), (2, .ref q), (3, .ref ob), (4, .ref od)]) (hf : cells + 1520 ≤ room_1.cells ∧ slots + 13000 ≤ room_1.slots) (hs : SIM_scarTurns Rel) (kk : ∀ (H1 : Heap) (locs1 : List Loc) (ls1 : Array Slot), va_S (old s.heap.size) s.heap H1 locs1 → LH Rel D tc s.heap.size (sa 3) q ob od ad ar (j + 1) H1 → lv_has ls1 10 [(5, .int i), (0, .ref b), (1, .ref (ar 0)), (2, .ref q), (3, .ref ob), (4, .ref od)] → W p l e room_1 s m args below meth c H1 locs1 (cells + 1520) (slots + 13000) Q (F0 m 2989 ls1 [])) : W p l e room_1 s m args below meth c H locs cells slots Q (F0 m 1875 ls []) := by
  have hx := X.1
  have hb := X.2.1
  unfold SIM_scarTurns at hs
  refine lv_aload_n hx hb dL_law_1875 rfl (lv_at hl 2 rfl) ?_
  refine lv_aload_n hx hb dL_law_1876 rfl (lv_at hl 1 rfl) ?_
  refine lv_iload hx hb dL_law_1877 (lv_at hl 0 rfl) ?_
  refine lv_iconst (v := 1) hx hb dL_law_1879 (by decide) ?_
  refine lv_iadd hx hb dL_law_1880 ?_
  refine va_sld hx hb hX hbl (Nat.not_le.mpr hbl) hS h1 dL_law_1881 ?_
  refine lv_aload_n hx hb dL_law_1882 rfl (lv_at hl 4 rfl) ?_
  have hw := hs j r w sums ns sw np pw nf fw spw q t n rr ww hj hR (xs (i + 1).toNatClampNeg)
  refine lc_ro (rest := []) X hN mw_257 hT hS hI (k_L_scarTurns l D tc s.heap.size sa H ob (xs (i + 1).toNatClampNeg) hI.1.1 (c_X8_scarTurns (l := l) (D := D) (tc := tc) (h0 := s.heap.size) (sa := sa) (H0 := H) (x1 := (xs (i + 1).toNatClampNeg)) (hBr := hI.1.1) (hBw := hI.1.2.1) (hlf := hlf) (hw := hw)) (fun _ => rfl) hI.2.2.1.1 (fun h => h) (fun x h => h.elim False.elim (fun e => e ▸ hI.2.2.1.2.2.1)) (fun _ h => h.1)) dL_law_1883 hl.1 rfl rfl ⟨Nat.le_of_ble_eq_true rfl, Nat.le_of_ble_eq_true rfl⟩ (Nat.le_of_ble_eq_true rfl) ⟨bud0 hf.1 rfl, bud0 hf.2 rfl⟩ (fun H locs O f k1 hS hI ho => ?_)
  refine W.eq (g2 := F0 m 1886 ls [.int k1]) rfl ?_
  obtain ⟨a9, hw, hfa⟩ : ∃ a9 : Int32, MM_scarTurns Rel j r w sums ns sw np pw nf fw spw q t n rr ww (xs (i + 1).toNatClampNeg) k1 a9 ∧ (k1 = 0 → f 0 = a9.toInt64) := by
    rcases ho with ⟨u, hp, e1, e2⟩ | ⟨k, hp, e1⟩
    · subst e1; exact ⟨u, hp, fun _ => e2⟩
    · subst e1; exact ⟨0, hp.2, fun h => absurd h (by have ek := hp.1; subst ek; decide)⟩
  refine lv_istore (lv' := [(6, .int k1), (5, .int i), (0, .ref b), (1, .ref (ar 0)), (2, .ref q), (3, .ref ob), (4, .ref od)]) hx hb dL_law_1886 hl (by decide) rfl (fun ls hl => ?_)
  refine lv_aload_n hx hb dL_law_1888 rfl (lv_at hl 4 rfl) ?_
  refine lv_aload_n hx hb dL_law_1889 rfl (lv_at hl 2 rfl) ?_
  refine lv_iload hx hb dL_law_1890 (lv_at hl 1 rfl) ?_
  refine lv_iconst (v := 1) hx hb dL_law_1892 (by decide) ?_
  refine lv_iadd hx hb dL_law_1893 ?_
  refine va_sld hx hb hX hbl (Nat.not_le.mpr hbl) hS h1 dL_law_1894 ?_
  unfold MM_scarTurns at hw
  refine lm_w (rest := []) X m_L_259 hT hS hI (c_X13_scarTurns l D tc s.heap.size sa q (xs (i + 1).toNatClampNeg) H hI.2.1.1 hI.2.1.2 (fun _ h => h.2.1) hw) ((hI.2.1.1.one hI.2.1.2 rfl).recv X 0 rfl (q := (RX13, TX13, 5)) rfl) dL_law_1895 hl.1 rfl rfl ⟨Nat.le_of_ble_eq_true rfl, Nat.le_of_ble_eq_true rfl⟩ (Nat.le_of_ble_eq_true rfl) ⟨bud1 hf.1 rfl, bud1 hf.2 rfl⟩ (fun u H locs O hp hS hI => ?_)
  obtain ⟨b9, w9⟩ := u
  dsimp only at hp hI
  refine W.eq (g2 := F0 m 1898 ls [.int b9]) rfl ?_
  refine lv_istore (lv' := [(7, .int b9), (6, .int k1), (5, .int i), (0, .ref b), (1, .ref (ar 0)), (2, .ref q), (3, .ref ob), (4, .ref od)]) hx hb dL_law_1898 hl (by decide) rfl (fun ls hl => ?_)
  refine lv_aload_n hx hb dL_law_1900 rfl (lv_at hl 5 rfl) ?_
  refine lm_r (rest := []) X m_L_169 hT hS hI (c_X13_thrown l D tc s.heap.size sa q H hI.2.1.1 hI.2.1.2 (post := fun v => v = w9 q 0) rfl) ((hI.2.1.1.one hI.2.1.2 rfl).recv X 0 rfl (q := (RX13, TX13, 5)) rfl) dL_law_1901 hl.1 rfl rfl ⟨Nat.le_of_ble_eq_true rfl, Nat.le_of_ble_eq_true rfl⟩ (Nat.le_of_ble_eq_true rfl) ⟨bud2 hf.1 rfl, bud2 hf.2 rfl⟩ (fun u locs hu hS => ?_)
  refine W.eq (g2 := F0 m 1904 ls [.int k1]) (by rw [show u = k1 from (show u = w9 q 0 from hu).trans hp.1]; rfl) ?_
  have hR := hp.2.2
  refine lv_iload hx hb dL_law_1904 (lv_at hl 1 rfl) ?_
  refine lv_icmp_eq (tgt := 1911) hx hb dL_law_1906 (by decide) (fun _ => ?_) (fun hc0 => absurd rfl hc0)
  refine lv_iload hx hb dL_law_1911 (lv_at hl 1 rfl) ?_
  refine lv_if_ne (tgt := 1928) hx hb dL_law_1913 (by decide) (fun hc => ?_) (fun hc => ?_)
  · refine lv_goto (tgt := 2989) hx hb dL_law_1928 (by decide) ?_
    refine W.widen (k := cells + 1520) (n := slots + 13000) (wid3 rfl) (wid3 rfl) ?_
    exact kk H locs ls hS ⟨_, _, _, _, _, _, _, _, _, _, _, _, _, _, _, _, _, _, _, _, _, hI, hR⟩ (lv_sub hl [2, 3, 4, 5, 6, 7] rfl)
  · have eab : a9 = b9 := hp.2.1 hc
    subst eab
    have hfa := hfa hc
    refine lv_aload_n hx hb dL_law_1916 rfl (lv_at hl 6 rfl) ?_
    refine lv_iconst (v := 0) hx hb dL_law_1917 (by decide) ?_
    refine x_lald X dL_law_1918 hI.2.2.1.1 in01 ?_
    refine lv_iload hx hb dL_law_1919 (lv_at hl 0 rfl) ?_
    refine lv_i2l (v := a9.toInt64) hx hb dL_law_1921 rfl ?_
    refine W.lcmp hx hb dL_law_1922 ?_
    refine lv_if_eq (tgt := 1928) hx hb dL_law_1923 (by decide) (fun _ => ?_) (fun hc0 => absurd (lgc_eq hfa) hc0)
    refine lv_goto (tgt := 2989) hx hb dL_law_1928 (by decide) ?_
    refine W.widen (k := cells + 1520) (n := slots + 13000) (wid3 rfl) (wid3 rfl) ?_
    exact kk H locs ls hS ⟨_, _, _, _, _, _, _, _, _, _, _, _, _, _, _, _, _, _, _, _, _, hI, hR⟩ (lv_sub hl [2, 3, 4, 5, 6, 7] rfl)
set_option maxHeartbeats 4000000 in
theorem tc_turn {p : Program} {l : Launch} {e : Env} {s : State} {m : MethodId} {args : Array Value} {below : List Frame} {meth : Method} {c : Code} {H : Heap} {locs : List Loc} {cells slots : Nat} {Q : State → Prop} {D : va_G} {tc : Nat → ClassId} {ls : Array Slot} {sa : Nat → Nat} {b L j : Nat} {xs : Nat → Int32} {i : Int32} {O : Nat → Nat} {q ob od : Nat} {f : Nat → Int64} {g : Nat → UInt64} {ad ar : Nat → Nat} {sp : Option Nat} {sd pd fd : Nat → Nat → Nat} {sums : Nat → Int64} {r w : Dt} {ns : Nat} {sw : Nat → Dt} {np : Nat} {pw : Nat → Dt} {nf : Nat} {fw : Nat → Dt} {spw : Dt} {t n : Nat → Nat} {rr : Nat → Nat → Nat} {ww : Dt} (Rel : RLT) (X : Cx p c s m meth cL_law 10 RL D tc) (hN : NC s) (hT : ST s.heap.size sa s s.heap) (hlf : l.stackTraces = false) (hX : va_X b L xs s s.heap) (hbl : b < s.heap.size) (hS : va_S (old s.heap.size) s.heap H locs) (hI : (LI D tc s.heap.size (sa 3) O q ob od f g ad ar sp sd pd fd sums r w ns sw np pw nf fw spw t n rr ww H)) (hR : Rel j r w sums ns sw np pw nf fw spw q t n rr ww) (hj : j < 512) (h1 : vp_in (i + 1) L) (h2 : vp_in (i + 2) L) (h3 : vp_in (i + 3) L) (h4 : vp_in (i + 4) L) (hl : lv_has ls 10 [(5, .int i), (0, .ref b), (1, .ref (ar 0)), (2, .ref q), (3, .ref ob), (4, .ref od)]) (hf : cells + 1520 ≤ room_1.cells ∧ slots + 13000 ≤ room_1.slots) (hs : SIM_turn Rel) (kk : ∀ (H1 : Heap) (locs1 : List Loc) (ls1 : Array Slot), va_S (old s.heap.size) s.heap H1 locs1 → LH Rel D tc s.heap.size (sa 3) q ob od ad ar (j + 1) H1 → lv_has ls1 10 [(5, .int i), (0, .ref b), (1, .ref (ar 0)), (2, .ref q), (3, .ref ob), (4, .ref od)] → W p l e room_1 s m args below meth c H1 locs1 (cells + 1520) (slots + 13000) Q (F0 m 2989 ls1 [])) : W p l e room_1 s m args below meth c H locs cells slots Q (F0 m 1931 ls []) := by
  have hx := X.1
  have hb := X.2.1
  unfold SIM_turn at hs
  refine lv_aload_n hx hb dL_law_1931 rfl (lv_at hl 2 rfl) ?_
  refine lv_aload_n hx hb dL_law_1932 rfl (lv_at hl 1 rfl) ?_
  refine lv_iload hx hb dL_law_1933 (lv_at hl 0 rfl) ?_
  refine lv_iconst (v := 1) hx hb dL_law_1935 (by decide) ?_
  refine lv_iadd hx hb dL_law_1936 ?_
  refine va_sld hx hb hX hbl (Nat.not_le.mpr hbl) hS h1 dL_law_1937 ?_
  refine lv_aload_n hx hb dL_law_1938 rfl (lv_at hl 4 rfl) ?_
  have hw := hs j r w sums ns sw np pw nf fw spw q t n rr ww hj hR (xs (i + 1).toNatClampNeg)
  refine lc_w (rest := []) X hN mw_260 hT hS hI (k_L_turn l D tc s.heap.size sa H ob (xs (i + 1).toNatClampNeg) hI.1.1 (c_X8_turn (l := l) (D := D) (tc := tc) (h0 := s.heap.size) (sa := sa) (H0 := H) (x1 := (xs (i + 1).toNatClampNeg)) (hBr := hI.1.1) (hBw := hI.1.2.1) (hDr := (fun _ h g => Rg.ne h g (by omega))) (hA0 := (fun _ h => h.2.1)) (hlf := hlf) (hw := hw)) (fun _ => rfl) hI.2.2.1.1 (fun h => Rg.ne h hI.2.2.1.2 (by omega)) (fun x h => h.elim (fun e => e.2.1) (fun e => e ▸ hI.2.2.1.2.2.1)) (fun _ h => h.1)) dL_law_1939 hl.1 rfl rfl ⟨Nat.le_of_ble_eq_true rfl, Nat.le_of_ble_eq_true rfl⟩ (Nat.le_of_ble_eq_true rfl) ⟨bud0 hf.1 rfl, bud0 hf.2 rfl⟩ (fun H locs O f k1 w1 hS hI ho => ?_)
  refine W.eq (g2 := F0 m 1942 ls [.int k1]) rfl ?_
  obtain ⟨a9, hw, hfa⟩ : ∃ a9 : Int32, MM_turn Rel j r w1 sums ns sw np pw nf fw spw q t n rr ww (xs (i + 1).toNatClampNeg) k1 a9 ∧ (k1 = 0 → f 0 = a9.toInt64) := by
    rcases ho with ⟨u, hp, e1, e2, e3⟩ | ⟨k, hp, e1, e3⟩
    · subst e1; subst e3; exact ⟨u.1, hp, fun _ => e2⟩
    · subst e1; subst e3; exact ⟨0, hp.2, fun h => absurd h (by have ek := hp.1; subst ek; decide)⟩
  refine lv_istore (lv' := [(6, .int k1), (5, .int i), (0, .ref b), (1, .ref (ar 0)), (2, .ref q), (3, .ref ob), (4, .ref od)]) hx hb dL_law_1942 hl (by decide) rfl (fun ls hl => ?_)
  refine lv_aload_n hx hb dL_law_1944 rfl (lv_at hl 4 rfl) ?_
  refine lv_aload_n hx hb dL_law_1945 rfl (lv_at hl 2 rfl) ?_
  refine lv_iload hx hb dL_law_1946 (lv_at hl 1 rfl) ?_
  refine lv_iconst (v := 1) hx hb dL_law_1948 (by decide) ?_
  refine lv_iadd hx hb dL_law_1949 ?_
  refine va_sld hx hb hX hbl (Nat.not_le.mpr hbl) hS h1 dL_law_1950 ?_
  unfold MM_turn at hw
  refine lm_g (rest := []) X m_L_262 hT hS hI (c_X13_turn l D tc s.heap.size sa q (xs (i + 1).toNatClampNeg) 1400 12000 H (hI.2.1.1.mono (fun x _ h => Or.inl h)) hI.2.1.2 (fun x h => h.elim (fun h => h.2.1) (fun h => Nat.le_trans hI.2.2.2.2 h)) (fun x h => Or.inr h) hw) ((hI.2.1.1.one hI.2.1.2 rfl).recv X 0 rfl (q := (RX13, TX13, 5)) rfl) dL_law_1951 hl.1 rfl rfl ⟨Nat.le_of_ble_eq_true rfl, Nat.le_of_ble_eq_true rfl⟩ (Nat.le_of_ble_eq_true rfl) ⟨bud1 hf.1 rfl, bud1 hf.2 rfl⟩ (fun u H locs O hp hS hI => ?_)
  obtain ⟨b9, t9, n9, r9, w9⟩ := u
  dsimp only at hp hI
  refine W.eq (g2 := F0 m 1954 ls [.int b9]) rfl ?_
  refine lv_istore (lv' := [(7, .int b9), (6, .int k1), (5, .int i), (0, .ref b), (1, .ref (ar 0)), (2, .ref q), (3, .ref ob), (4, .ref od)]) hx hb dL_law_1954 hl (by decide) rfl (fun ls hl => ?_)
  refine lv_aload_n hx hb dL_law_1956 rfl (lv_at hl 5 rfl) ?_
  refine lm_r (rest := []) X m_L_169 hT hS hI (c_X13_thrown l D tc s.heap.size sa q H hI.2.1.1 hI.2.1.2 (post := fun v => v = w9 q 0) rfl) ((hI.2.1.1.one hI.2.1.2 rfl).recv X 0 rfl (q := (RX13, TX13, 5)) rfl) dL_law_1957 hl.1 rfl rfl ⟨Nat.le_of_ble_eq_true rfl, Nat.le_of_ble_eq_true rfl⟩ (Nat.le_of_ble_eq_true rfl) ⟨bud2 hf.1 rfl, bud2 hf.2 rfl⟩ (fun u locs hu hS => ?_)
  refine W.eq (g2 := F0 m 1960 ls [.int k1]) (by rw [show u = k1 from (show u = w9 q 0 from hu).trans hp.1]; rfl) ?_
  have hR := hp.2.2
  refine lv_iload hx hb dL_law_1960 (lv_at hl 1 rfl) ?_
  refine lv_icmp_eq (tgt := 1967) hx hb dL_law_1962 (by decide) (fun _ => ?_) (fun hc0 => absurd rfl hc0)
  refine lv_iload hx hb dL_law_1967 (lv_at hl 1 rfl) ?_
  refine lv_if_ne (tgt := 1984) hx hb dL_law_1969 (by decide) (fun hc => ?_) (fun hc => ?_)
  · refine lv_goto (tgt := 2989) hx hb dL_law_1984 (by decide) ?_
    refine W.widen (k := cells + 1520) (n := slots + 13000) (wid3 rfl) (wid3 rfl) ?_
    exact kk H locs ls hS ⟨_, _, _, _, _, _, _, _, _, _, _, _, _, _, _, _, _, _, _, _, _, hI, hR⟩ (lv_sub hl [2, 3, 4, 5, 6, 7] rfl)
  · have eab : a9 = b9 := hp.2.1 hc
    subst eab
    have hfa := hfa hc
    refine lv_aload_n hx hb dL_law_1972 rfl (lv_at hl 6 rfl) ?_
    refine lv_iconst (v := 0) hx hb dL_law_1973 (by decide) ?_
    refine x_lald X dL_law_1974 hI.2.2.1.1 in01 ?_
    refine lv_iload hx hb dL_law_1975 (lv_at hl 0 rfl) ?_
    refine lv_i2l (v := a9.toInt64) hx hb dL_law_1977 rfl ?_
    refine W.lcmp hx hb dL_law_1978 ?_
    refine lv_if_eq (tgt := 1984) hx hb dL_law_1979 (by decide) (fun _ => ?_) (fun hc0 => absurd (lgc_eq hfa) hc0)
    refine lv_goto (tgt := 2989) hx hb dL_law_1984 (by decide) ?_
    refine W.widen (k := cells + 1520) (n := slots + 13000) (wid3 rfl) (wid3 rfl) ?_
    exact kk H locs ls hS ⟨_, _, _, _, _, _, _, _, _, _, _, _, _, _, _, _, _, _, _, _, _, hI, hR⟩ (lv_sub hl [2, 3, 4, 5, 6, 7] rfl)
set_option maxHeartbeats 4000000 in
theorem tc_dropProbe {p : Program} {l : Launch} {e : Env} {s : State} {m : MethodId} {args : Array Value} {below : List Frame} {meth : Method} {c : Code} {H : Heap} {locs : List Loc} {cells slots : Nat} {Q : State → Prop} {D : va_G} {tc : Nat → ClassId} {ls : Array Slot} {sa : Nat → Nat} {b L j : Nat} {xs : Nat → Int32} {i : Int32} {O : Nat → Nat} {q ob od : Nat} {f : Nat → Int64} {g : Nat → UInt64} {ad ar : Nat → Nat} {sp : Option Nat} {sd pd fd : Nat → Nat → Nat} {sums : Nat → Int64} {r w : Dt} {ns : Nat} {sw : Nat → Dt} {np : Nat} {pw : Nat → Dt} {nf : Nat} {fw : Nat → Dt} {spw : Dt} {t n : Nat → Nat} {rr : Nat → Nat → Nat} {ww : Dt} (Rel : RLT) (X : Cx p c s m meth cL_law 10 RL D tc) (hN : NC s) (hT : ST s.heap.size sa s s.heap) (hlf : l.stackTraces = false) (hX : va_X b L xs s s.heap) (hbl : b < s.heap.size) (hS : va_S (old s.heap.size) s.heap H locs) (hI : (LI D tc s.heap.size (sa 3) O q ob od f g ad ar sp sd pd fd sums r w ns sw np pw nf fw spw t n rr ww H)) (hR : Rel j r w sums ns sw np pw nf fw spw q t n rr ww) (hj : j < 512) (h1 : vp_in (i + 1) L) (h2 : vp_in (i + 2) L) (h3 : vp_in (i + 3) L) (h4 : vp_in (i + 4) L) (hl : lv_has ls 10 [(5, .int i), (0, .ref b), (1, .ref (ar 0)), (2, .ref q), (3, .ref ob), (4, .ref od)]) (hf : cells + 1520 ≤ room_1.cells ∧ slots + 13000 ≤ room_1.slots) (hs : SIM_dropProbe Rel) (kk : ∀ (H1 : Heap) (locs1 : List Loc) (ls1 : Array Slot), va_S (old s.heap.size) s.heap H1 locs1 → LH Rel D tc s.heap.size (sa 3) q ob od ad ar (j + 1) H1 → lv_has ls1 10 [(5, .int i), (0, .ref b), (1, .ref (ar 0)), (2, .ref q), (3, .ref ob), (4, .ref od)] → W p l e room_1 s m args below meth c H1 locs1 (cells + 1520) (slots + 13000) Q (F0 m 2989 ls1 [])) : W p l e room_1 s m args below meth c H locs cells slots Q (F0 m 1987 ls []) := by
  have hx := X.1
  have hb := X.2.1
  unfold SIM_dropProbe at hs
  refine lv_aload_n hx hb dL_law_1987 rfl (lv_at hl 2 rfl) ?_
  refine lv_aload_n hx hb dL_law_1988 rfl (lv_at hl 1 rfl) ?_
  refine lv_iload hx hb dL_law_1989 (lv_at hl 0 rfl) ?_
  refine lv_iconst (v := 1) hx hb dL_law_1991 (by decide) ?_
  refine lv_iadd hx hb dL_law_1992 ?_
  refine va_sld hx hb hX hbl (Nat.not_le.mpr hbl) hS h1 dL_law_1993 ?_
  refine lv_aload_n hx hb dL_law_1994 rfl (lv_at hl 1 rfl) ?_
  refine lv_iload hx hb dL_law_1995 (lv_at hl 0 rfl) ?_
  refine lv_iconst (v := 2) hx hb dL_law_1997 (by decide) ?_
  refine lv_iadd hx hb dL_law_1998 ?_
  refine va_sld hx hb hX hbl (Nat.not_le.mpr hbl) hS h2 dL_law_1999 ?_
  refine lv_aload_n hx hb dL_law_2000 rfl (lv_at hl 1 rfl) ?_
  refine lv_iload hx hb dL_law_2001 (lv_at hl 0 rfl) ?_
  refine lv_iconst (v := 3) hx hb dL_law_2003 (by decide) ?_
  refine lv_iadd hx hb dL_law_2004 ?_
  refine va_sld hx hb hX hbl (Nat.not_le.mpr hbl) hS h3 dL_law_2005 ?_
  refine lv_aload_n hx hb dL_law_2006 rfl (lv_at hl 1 rfl) ?_
  refine lv_iload hx hb dL_law_2007 (lv_at hl 0 rfl) ?_
  refine lv_iconst (v := 4) hx hb dL_law_2009 (by decide) ?_
  refine lv_iadd hx hb dL_law_2010 ?_
  refine va_sld hx hb hX hbl (Nat.not_le.mpr hbl) hS h4 dL_law_2011 ?_
  obtain ⟨z9, hz9, hz01⟩ : ∃ z9 : Int32, z9 = (if xs (i + 4).toNatClampNeg = 0 then 0 else 1) ∧ (z9 = 0 ∨ z9 = 1) := by
    by_cases e : xs (i + 4).toNatClampNeg = 0
    · exact ⟨0, by rw [if_pos e], Or.inl rfl⟩
    · exact ⟨1, by rw [if_neg e], Or.inr rfl⟩
  refine (fun key : W p l e room_1 s m args below meth c H locs cells slots Q (F0 m 2020 ls [.int z9, .int (xs (i + 3).toNatClampNeg), .int (xs (i + 2).toNatClampNeg), .int (xs (i + 1).toNatClampNeg), .ref (ar 0)]) => ?_) ?_
  · refine lv_if_eq (tgt := 2019) hx hb dL_law_2012 (by decide) (fun hc => ?_) (fun hc => ?_)
    · refine lv_iconst (v := 0) hx hb dL_law_2019 (by decide) ?_
      rw [if_pos hc] at hz9
      subst hz9
      exact key
    · refine lv_iconst (v := 1) hx hb dL_law_2015 (by decide) ?_
      refine lv_goto (tgt := 2020) hx hb dL_law_2016 (by decide) ?_
      rw [if_neg hc] at hz9
      subst hz9
      exact key
  refine lv_aload_n hx hb dL_law_2020 rfl (lv_at hl 4 rfl) ?_
  have hw := hs j r w sums ns sw np pw nf fw spw q t n rr ww hj hR (xs (i + 1).toNatClampNeg) (xs (i + 2).toNatClampNeg) (xs (i + 3).toNatClampNeg) z9 hz01
  refine lc_dp (rest := []) X hN mw_263 hT hS hI (k_L_dropProbe l D tc s.heap.size sa H ob (xs (i + 1).toNatClampNeg) (xs (i + 2).toNatClampNeg) (xs (i + 3).toNatClampNeg) z9 hI.1.1 (c_X8_dropProbe (l := l) (D := D) (tc := tc) (h0 := s.heap.size) (sa := sa) (H0 := H) (x1 := (xs (i + 1).toNatClampNeg)) (x2 := (xs (i + 2).toNatClampNeg)) (x3 := (xs (i + 3).toNatClampNeg)) (x4 := z9) (hBr := hI.1.1) (hA0 := (fun x h => h.elim (fun h => h.2.1) (fun h => Nat.le_trans hI.2.2.2.2 h))) (hlf := hlf) (hw := hw)) (fun _ => rfl) hI.2.2.1.1 (fun h => h.elim (fun h => Rg.ne h hI.2.2.1.2 (by omega)) (fun h => by have := hI.2.2.1.2.2.2; omega)) (fun x h => h.elim (fun e => e.elim (fun e => e.2.1) (fun e => Nat.le_trans hI.2.2.2.2 e)) (fun e => e ▸ hI.2.2.1.2.2.1)) (fun _ h => h.1)) dL_law_2021 hl.1 rfl rfl ⟨Nat.le_of_ble_eq_true rfl, Nat.le_of_ble_eq_true rfl⟩ (Nat.le_of_ble_eq_true rfl) ⟨bud0 hf.1 rfl, bud0 hf.2 rfl⟩ (fun H locs O f k1 r1 np1 pd1 pw1 hS hI ho => ?_)
  refine W.eq (g2 := F0 m 2024 ls [.int k1]) rfl ?_
  obtain ⟨a9, hw, hfa⟩ : ∃ a9 : Int32, MM_dropProbe Rel j r1 w sums ns sw np1 pw1 nf fw spw q t n rr ww (xs (i + 1).toNatClampNeg) (xs (i + 2).toNatClampNeg) (xs (i + 3).toNatClampNeg) z9 k1 a9 ∧ (k1 = 0 → f 0 = a9.toInt64) := by
    rcases ho with ⟨u, hp, e1, e2, e3, e4, e5⟩ | ⟨k, hp, e1, e3, e4, e5⟩
    · subst e1; subst e3; subst e4; subst e5; exact ⟨(r 0 6), hp, fun _ => e2⟩
    · subst e1; subst e3; subst e4; subst e5; exact ⟨0, hp.2, fun h => absurd h (by rcases hp.1 with rfl | rfl <;> decide)⟩
  refine lv_istore (lv' := [(6, .int k1), (5, .int i), (0, .ref b), (1, .ref (ar 0)), (2, .ref q), (3, .ref ob), (4, .ref od)]) hx hb dL_law_2024 hl (by decide) rfl (fun ls hl => ?_)
  refine lv_aload_n hx hb dL_law_2026 rfl (lv_at hl 4 rfl) ?_
  refine lv_aload_n hx hb dL_law_2027 rfl (lv_at hl 2 rfl) ?_
  refine lv_iload hx hb dL_law_2028 (lv_at hl 1 rfl) ?_
  refine lv_iconst (v := 1) hx hb dL_law_2030 (by decide) ?_
  refine lv_iadd hx hb dL_law_2031 ?_
  refine va_sld hx hb hX hbl (Nat.not_le.mpr hbl) hS h1 dL_law_2032 ?_
  refine lv_aload_n hx hb dL_law_2033 rfl (lv_at hl 2 rfl) ?_
  refine lv_iload hx hb dL_law_2034 (lv_at hl 1 rfl) ?_
  refine lv_iconst (v := 2) hx hb dL_law_2036 (by decide) ?_
  refine lv_iadd hx hb dL_law_2037 ?_
  refine va_sld hx hb hX hbl (Nat.not_le.mpr hbl) hS h2 dL_law_2038 ?_
  refine lv_aload_n hx hb dL_law_2039 rfl (lv_at hl 2 rfl) ?_
  refine lv_iload hx hb dL_law_2040 (lv_at hl 1 rfl) ?_
  refine lv_iconst (v := 3) hx hb dL_law_2042 (by decide) ?_
  refine lv_iadd hx hb dL_law_2043 ?_
  refine va_sld hx hb hX hbl (Nat.not_le.mpr hbl) hS h3 dL_law_2044 ?_
  refine lv_aload_n hx hb dL_law_2045 rfl (lv_at hl 2 rfl) ?_
  refine lv_iload hx hb dL_law_2046 (lv_at hl 1 rfl) ?_
  refine lv_iconst (v := 4) hx hb dL_law_2048 (by decide) ?_
  refine lv_iadd hx hb dL_law_2049 ?_
  refine va_sld hx hb hX hbl (Nat.not_le.mpr hbl) hS h4 dL_law_2050 ?_
  refine (fun key : W p l e room_1 s m args below meth c H locs (cells + rm_L_dropProbe.cells) (slots + rm_L_dropProbe.slots) Q (F0 m 2059 ls [.int z9, .int (xs (i + 3).toNatClampNeg), .int (xs (i + 2).toNatClampNeg), .int (xs (i + 1).toNatClampNeg), .ref q]) => ?_) ?_
  · refine lv_if_eq (tgt := 2058) hx hb dL_law_2051 (by decide) (fun hc => ?_) (fun hc => ?_)
    · refine lv_iconst (v := 0) hx hb dL_law_2058 (by decide) ?_
      rw [if_pos hc] at hz9
      subst hz9
      exact key
    · refine lv_iconst (v := 1) hx hb dL_law_2054 (by decide) ?_
      refine lv_goto (tgt := 2059) hx hb dL_law_2055 (by decide) ?_
      rw [if_neg hc] at hz9
      subst hz9
      exact key
  unfold MM_dropProbe at hw
  refine lm_g (rest := []) X m_L_266 hT hS hI (c_X13_dropProbe l D tc s.heap.size sa q (xs (i + 1).toNatClampNeg) (xs (i + 2).toNatClampNeg) (xs (i + 3).toNatClampNeg) z9 1400 12000 H (hI.2.1.1.mono (fun x _ h => Or.inl h)) hI.2.1.2 (fun x h => h.elim (fun h => h.2.1) (fun h => Nat.le_trans hI.2.2.2.2 h)) (fun x h => Or.inr h) hw) ((hI.2.1.1.one hI.2.1.2 rfl).recv X 0 rfl (q := (RX13, TX13, 5)) rfl) dL_law_2059 hl.1 rfl rfl ⟨Nat.le_of_ble_eq_true rfl, Nat.le_of_ble_eq_true rfl⟩ (Nat.le_of_ble_eq_true rfl) ⟨bud1 hf.1 rfl, bud1 hf.2 rfl⟩ (fun u H locs O hp hS hI => ?_)
  obtain ⟨b9, t9, n9, r9, w9⟩ := u
  dsimp only at hp hI
  refine W.eq (g2 := F0 m 2062 ls [.int b9]) rfl ?_
  refine lv_istore (lv' := [(7, .int b9), (6, .int k1), (5, .int i), (0, .ref b), (1, .ref (ar 0)), (2, .ref q), (3, .ref ob), (4, .ref od)]) hx hb dL_law_2062 hl (by decide) rfl (fun ls hl => ?_)
  refine lv_aload_n hx hb dL_law_2064 rfl (lv_at hl 5 rfl) ?_
  refine lm_r (rest := []) X m_L_169 hT hS hI (c_X13_thrown l D tc s.heap.size sa q H hI.2.1.1 hI.2.1.2 (post := fun v => v = w9 q 0) rfl) ((hI.2.1.1.one hI.2.1.2 rfl).recv X 0 rfl (q := (RX13, TX13, 5)) rfl) dL_law_2065 hl.1 rfl rfl ⟨Nat.le_of_ble_eq_true rfl, Nat.le_of_ble_eq_true rfl⟩ (Nat.le_of_ble_eq_true rfl) ⟨bud2 hf.1 rfl, bud2 hf.2 rfl⟩ (fun u locs hu hS => ?_)
  refine W.eq (g2 := F0 m 2068 ls [.int k1]) (by rw [show u = k1 from (show u = w9 q 0 from hu).trans hp.1]; rfl) ?_
  have hR := hp.2.2
  refine lv_iload hx hb dL_law_2068 (lv_at hl 1 rfl) ?_
  refine lv_icmp_eq (tgt := 2075) hx hb dL_law_2070 (by decide) (fun _ => ?_) (fun hc0 => absurd rfl hc0)
  refine lv_iload hx hb dL_law_2075 (lv_at hl 1 rfl) ?_
  refine lv_if_ne (tgt := 2092) hx hb dL_law_2077 (by decide) (fun hc => ?_) (fun hc => ?_)
  · refine lv_goto (tgt := 2989) hx hb dL_law_2092 (by decide) ?_
    refine W.widen (k := cells + 1520) (n := slots + 13000) (wid3 rfl) (wid3 rfl) ?_
    exact kk H locs ls hS ⟨_, _, _, _, _, _, _, _, _, _, _, _, _, _, _, _, _, _, _, _, _, hI, hR⟩ (lv_sub hl [2, 3, 4, 5, 6, 7] rfl)
  · have eab : a9 = b9 := hp.2.1 hc
    subst eab
    have hfa := hfa hc
    refine lv_aload_n hx hb dL_law_2080 rfl (lv_at hl 6 rfl) ?_
    refine lv_iconst (v := 0) hx hb dL_law_2081 (by decide) ?_
    refine x_lald X dL_law_2082 hI.2.2.1.1 in01 ?_
    refine lv_iload hx hb dL_law_2083 (lv_at hl 0 rfl) ?_
    refine lv_i2l (v := a9.toInt64) hx hb dL_law_2085 rfl ?_
    refine W.lcmp hx hb dL_law_2086 ?_
    refine lv_if_eq (tgt := 2092) hx hb dL_law_2087 (by decide) (fun _ => ?_) (fun hc0 => absurd (lgc_eq hfa) hc0)
    refine lv_goto (tgt := 2989) hx hb dL_law_2092 (by decide) ?_
    refine W.widen (k := cells + 1520) (n := slots + 13000) (wid3 rfl) (wid3 rfl) ?_
    exact kk H locs ls hS ⟨_, _, _, _, _, _, _, _, _, _, _, _, _, _, _, _, _, _, _, _, _, hI, hR⟩ (lv_sub hl [2, 3, 4, 5, 6, 7] rfl)
set_option maxHeartbeats 4000000 in
theorem tc_tick {p : Program} {l : Launch} {e : Env} {s : State} {m : MethodId} {args : Array Value} {below : List Frame} {meth : Method} {c : Code} {H : Heap} {locs : List Loc} {cells slots : Nat} {Q : State → Prop} {D : va_G} {tc : Nat → ClassId} {ls : Array Slot} {sa : Nat → Nat} {b L j : Nat} {xs : Nat → Int32} {i : Int32} {O : Nat → Nat} {q ob od : Nat} {f : Nat → Int64} {g : Nat → UInt64} {ad ar : Nat → Nat} {sp : Option Nat} {sd pd fd : Nat → Nat → Nat} {sums : Nat → Int64} {r w : Dt} {ns : Nat} {sw : Nat → Dt} {np : Nat} {pw : Nat → Dt} {nf : Nat} {fw : Nat → Dt} {spw : Dt} {t n : Nat → Nat} {rr : Nat → Nat → Nat} {ww : Dt} (Rel : RLT) (X : Cx p c s m meth cL_law 10 RL D tc) (hN : NC s) (hT : ST s.heap.size sa s s.heap) (hlf : l.stackTraces = false) (hX : va_X b L xs s s.heap) (hbl : b < s.heap.size) (hS : va_S (old s.heap.size) s.heap H locs) (hI : (LI D tc s.heap.size (sa 3) O q ob od f g ad ar sp sd pd fd sums r w ns sw np pw nf fw spw t n rr ww H)) (hR : Rel j r w sums ns sw np pw nf fw spw q t n rr ww) (hj : j < 512) (h1 : vp_in (i + 1) L) (h2 : vp_in (i + 2) L) (h3 : vp_in (i + 3) L) (h4 : vp_in (i + 4) L) (hl : lv_has ls 10 [(5, .int i), (0, .ref b), (1, .ref (ar 0)), (2, .ref q), (3, .ref ob), (4, .ref od)]) (hf : cells + 1520 ≤ room_1.cells ∧ slots + 13000 ≤ room_1.slots) (hs : SIM_tick Rel) (kk : ∀ (H1 : Heap) (locs1 : List Loc) (ls1 : Array Slot), va_S (old s.heap.size) s.heap H1 locs1 → LH Rel D tc s.heap.size (sa 3) q ob od ad ar (j + 1) H1 → lv_has ls1 10 [(5, .int i), (0, .ref b), (1, .ref (ar 0)), (2, .ref q), (3, .ref ob), (4, .ref od)] → W p l e room_1 s m args below meth c H1 locs1 (cells + 1520) (slots + 13000) Q (F0 m 2989 ls1 [])) : W p l e room_1 s m args below meth c H locs cells slots Q (F0 m 2095 ls []) := by
  have hx := X.1
  have hb := X.2.1
  unfold SIM_tick at hs
  refine lv_aload_n hx hb dL_law_2095 rfl (lv_at hl 2 rfl) ?_
  refine lv_aload_n hx hb dL_law_2096 rfl (lv_at hl 1 rfl) ?_
  refine lv_iload hx hb dL_law_2097 (lv_at hl 0 rfl) ?_
  refine lv_iconst (v := 1) hx hb dL_law_2099 (by decide) ?_
  refine lv_iadd hx hb dL_law_2100 ?_
  refine va_sld hx hb hX hbl (Nat.not_le.mpr hbl) hS h1 dL_law_2101 ?_
  refine lv_aload_n hx hb dL_law_2102 rfl (lv_at hl 4 rfl) ?_
  have hw := hs j r w sums ns sw np pw nf fw spw q t n rr ww hj hR (xs (i + 1).toNatClampNeg)
  refine lc_p (rest := []) (k0 := (xs (i + 1).toNatClampNeg).toNatClampNeg) X hN mw_267 hT hS hI (k_L_tick l D tc s.heap.size sa H ob (xs (i + 1).toNatClampNeg) hI.1.1 (c_X8_tick (l := l) (D := D) (tc := tc) (h0 := s.heap.size) (sa := sa) (H0 := H) (x1 := (xs (i + 1).toNatClampNeg)) (hBr := hI.1.1) (hBw := hI.1.2.1) (hBps := hI.1.2.2.2.1) (hDr := (fun _ h g => Rg.ne h g (by omega))) (hDw := (fun _ h g => Rg.ne h g (by omega))) (hA0 := (fun _ h => h.2.1)) (hlf := hlf) (hw := hw)) (fun _ => rfl) hI.2.2.1.1 (fun h => Rg.ne h hI.2.2.1.2 (by omega)) (fun x h => h.elim (fun e => e.2.1) (fun e => e ▸ hI.2.2.1.2.2.1)) (fun _ h => h.1)) dL_law_2103 hl.1 rfl rfl ⟨Nat.le_of_ble_eq_true rfl, Nat.le_of_ble_eq_true rfl⟩ (Nat.le_of_ble_eq_true rfl) ⟨bud0 hf.1 rfl, bud0 hf.2 rfl⟩ (fun H locs O f k1 pw1 hS hI ho => ?_)
  refine W.eq (g2 := F0 m 2106 ls [.int k1]) rfl ?_
  obtain ⟨a9, hw, hfa⟩ : ∃ a9 : Int32, MM_tick Rel j r w sums ns sw np pw1 nf fw spw q t n rr ww (xs (i + 1).toNatClampNeg) k1 a9 ∧ (k1 = 0 → f 0 = a9.toInt64) := by
    rcases ho with ⟨u, hp, e1, e2, e3⟩ | ⟨k, hp, e1, e3⟩
    · subst e1; subst e3; exact ⟨u.1, hp, fun _ => e2⟩
    · subst e1; subst e3; exact ⟨0, hp.2, fun h => absurd h (by rcases hp.1 with rfl | rfl <;> decide)⟩
  refine lv_istore (lv' := [(6, .int k1), (5, .int i), (0, .ref b), (1, .ref (ar 0)), (2, .ref q), (3, .ref ob), (4, .ref od)]) hx hb dL_law_2106 hl (by decide) rfl (fun ls hl => ?_)
  refine lv_aload_n hx hb dL_law_2108 rfl (lv_at hl 4 rfl) ?_
  refine lv_aload_n hx hb dL_law_2109 rfl (lv_at hl 2 rfl) ?_
  refine lv_iload hx hb dL_law_2110 (lv_at hl 1 rfl) ?_
  refine lv_iconst (v := 1) hx hb dL_law_2112 (by decide) ?_
  refine lv_iadd hx hb dL_law_2113 ?_
  refine va_sld hx hb hX hbl (Nat.not_le.mpr hbl) hS h1 dL_law_2114 ?_
  unfold MM_tick at hw
  refine lm_g (rest := []) X m_L_269 hT hS hI (c_X13_tick l D tc s.heap.size sa q (xs (i + 1).toNatClampNeg) 1400 12000 H (hI.2.1.1.mono (fun x _ h => Or.inl h)) hI.2.1.2 (fun x h => h.elim (fun h => h.2.1) (fun h => Nat.le_trans hI.2.2.2.2 h)) (fun x h => Or.inr h) hw) ((hI.2.1.1.one hI.2.1.2 rfl).recv X 0 rfl (q := (RX13, TX13, 5)) rfl) dL_law_2115 hl.1 rfl rfl ⟨Nat.le_of_ble_eq_true rfl, Nat.le_of_ble_eq_true rfl⟩ (Nat.le_of_ble_eq_true rfl) ⟨bud1 hf.1 rfl, bud1 hf.2 rfl⟩ (fun u H locs O hp hS hI => ?_)
  obtain ⟨b9, t9, n9, r9, w9⟩ := u
  dsimp only at hp hI
  refine W.eq (g2 := F0 m 2118 ls [.int b9]) rfl ?_
  refine lv_istore (lv' := [(7, .int b9), (6, .int k1), (5, .int i), (0, .ref b), (1, .ref (ar 0)), (2, .ref q), (3, .ref ob), (4, .ref od)]) hx hb dL_law_2118 hl (by decide) rfl (fun ls hl => ?_)
  refine lv_aload_n hx hb dL_law_2120 rfl (lv_at hl 5 rfl) ?_
  refine lm_r (rest := []) X m_L_169 hT hS hI (c_X13_thrown l D tc s.heap.size sa q H hI.2.1.1 hI.2.1.2 (post := fun v => v = w9 q 0) rfl) ((hI.2.1.1.one hI.2.1.2 rfl).recv X 0 rfl (q := (RX13, TX13, 5)) rfl) dL_law_2121 hl.1 rfl rfl ⟨Nat.le_of_ble_eq_true rfl, Nat.le_of_ble_eq_true rfl⟩ (Nat.le_of_ble_eq_true rfl) ⟨bud2 hf.1 rfl, bud2 hf.2 rfl⟩ (fun u locs hu hS => ?_)
  refine W.eq (g2 := F0 m 2124 ls [.int k1]) (by rw [show u = k1 from (show u = w9 q 0 from hu).trans hp.1]; rfl) ?_
  have hR := hp.2.2
  refine lv_iload hx hb dL_law_2124 (lv_at hl 1 rfl) ?_
  refine lv_icmp_eq (tgt := 2131) hx hb dL_law_2126 (by decide) (fun _ => ?_) (fun hc0 => absurd rfl hc0)
  refine lv_iload hx hb dL_law_2131 (lv_at hl 1 rfl) ?_
  refine lv_if_ne (tgt := 2148) hx hb dL_law_2133 (by decide) (fun hc => ?_) (fun hc => ?_)
  · refine lv_goto (tgt := 2989) hx hb dL_law_2148 (by decide) ?_
    refine W.widen (k := cells + 1520) (n := slots + 13000) (wid3 rfl) (wid3 rfl) ?_
    exact kk H locs ls hS ⟨_, _, _, _, _, _, _, _, _, _, _, _, _, _, _, _, _, _, _, _, _, hI, hR⟩ (lv_sub hl [2, 3, 4, 5, 6, 7] rfl)
  · have eab : a9 = b9 := hp.2.1 hc
    subst eab
    have hfa := hfa hc
    refine lv_aload_n hx hb dL_law_2136 rfl (lv_at hl 6 rfl) ?_
    refine lv_iconst (v := 0) hx hb dL_law_2137 (by decide) ?_
    refine x_lald X dL_law_2138 hI.2.2.1.1 in01 ?_
    refine lv_iload hx hb dL_law_2139 (lv_at hl 0 rfl) ?_
    refine lv_i2l (v := a9.toInt64) hx hb dL_law_2141 rfl ?_
    refine W.lcmp hx hb dL_law_2142 ?_
    refine lv_if_eq (tgt := 2148) hx hb dL_law_2143 (by decide) (fun _ => ?_) (fun hc0 => absurd (lgc_eq hfa) hc0)
    refine lv_goto (tgt := 2989) hx hb dL_law_2148 (by decide) ?_
    refine W.widen (k := cells + 1520) (n := slots + 13000) (wid3 rfl) (wid3 rfl) ?_
    exact kk H locs ls hS ⟨_, _, _, _, _, _, _, _, _, _, _, _, _, _, _, _, _, _, _, _, _, hI, hR⟩ (lv_sub hl [2, 3, 4, 5, 6, 7] rfl)
set_option maxHeartbeats 4000000 in
theorem tc_sent {p : Program} {l : Launch} {e : Env} {s : State} {m : MethodId} {args : Array Value} {below : List Frame} {meth : Method} {c : Code} {H : Heap} {locs : List Loc} {cells slots : Nat} {Q : State → Prop} {D : va_G} {tc : Nat → ClassId} {ls : Array Slot} {sa : Nat → Nat} {b L j : Nat} {xs : Nat → Int32} {i : Int32} {O : Nat → Nat} {q ob od : Nat} {f : Nat → Int64} {g : Nat → UInt64} {ad ar : Nat → Nat} {sp : Option Nat} {sd pd fd : Nat → Nat → Nat} {sums : Nat → Int64} {r w : Dt} {ns : Nat} {sw : Nat → Dt} {np : Nat} {pw : Nat → Dt} {nf : Nat} {fw : Nat → Dt} {spw : Dt} {t n : Nat → Nat} {rr : Nat → Nat → Nat} {ww : Dt} (Rel : RLT) (X : Cx p c s m meth cL_law 10 RL D tc) (hN : NC s) (hT : ST s.heap.size sa s s.heap) (hlf : l.stackTraces = false) (hX : va_X b L xs s s.heap) (hbl : b < s.heap.size) (hS : va_S (old s.heap.size) s.heap H locs) (hI : (LI D tc s.heap.size (sa 3) O q ob od f g ad ar sp sd pd fd sums r w ns sw np pw nf fw spw t n rr ww H)) (hR : Rel j r w sums ns sw np pw nf fw spw q t n rr ww) (hj : j < 512) (h1 : vp_in (i + 1) L) (h2 : vp_in (i + 2) L) (h3 : vp_in (i + 3) L) (h4 : vp_in (i + 4) L) (hl : lv_has ls 10 [(5, .int i), (0, .ref b), (1, .ref (ar 0)), (2, .ref q), (3, .ref ob), (4, .ref od)]) (hf : cells + 1520 ≤ room_1.cells ∧ slots + 13000 ≤ room_1.slots) (hs : SIM_sent Rel) (kk : ∀ (H1 : Heap) (locs1 : List Loc) (ls1 : Array Slot), va_S (old s.heap.size) s.heap H1 locs1 → LH Rel D tc s.heap.size (sa 3) q ob od ad ar (j + 1) H1 → lv_has ls1 10 [(5, .int i), (0, .ref b), (1, .ref (ar 0)), (2, .ref q), (3, .ref ob), (4, .ref od)] → W p l e room_1 s m args below meth c H1 locs1 (cells + 1520) (slots + 13000) Q (F0 m 2989 ls1 [])) : W p l e room_1 s m args below meth c H locs cells slots Q (F0 m 2151 ls []) := by
  have hx := X.1
  have hb := X.2.1
  unfold SIM_sent at hs
  refine lv_aload_n hx hb dL_law_2151 rfl (lv_at hl 2 rfl) ?_
  refine lv_aload_n hx hb dL_law_2152 rfl (lv_at hl 1 rfl) ?_
  refine lv_iload hx hb dL_law_2153 (lv_at hl 0 rfl) ?_
  refine lv_iconst (v := 1) hx hb dL_law_2155 (by decide) ?_
  refine lv_iadd hx hb dL_law_2156 ?_
  refine va_sld hx hb hX hbl (Nat.not_le.mpr hbl) hS h1 dL_law_2157 ?_
  refine lv_aload_n hx hb dL_law_2158 rfl (lv_at hl 4 rfl) ?_
  have hw := hs j r w sums ns sw np pw nf fw spw q t n rr ww hj hR (xs (i + 1).toNatClampNeg)
  refine lc_ro (rest := []) X hN mw_270 hT hS hI (k_L_sent l D tc s.heap.size sa H ob (xs (i + 1).toNatClampNeg) hI.1.1 (c_X8_sent (l := l) (D := D) (tc := tc) (h0 := s.heap.size) (sa := sa) (H0 := H) (x1 := (xs (i + 1).toNatClampNeg)) (hBr := hI.1.1) (hBps := hI.1.2.2.2.1) (hlf := hlf) (hw := hw)) (fun _ => rfl) hI.2.2.1.1 (fun h => h) (fun x h => h.elim False.elim (fun e => e ▸ hI.2.2.1.2.2.1)) (fun _ h => h.1)) dL_law_2159 hl.1 rfl rfl ⟨Nat.le_of_ble_eq_true rfl, Nat.le_of_ble_eq_true rfl⟩ (Nat.le_of_ble_eq_true rfl) ⟨bud0 hf.1 rfl, bud0 hf.2 rfl⟩ (fun H locs O f k1 hS hI ho => ?_)
  refine W.eq (g2 := F0 m 2162 ls [.int k1]) rfl ?_
  obtain ⟨a9, hw, hfa⟩ : ∃ a9 : Int32, MM_sent Rel j r w sums ns sw np pw nf fw spw q t n rr ww (xs (i + 1).toNatClampNeg) k1 a9 ∧ (k1 = 0 → f 0 = a9.toInt64) := by
    rcases ho with ⟨u, hp, e1, e2⟩ | ⟨k, hp, e1⟩
    · subst e1; exact ⟨u, hp, fun _ => e2⟩
    · subst e1; exact ⟨0, hp.2, fun h => absurd h (by have ek := hp.1; subst ek; decide)⟩
  refine lv_istore (lv' := [(6, .int k1), (5, .int i), (0, .ref b), (1, .ref (ar 0)), (2, .ref q), (3, .ref ob), (4, .ref od)]) hx hb dL_law_2162 hl (by decide) rfl (fun ls hl => ?_)
  refine lv_aload_n hx hb dL_law_2164 rfl (lv_at hl 4 rfl) ?_
  refine lv_aload_n hx hb dL_law_2165 rfl (lv_at hl 2 rfl) ?_
  refine lv_iload hx hb dL_law_2166 (lv_at hl 1 rfl) ?_
  refine lv_iconst (v := 1) hx hb dL_law_2168 (by decide) ?_
  refine lv_iadd hx hb dL_law_2169 ?_
  refine va_sld hx hb hX hbl (Nat.not_le.mpr hbl) hS h1 dL_law_2170 ?_
  unfold MM_sent at hw
  refine lm_w (rest := []) X m_L_272 hT hS hI (c_X13_sent l D tc s.heap.size sa q (xs (i + 1).toNatClampNeg) H hI.2.1.1 hI.2.1.2 (fun _ h => h.2.1) hw) ((hI.2.1.1.one hI.2.1.2 rfl).recv X 0 rfl (q := (RX13, TX13, 5)) rfl) dL_law_2171 hl.1 rfl rfl ⟨Nat.le_of_ble_eq_true rfl, Nat.le_of_ble_eq_true rfl⟩ (Nat.le_of_ble_eq_true rfl) ⟨bud1 hf.1 rfl, bud1 hf.2 rfl⟩ (fun u H locs O hp hS hI => ?_)
  obtain ⟨b9, w9⟩ := u
  dsimp only at hp hI
  refine W.eq (g2 := F0 m 2174 ls [.int b9]) rfl ?_
  refine lv_istore (lv' := [(7, .int b9), (6, .int k1), (5, .int i), (0, .ref b), (1, .ref (ar 0)), (2, .ref q), (3, .ref ob), (4, .ref od)]) hx hb dL_law_2174 hl (by decide) rfl (fun ls hl => ?_)
  refine lv_aload_n hx hb dL_law_2176 rfl (lv_at hl 5 rfl) ?_
  refine lm_r (rest := []) X m_L_169 hT hS hI (c_X13_thrown l D tc s.heap.size sa q H hI.2.1.1 hI.2.1.2 (post := fun v => v = w9 q 0) rfl) ((hI.2.1.1.one hI.2.1.2 rfl).recv X 0 rfl (q := (RX13, TX13, 5)) rfl) dL_law_2177 hl.1 rfl rfl ⟨Nat.le_of_ble_eq_true rfl, Nat.le_of_ble_eq_true rfl⟩ (Nat.le_of_ble_eq_true rfl) ⟨bud2 hf.1 rfl, bud2 hf.2 rfl⟩ (fun u locs hu hS => ?_)
  refine W.eq (g2 := F0 m 2180 ls [.int k1]) (by rw [show u = k1 from (show u = w9 q 0 from hu).trans hp.1]; rfl) ?_
  have hR := hp.2.2
  refine lv_iload hx hb dL_law_2180 (lv_at hl 1 rfl) ?_
  refine lv_icmp_eq (tgt := 2187) hx hb dL_law_2182 (by decide) (fun _ => ?_) (fun hc0 => absurd rfl hc0)
  refine lv_iload hx hb dL_law_2187 (lv_at hl 1 rfl) ?_
  refine lv_if_ne (tgt := 2204) hx hb dL_law_2189 (by decide) (fun hc => ?_) (fun hc => ?_)
  · refine lv_goto (tgt := 2989) hx hb dL_law_2204 (by decide) ?_
    refine W.widen (k := cells + 1520) (n := slots + 13000) (wid3 rfl) (wid3 rfl) ?_
    exact kk H locs ls hS ⟨_, _, _, _, _, _, _, _, _, _, _, _, _, _, _, _, _, _, _, _, _, hI, hR⟩ (lv_sub hl [2, 3, 4, 5, 6, 7] rfl)
  · have eab : a9 = b9 := hp.2.1 hc
    subst eab
    have hfa := hfa hc
    refine lv_aload_n hx hb dL_law_2192 rfl (lv_at hl 6 rfl) ?_
    refine lv_iconst (v := 0) hx hb dL_law_2193 (by decide) ?_
    refine x_lald X dL_law_2194 hI.2.2.1.1 in01 ?_
    refine lv_iload hx hb dL_law_2195 (lv_at hl 0 rfl) ?_
    refine lv_i2l (v := a9.toInt64) hx hb dL_law_2197 rfl ?_
    refine W.lcmp hx hb dL_law_2198 ?_
    refine lv_if_eq (tgt := 2204) hx hb dL_law_2199 (by decide) (fun _ => ?_) (fun hc0 => absurd (lgc_eq hfa) hc0)
    refine lv_goto (tgt := 2989) hx hb dL_law_2204 (by decide) ?_
    refine W.widen (k := cells + 1520) (n := slots + 13000) (wid3 rfl) (wid3 rfl) ?_
    exact kk H locs ls hS ⟨_, _, _, _, _, _, _, _, _, _, _, _, _, _, _, _, _, _, _, _, _, hI, hR⟩ (lv_sub hl [2, 3, 4, 5, 6, 7] rfl)
set_option maxHeartbeats 4000000 in
theorem tc_sentAt {p : Program} {l : Launch} {e : Env} {s : State} {m : MethodId} {args : Array Value} {below : List Frame} {meth : Method} {c : Code} {H : Heap} {locs : List Loc} {cells slots : Nat} {Q : State → Prop} {D : va_G} {tc : Nat → ClassId} {ls : Array Slot} {sa : Nat → Nat} {b L j : Nat} {xs : Nat → Int32} {i : Int32} {O : Nat → Nat} {q ob od : Nat} {f : Nat → Int64} {g : Nat → UInt64} {ad ar : Nat → Nat} {sp : Option Nat} {sd pd fd : Nat → Nat → Nat} {sums : Nat → Int64} {r w : Dt} {ns : Nat} {sw : Nat → Dt} {np : Nat} {pw : Nat → Dt} {nf : Nat} {fw : Nat → Dt} {spw : Dt} {t n : Nat → Nat} {rr : Nat → Nat → Nat} {ww : Dt} (Rel : RLT) (X : Cx p c s m meth cL_law 10 RL D tc) (hN : NC s) (hT : ST s.heap.size sa s s.heap) (hlf : l.stackTraces = false) (hX : va_X b L xs s s.heap) (hbl : b < s.heap.size) (hS : va_S (old s.heap.size) s.heap H locs) (hI : (LI D tc s.heap.size (sa 3) O q ob od f g ad ar sp sd pd fd sums r w ns sw np pw nf fw spw t n rr ww H)) (hR : Rel j r w sums ns sw np pw nf fw spw q t n rr ww) (hj : j < 512) (h1 : vp_in (i + 1) L) (h2 : vp_in (i + 2) L) (h3 : vp_in (i + 3) L) (h4 : vp_in (i + 4) L) (hl : lv_has ls 10 [(5, .int i), (0, .ref b), (1, .ref (ar 0)), (2, .ref q), (3, .ref ob), (4, .ref od)]) (hf : cells + 1520 ≤ room_1.cells ∧ slots + 13000 ≤ room_1.slots) (hs : SIM_sentAt Rel) (kk : ∀ (H1 : Heap) (locs1 : List Loc) (ls1 : Array Slot), va_S (old s.heap.size) s.heap H1 locs1 → LH Rel D tc s.heap.size (sa 3) q ob od ad ar (j + 1) H1 → lv_has ls1 10 [(5, .int i), (0, .ref b), (1, .ref (ar 0)), (2, .ref q), (3, .ref ob), (4, .ref od)] → W p l e room_1 s m args below meth c H1 locs1 (cells + 1520) (slots + 13000) Q (F0 m 2989 ls1 [])) : W p l e room_1 s m args below meth c H locs cells slots Q (F0 m 2207 ls []) := by
  have hx := X.1
  have hb := X.2.1
  unfold SIM_sentAt at hs
  refine lv_aload_n hx hb dL_law_2207 rfl (lv_at hl 2 rfl) ?_
  refine lv_aload_n hx hb dL_law_2208 rfl (lv_at hl 1 rfl) ?_
  refine lv_iload hx hb dL_law_2209 (lv_at hl 0 rfl) ?_
  refine lv_iconst (v := 1) hx hb dL_law_2211 (by decide) ?_
  refine lv_iadd hx hb dL_law_2212 ?_
  refine va_sld hx hb hX hbl (Nat.not_le.mpr hbl) hS h1 dL_law_2213 ?_
  refine lv_aload_n hx hb dL_law_2214 rfl (lv_at hl 1 rfl) ?_
  refine lv_iload hx hb dL_law_2215 (lv_at hl 0 rfl) ?_
  refine lv_iconst (v := 2) hx hb dL_law_2217 (by decide) ?_
  refine lv_iadd hx hb dL_law_2218 ?_
  refine va_sld hx hb hX hbl (Nat.not_le.mpr hbl) hS h2 dL_law_2219 ?_
  refine lv_aload_n hx hb dL_law_2220 rfl (lv_at hl 1 rfl) ?_
  refine lv_iload hx hb dL_law_2221 (lv_at hl 0 rfl) ?_
  refine lv_iconst (v := 3) hx hb dL_law_2223 (by decide) ?_
  refine lv_iadd hx hb dL_law_2224 ?_
  refine va_sld hx hb hX hbl (Nat.not_le.mpr hbl) hS h3 dL_law_2225 ?_
  refine lv_i2c (v := (chr9 (xs (i + 3).toNatClampNeg))) hx hb dL_law_2226 rfl ?_
  refine lv_aload_n hx hb dL_law_2227 rfl (lv_at hl 4 rfl) ?_
  have hw := hs j r w sums ns sw np pw nf fw spw q t n rr ww hj hR (xs (i + 1).toNatClampNeg) (xs (i + 2).toNatClampNeg) (chr9 (xs (i + 3).toNatClampNeg))
  refine lc_ro (rest := []) X hN mw_273 hT hS hI (k_L_sentAt l D tc s.heap.size sa H ob (xs (i + 1).toNatClampNeg) (xs (i + 2).toNatClampNeg) (chr9 (xs (i + 3).toNatClampNeg)) hI.1.1 (c_X8_sentAt (l := l) (D := D) (tc := tc) (h0 := s.heap.size) (sa := sa) (H0 := H) (x1 := (xs (i + 1).toNatClampNeg)) (x2 := (xs (i + 2).toNatClampNeg)) (x3 := (chr9 (xs (i + 3).toNatClampNeg))) (hBr := hI.1.1) (hBps := hI.1.2.2.2.1) (hlf := hlf) (hw := hw)) (fun _ => rfl) hI.2.2.1.1 (fun h => h) (fun x h => h.elim False.elim (fun e => e ▸ hI.2.2.1.2.2.1)) (fun _ h => h.1)) dL_law_2228 hl.1 rfl rfl ⟨Nat.le_of_ble_eq_true rfl, Nat.le_of_ble_eq_true rfl⟩ (Nat.le_of_ble_eq_true rfl) ⟨bud0 hf.1 rfl, bud0 hf.2 rfl⟩ (fun H locs O f k1 hS hI ho => ?_)
  refine W.eq (g2 := F0 m 2231 ls [.int k1]) rfl ?_
  obtain ⟨a9, hw, hfa⟩ : ∃ a9 : Int32, MM_sentAt Rel j r w sums ns sw np pw nf fw spw q t n rr ww (xs (i + 1).toNatClampNeg) (xs (i + 2).toNatClampNeg) (chr9 (xs (i + 3).toNatClampNeg)) k1 a9 ∧ (k1 = 0 → f 0 = a9.toInt64) := by
    rcases ho with ⟨u, hp, e1, e2⟩ | ⟨k, hp, e1⟩
    · subst e1; exact ⟨u, hp, fun _ => e2⟩
    · subst e1; exact ⟨0, hp.2, fun h => absurd h (by rcases hp.1 with rfl | rfl | rfl <;> decide)⟩
  refine lv_istore (lv' := [(6, .int k1), (5, .int i), (0, .ref b), (1, .ref (ar 0)), (2, .ref q), (3, .ref ob), (4, .ref od)]) hx hb dL_law_2231 hl (by decide) rfl (fun ls hl => ?_)
  refine lv_aload_n hx hb dL_law_2233 rfl (lv_at hl 4 rfl) ?_
  refine lv_aload_n hx hb dL_law_2234 rfl (lv_at hl 2 rfl) ?_
  refine lv_iload hx hb dL_law_2235 (lv_at hl 1 rfl) ?_
  refine lv_iconst (v := 1) hx hb dL_law_2237 (by decide) ?_
  refine lv_iadd hx hb dL_law_2238 ?_
  refine va_sld hx hb hX hbl (Nat.not_le.mpr hbl) hS h1 dL_law_2239 ?_
  refine lv_aload_n hx hb dL_law_2240 rfl (lv_at hl 2 rfl) ?_
  refine lv_iload hx hb dL_law_2241 (lv_at hl 1 rfl) ?_
  refine lv_iconst (v := 2) hx hb dL_law_2243 (by decide) ?_
  refine lv_iadd hx hb dL_law_2244 ?_
  refine va_sld hx hb hX hbl (Nat.not_le.mpr hbl) hS h2 dL_law_2245 ?_
  refine lv_aload_n hx hb dL_law_2246 rfl (lv_at hl 2 rfl) ?_
  refine lv_iload hx hb dL_law_2247 (lv_at hl 1 rfl) ?_
  refine lv_iconst (v := 3) hx hb dL_law_2249 (by decide) ?_
  refine lv_iadd hx hb dL_law_2250 ?_
  refine va_sld hx hb hX hbl (Nat.not_le.mpr hbl) hS h3 dL_law_2251 ?_
  refine lv_i2c (v := (chr9 (xs (i + 3).toNatClampNeg))) hx hb dL_law_2252 rfl ?_
  unfold MM_sentAt at hw
  refine lm_w (rest := []) X m_L_276 hT hS hI (c_X13_sentAt l D tc s.heap.size sa q (xs (i + 1).toNatClampNeg) (xs (i + 2).toNatClampNeg) (chr9 (xs (i + 3).toNatClampNeg)) H hI.2.1.1 hI.2.1.2 (fun _ h => h.2.1) hw) ((hI.2.1.1.one hI.2.1.2 rfl).recv X 0 rfl (q := (RX13, TX13, 5)) rfl) dL_law_2253 hl.1 rfl rfl ⟨Nat.le_of_ble_eq_true rfl, Nat.le_of_ble_eq_true rfl⟩ (Nat.le_of_ble_eq_true rfl) ⟨bud1 hf.1 rfl, bud1 hf.2 rfl⟩ (fun u H locs O hp hS hI => ?_)
  obtain ⟨b9, w9⟩ := u
  dsimp only at hp hI
  refine W.eq (g2 := F0 m 2256 ls [.int b9]) rfl ?_
  refine lv_istore (lv' := [(7, .int b9), (6, .int k1), (5, .int i), (0, .ref b), (1, .ref (ar 0)), (2, .ref q), (3, .ref ob), (4, .ref od)]) hx hb dL_law_2256 hl (by decide) rfl (fun ls hl => ?_)
  refine lv_aload_n hx hb dL_law_2258 rfl (lv_at hl 5 rfl) ?_
  refine lm_r (rest := []) X m_L_169 hT hS hI (c_X13_thrown l D tc s.heap.size sa q H hI.2.1.1 hI.2.1.2 (post := fun v => v = w9 q 0) rfl) ((hI.2.1.1.one hI.2.1.2 rfl).recv X 0 rfl (q := (RX13, TX13, 5)) rfl) dL_law_2259 hl.1 rfl rfl ⟨Nat.le_of_ble_eq_true rfl, Nat.le_of_ble_eq_true rfl⟩ (Nat.le_of_ble_eq_true rfl) ⟨bud2 hf.1 rfl, bud2 hf.2 rfl⟩ (fun u locs hu hS => ?_)
  refine W.eq (g2 := F0 m 2262 ls [.int k1]) (by rw [show u = k1 from (show u = w9 q 0 from hu).trans hp.1]; rfl) ?_
  have hR := hp.2.2
  refine lv_iload hx hb dL_law_2262 (lv_at hl 1 rfl) ?_
  refine lv_icmp_eq (tgt := 2269) hx hb dL_law_2264 (by decide) (fun _ => ?_) (fun hc0 => absurd rfl hc0)
  refine lv_iload hx hb dL_law_2269 (lv_at hl 1 rfl) ?_
  refine lv_if_ne (tgt := 2286) hx hb dL_law_2271 (by decide) (fun hc => ?_) (fun hc => ?_)
  · refine lv_goto (tgt := 2989) hx hb dL_law_2286 (by decide) ?_
    refine W.widen (k := cells + 1520) (n := slots + 13000) (wid3 rfl) (wid3 rfl) ?_
    exact kk H locs ls hS ⟨_, _, _, _, _, _, _, _, _, _, _, _, _, _, _, _, _, _, _, _, _, hI, hR⟩ (lv_sub hl [2, 3, 4, 5, 6, 7] rfl)
  · have eab : a9 = b9 := hp.2.1 hc
    subst eab
    have hfa := hfa hc
    refine lv_aload_n hx hb dL_law_2274 rfl (lv_at hl 6 rfl) ?_
    refine lv_iconst (v := 0) hx hb dL_law_2275 (by decide) ?_
    refine x_lald X dL_law_2276 hI.2.2.1.1 in01 ?_
    refine lv_iload hx hb dL_law_2277 (lv_at hl 0 rfl) ?_
    refine lv_i2l (v := a9.toInt64) hx hb dL_law_2279 rfl ?_
    refine W.lcmp hx hb dL_law_2280 ?_
    refine lv_if_eq (tgt := 2286) hx hb dL_law_2281 (by decide) (fun _ => ?_) (fun hc0 => absurd (lgc_eq hfa) hc0)
    refine lv_goto (tgt := 2989) hx hb dL_law_2286 (by decide) ?_
    refine W.widen (k := cells + 1520) (n := slots + 13000) (wid3 rfl) (wid3 rfl) ?_
    exact kk H locs ls hS ⟨_, _, _, _, _, _, _, _, _, _, _, _, _, _, _, _, _, _, _, _, _, hI, hR⟩ (lv_sub hl [2, 3, 4, 5, 6, 7] rfl)
set_option maxHeartbeats 4000000 in
theorem tc_lost {p : Program} {l : Launch} {e : Env} {s : State} {m : MethodId} {args : Array Value} {below : List Frame} {meth : Method} {c : Code} {H : Heap} {locs : List Loc} {cells slots : Nat} {Q : State → Prop} {D : va_G} {tc : Nat → ClassId} {ls : Array Slot} {sa : Nat → Nat} {b L j : Nat} {xs : Nat → Int32} {i : Int32} {O : Nat → Nat} {q ob od : Nat} {f : Nat → Int64} {g : Nat → UInt64} {ad ar : Nat → Nat} {sp : Option Nat} {sd pd fd : Nat → Nat → Nat} {sums : Nat → Int64} {r w : Dt} {ns : Nat} {sw : Nat → Dt} {np : Nat} {pw : Nat → Dt} {nf : Nat} {fw : Nat → Dt} {spw : Dt} {t n : Nat → Nat} {rr : Nat → Nat → Nat} {ww : Dt} (Rel : RLT) (X : Cx p c s m meth cL_law 10 RL D tc) (hN : NC s) (hT : ST s.heap.size sa s s.heap) (hlf : l.stackTraces = false) (hX : va_X b L xs s s.heap) (hbl : b < s.heap.size) (hS : va_S (old s.heap.size) s.heap H locs) (hI : (LI D tc s.heap.size (sa 3) O q ob od f g ad ar sp sd pd fd sums r w ns sw np pw nf fw spw t n rr ww H)) (hR : Rel j r w sums ns sw np pw nf fw spw q t n rr ww) (hj : j < 512) (h1 : vp_in (i + 1) L) (h2 : vp_in (i + 2) L) (h3 : vp_in (i + 3) L) (h4 : vp_in (i + 4) L) (hl : lv_has ls 10 [(5, .int i), (0, .ref b), (1, .ref (ar 0)), (2, .ref q), (3, .ref ob), (4, .ref od)]) (hf : cells + 1520 ≤ room_1.cells ∧ slots + 13000 ≤ room_1.slots) (hs : SIM_lost Rel) (kk : ∀ (H1 : Heap) (locs1 : List Loc) (ls1 : Array Slot), va_S (old s.heap.size) s.heap H1 locs1 → LH Rel D tc s.heap.size (sa 3) q ob od ad ar (j + 1) H1 → lv_has ls1 10 [(5, .int i), (0, .ref b), (1, .ref (ar 0)), (2, .ref q), (3, .ref ob), (4, .ref od)] → W p l e room_1 s m args below meth c H1 locs1 (cells + 1520) (slots + 13000) Q (F0 m 2989 ls1 [])) : W p l e room_1 s m args below meth c H locs cells slots Q (F0 m 2289 ls []) := by
  have hx := X.1
  have hb := X.2.1
  unfold SIM_lost at hs
  refine lv_aload_n hx hb dL_law_2289 rfl (lv_at hl 2 rfl) ?_
  refine lv_aload_n hx hb dL_law_2290 rfl (lv_at hl 1 rfl) ?_
  refine lv_iload hx hb dL_law_2291 (lv_at hl 0 rfl) ?_
  refine lv_iconst (v := 1) hx hb dL_law_2293 (by decide) ?_
  refine lv_iadd hx hb dL_law_2294 ?_
  refine va_sld hx hb hX hbl (Nat.not_le.mpr hbl) hS h1 dL_law_2295 ?_
  refine lv_aload_n hx hb dL_law_2296 rfl (lv_at hl 4 rfl) ?_
  have hw := hs j r w sums ns sw np pw nf fw spw q t n rr ww hj hR (xs (i + 1).toNatClampNeg)
  refine lc_ro (rest := []) X hN mw_277 hT hS hI (k_L_lost l D tc s.heap.size sa H ob (xs (i + 1).toNatClampNeg) hI.1.1 (c_X8_lost (l := l) (D := D) (tc := tc) (h0 := s.heap.size) (sa := sa) (H0 := H) (x1 := (xs (i + 1).toNatClampNeg)) (hBr := hI.1.1) (hBps := hI.1.2.2.2.1) (hlf := hlf) (hw := hw)) (fun _ => rfl) hI.2.2.1.1 (fun h => h) (fun x h => h.elim False.elim (fun e => e ▸ hI.2.2.1.2.2.1)) (fun _ h => h.1)) dL_law_2297 hl.1 rfl rfl ⟨Nat.le_of_ble_eq_true rfl, Nat.le_of_ble_eq_true rfl⟩ (Nat.le_of_ble_eq_true rfl) ⟨bud0 hf.1 rfl, bud0 hf.2 rfl⟩ (fun H locs O f k1 hS hI ho => ?_)
  refine W.eq (g2 := F0 m 2300 ls [.int k1]) rfl ?_
  obtain ⟨a9, hw, hfa⟩ : ∃ a9 : Int32, MM_lost Rel j r w sums ns sw np pw nf fw spw q t n rr ww (xs (i + 1).toNatClampNeg) k1 a9 ∧ (k1 = 0 → f 0 = a9.toInt64) := by
    rcases ho with ⟨u, hp, e1, e2⟩ | ⟨k, hp, e1⟩
    · subst e1; exact ⟨u, hp, fun _ => e2⟩
    · subst e1; exact ⟨0, hp.2, fun h => absurd h (by have ek := hp.1; subst ek; decide)⟩
  refine lv_istore (lv' := [(6, .int k1), (5, .int i), (0, .ref b), (1, .ref (ar 0)), (2, .ref q), (3, .ref ob), (4, .ref od)]) hx hb dL_law_2300 hl (by decide) rfl (fun ls hl => ?_)
  refine lv_aload_n hx hb dL_law_2302 rfl (lv_at hl 4 rfl) ?_
  refine lv_aload_n hx hb dL_law_2303 rfl (lv_at hl 2 rfl) ?_
  refine lv_iload hx hb dL_law_2304 (lv_at hl 1 rfl) ?_
  refine lv_iconst (v := 1) hx hb dL_law_2306 (by decide) ?_
  refine lv_iadd hx hb dL_law_2307 ?_
  refine va_sld hx hb hX hbl (Nat.not_le.mpr hbl) hS h1 dL_law_2308 ?_
  unfold MM_lost at hw
  refine lm_w (rest := []) X m_L_279 hT hS hI (c_X13_lost l D tc s.heap.size sa q (xs (i + 1).toNatClampNeg) H hI.2.1.1 hI.2.1.2 (fun _ h => h.2.1) hw) ((hI.2.1.1.one hI.2.1.2 rfl).recv X 0 rfl (q := (RX13, TX13, 5)) rfl) dL_law_2309 hl.1 rfl rfl ⟨Nat.le_of_ble_eq_true rfl, Nat.le_of_ble_eq_true rfl⟩ (Nat.le_of_ble_eq_true rfl) ⟨bud1 hf.1 rfl, bud1 hf.2 rfl⟩ (fun u H locs O hp hS hI => ?_)
  obtain ⟨b9, w9⟩ := u
  dsimp only at hp hI
  refine W.eq (g2 := F0 m 2312 ls [.int b9]) rfl ?_
  refine lv_istore (lv' := [(7, .int b9), (6, .int k1), (5, .int i), (0, .ref b), (1, .ref (ar 0)), (2, .ref q), (3, .ref ob), (4, .ref od)]) hx hb dL_law_2312 hl (by decide) rfl (fun ls hl => ?_)
  refine lv_aload_n hx hb dL_law_2314 rfl (lv_at hl 5 rfl) ?_
  refine lm_r (rest := []) X m_L_169 hT hS hI (c_X13_thrown l D tc s.heap.size sa q H hI.2.1.1 hI.2.1.2 (post := fun v => v = w9 q 0) rfl) ((hI.2.1.1.one hI.2.1.2 rfl).recv X 0 rfl (q := (RX13, TX13, 5)) rfl) dL_law_2315 hl.1 rfl rfl ⟨Nat.le_of_ble_eq_true rfl, Nat.le_of_ble_eq_true rfl⟩ (Nat.le_of_ble_eq_true rfl) ⟨bud2 hf.1 rfl, bud2 hf.2 rfl⟩ (fun u locs hu hS => ?_)
  refine W.eq (g2 := F0 m 2318 ls [.int k1]) (by rw [show u = k1 from (show u = w9 q 0 from hu).trans hp.1]; rfl) ?_
  have hR := hp.2.2
  refine lv_iload hx hb dL_law_2318 (lv_at hl 1 rfl) ?_
  refine lv_icmp_eq (tgt := 2325) hx hb dL_law_2320 (by decide) (fun _ => ?_) (fun hc0 => absurd rfl hc0)
  refine lv_iload hx hb dL_law_2325 (lv_at hl 1 rfl) ?_
  refine lv_if_ne (tgt := 2342) hx hb dL_law_2327 (by decide) (fun hc => ?_) (fun hc => ?_)
  · refine lv_goto (tgt := 2989) hx hb dL_law_2342 (by decide) ?_
    refine W.widen (k := cells + 1520) (n := slots + 13000) (wid3 rfl) (wid3 rfl) ?_
    exact kk H locs ls hS ⟨_, _, _, _, _, _, _, _, _, _, _, _, _, _, _, _, _, _, _, _, _, hI, hR⟩ (lv_sub hl [2, 3, 4, 5, 6, 7] rfl)
  · have eab : a9 = b9 := hp.2.1 hc
    subst eab
    have hfa := hfa hc
    refine lv_aload_n hx hb dL_law_2330 rfl (lv_at hl 6 rfl) ?_
    refine lv_iconst (v := 0) hx hb dL_law_2331 (by decide) ?_
    refine x_lald X dL_law_2332 hI.2.2.1.1 in01 ?_
    refine lv_iload hx hb dL_law_2333 (lv_at hl 0 rfl) ?_
    refine lv_i2l (v := a9.toInt64) hx hb dL_law_2335 rfl ?_
    refine W.lcmp hx hb dL_law_2336 ?_
    refine lv_if_eq (tgt := 2342) hx hb dL_law_2337 (by decide) (fun _ => ?_) (fun hc0 => absurd (lgc_eq hfa) hc0)
    refine lv_goto (tgt := 2989) hx hb dL_law_2342 (by decide) ?_
    refine W.widen (k := cells + 1520) (n := slots + 13000) (wid3 rfl) (wid3 rfl) ?_
    exact kk H locs ls hS ⟨_, _, _, _, _, _, _, _, _, _, _, _, _, _, _, _, _, _, _, _, _, hI, hR⟩ (lv_sub hl [2, 3, 4, 5, 6, 7] rfl)
set_option maxHeartbeats 4000000 in
theorem tc_frame {p : Program} {l : Launch} {e : Env} {s : State} {m : MethodId} {args : Array Value} {below : List Frame} {meth : Method} {c : Code} {H : Heap} {locs : List Loc} {cells slots : Nat} {Q : State → Prop} {D : va_G} {tc : Nat → ClassId} {ls : Array Slot} {sa : Nat → Nat} {b L j : Nat} {xs : Nat → Int32} {i : Int32} {O : Nat → Nat} {q ob od : Nat} {f : Nat → Int64} {g : Nat → UInt64} {ad ar : Nat → Nat} {sp : Option Nat} {sd pd fd : Nat → Nat → Nat} {sums : Nat → Int64} {r w : Dt} {ns : Nat} {sw : Nat → Dt} {np : Nat} {pw : Nat → Dt} {nf : Nat} {fw : Nat → Dt} {spw : Dt} {t n : Nat → Nat} {rr : Nat → Nat → Nat} {ww : Dt} (Rel : RLT) (X : Cx p c s m meth cL_law 10 RL D tc) (hN : NC s) (hT : ST s.heap.size sa s s.heap) (hlf : l.stackTraces = false) (hX : va_X b L xs s s.heap) (hbl : b < s.heap.size) (hS : va_S (old s.heap.size) s.heap H locs) (hI : (LI D tc s.heap.size (sa 3) O q ob od f g ad ar sp sd pd fd sums r w ns sw np pw nf fw spw t n rr ww H)) (hR : Rel j r w sums ns sw np pw nf fw spw q t n rr ww) (hj : j < 512) (h1 : vp_in (i + 1) L) (h2 : vp_in (i + 2) L) (h3 : vp_in (i + 3) L) (h4 : vp_in (i + 4) L) (hl : lv_has ls 10 [(5, .int i), (0, .ref b), (1, .ref (ar 0)), (2, .ref q), (3, .ref ob), (4, .ref od)]) (hf : cells + 1520 ≤ room_1.cells ∧ slots + 13000 ≤ room_1.slots) (hs : SIM_frame Rel) (kk : ∀ (H1 : Heap) (locs1 : List Loc) (ls1 : Array Slot), va_S (old s.heap.size) s.heap H1 locs1 → LH Rel D tc s.heap.size (sa 3) q ob od ad ar (j + 1) H1 → lv_has ls1 10 [(5, .int i), (0, .ref b), (1, .ref (ar 0)), (2, .ref q), (3, .ref ob), (4, .ref od)] → W p l e room_1 s m args below meth c H1 locs1 (cells + 1520) (slots + 13000) Q (F0 m 2989 ls1 [])) : W p l e room_1 s m args below meth c H locs cells slots Q (F0 m 2345 ls []) := by
  have hx := X.1
  have hb := X.2.1
  unfold SIM_frame at hs
  refine lv_aload_n hx hb dL_law_2345 rfl (lv_at hl 2 rfl) ?_
  refine lv_aload_n hx hb dL_law_2346 rfl (lv_at hl 1 rfl) ?_
  refine lv_iload hx hb dL_law_2347 (lv_at hl 0 rfl) ?_
  refine lv_iconst (v := 1) hx hb dL_law_2349 (by decide) ?_
  refine lv_iadd hx hb dL_law_2350 ?_
  refine va_sld hx hb hX hbl (Nat.not_le.mpr hbl) hS h1 dL_law_2351 ?_
  refine lv_aload_n hx hb dL_law_2352 rfl (lv_at hl 4 rfl) ?_
  have hw := hs j r w sums ns sw np pw nf fw spw q t n rr ww hj hR (xs (i + 1).toNatClampNeg)
  refine lc_fr (rest := []) X hN mw_280 hT hS hI (k_L_frame l D tc s.heap.size sa H ob (xs (i + 1).toNatClampNeg) hI.1.1 (c_X8_frame (l := l) (D := D) (tc := tc) (h0 := s.heap.size) (sa := sa) (H0 := H) (x1 := (xs (i + 1).toNatClampNeg)) (hBw := hI.1.2.1) (hBr := hI.1.1) (hA0 := (fun x h => h.elim (fun h => h.2.1) (fun h => Nat.le_trans hI.2.2.2.2 h))) (hlf := hlf) (hw := hw)) (fun _ => rfl) hI.2.2.1.1 (fun h => h.elim (fun h => Rg.ne h hI.2.2.1.2 (by omega)) (fun h => by have := hI.2.2.1.2.2.2; omega)) (fun x h => h.elim (fun e => e.elim (fun e => e.2.1) (fun e => Nat.le_trans hI.2.2.2.2 e)) (fun e => e ▸ hI.2.2.1.2.2.1)) (fun _ h => h.1)) dL_law_2353 hl.1 rfl rfl ⟨Nat.le_of_ble_eq_true rfl, Nat.le_of_ble_eq_true rfl⟩ (Nat.le_of_ble_eq_true rfl) ⟨bud0 hf.1 rfl, bud0 hf.2 rfl⟩ (fun H locs O f k1 r1 nf1 fd1 fw1 hS hI ho => ?_)
  refine W.eq (g2 := F0 m 2356 ls [.int k1]) rfl ?_
  obtain ⟨a9, hw, hfa⟩ : ∃ a9 : Int32, MM_frame Rel j r1 w sums ns sw np pw nf1 fw1 spw q t n rr ww (xs (i + 1).toNatClampNeg) k1 a9 ∧ (k1 = 0 → f 0 = a9.toInt64) := by
    rcases ho with ⟨u, hp, e1, e2, e3, e4, e5⟩ | ⟨k, hp, e1, e3, e4, e5⟩
    · subst e1; subst e3; subst e4; subst e5; exact ⟨(r 0 8), hp, fun _ => e2⟩
    · subst e1; subst e3; subst e4; subst e5; exact ⟨0, hp.2, fun h => absurd h (by rcases hp.1 with rfl | rfl <;> decide)⟩
  refine lv_istore (lv' := [(6, .int k1), (5, .int i), (0, .ref b), (1, .ref (ar 0)), (2, .ref q), (3, .ref ob), (4, .ref od)]) hx hb dL_law_2356 hl (by decide) rfl (fun ls hl => ?_)
  refine lv_aload_n hx hb dL_law_2358 rfl (lv_at hl 4 rfl) ?_
  refine lv_aload_n hx hb dL_law_2359 rfl (lv_at hl 2 rfl) ?_
  refine lv_iload hx hb dL_law_2360 (lv_at hl 1 rfl) ?_
  refine lv_iconst (v := 1) hx hb dL_law_2362 (by decide) ?_
  refine lv_iadd hx hb dL_law_2363 ?_
  refine va_sld hx hb hX hbl (Nat.not_le.mpr hbl) hS h1 dL_law_2364 ?_
  unfold MM_frame at hw
  refine lm_g (rest := []) X m_L_282 hT hS hI (c_X13_frame l D tc s.heap.size sa q (xs (i + 1).toNatClampNeg) 1400 12000 H (hI.2.1.1.mono (fun x _ h => Or.inl h)) hI.2.1.2 (fun x h => h.elim (fun h => h.2.1) (fun h => Nat.le_trans hI.2.2.2.2 h)) (fun x h => Or.inr h) hw) ((hI.2.1.1.one hI.2.1.2 rfl).recv X 0 rfl (q := (RX13, TX13, 5)) rfl) dL_law_2365 hl.1 rfl rfl ⟨Nat.le_of_ble_eq_true rfl, Nat.le_of_ble_eq_true rfl⟩ (Nat.le_of_ble_eq_true rfl) ⟨bud1 hf.1 rfl, bud1 hf.2 rfl⟩ (fun u H locs O hp hS hI => ?_)
  obtain ⟨b9, t9, n9, r9, w9⟩ := u
  dsimp only at hp hI
  refine W.eq (g2 := F0 m 2368 ls [.int b9]) rfl ?_
  refine lv_istore (lv' := [(7, .int b9), (6, .int k1), (5, .int i), (0, .ref b), (1, .ref (ar 0)), (2, .ref q), (3, .ref ob), (4, .ref od)]) hx hb dL_law_2368 hl (by decide) rfl (fun ls hl => ?_)
  refine lv_aload_n hx hb dL_law_2370 rfl (lv_at hl 5 rfl) ?_
  refine lm_r (rest := []) X m_L_169 hT hS hI (c_X13_thrown l D tc s.heap.size sa q H hI.2.1.1 hI.2.1.2 (post := fun v => v = w9 q 0) rfl) ((hI.2.1.1.one hI.2.1.2 rfl).recv X 0 rfl (q := (RX13, TX13, 5)) rfl) dL_law_2371 hl.1 rfl rfl ⟨Nat.le_of_ble_eq_true rfl, Nat.le_of_ble_eq_true rfl⟩ (Nat.le_of_ble_eq_true rfl) ⟨bud2 hf.1 rfl, bud2 hf.2 rfl⟩ (fun u locs hu hS => ?_)
  refine W.eq (g2 := F0 m 2374 ls [.int k1]) (by rw [show u = k1 from (show u = w9 q 0 from hu).trans hp.1]; rfl) ?_
  have hR := hp.2.2
  refine lv_iload hx hb dL_law_2374 (lv_at hl 1 rfl) ?_
  refine lv_icmp_eq (tgt := 2381) hx hb dL_law_2376 (by decide) (fun _ => ?_) (fun hc0 => absurd rfl hc0)
  refine lv_iload hx hb dL_law_2381 (lv_at hl 1 rfl) ?_
  refine lv_if_ne (tgt := 2398) hx hb dL_law_2383 (by decide) (fun hc => ?_) (fun hc => ?_)
  · refine lv_goto (tgt := 2989) hx hb dL_law_2398 (by decide) ?_
    refine W.widen (k := cells + 1520) (n := slots + 13000) (wid3 rfl) (wid3 rfl) ?_
    exact kk H locs ls hS ⟨_, _, _, _, _, _, _, _, _, _, _, _, _, _, _, _, _, _, _, _, _, hI, hR⟩ (lv_sub hl [2, 3, 4, 5, 6, 7] rfl)
  · have eab : a9 = b9 := hp.2.1 hc
    subst eab
    have hfa := hfa hc
    refine lv_aload_n hx hb dL_law_2386 rfl (lv_at hl 6 rfl) ?_
    refine lv_iconst (v := 0) hx hb dL_law_2387 (by decide) ?_
    refine x_lald X dL_law_2388 hI.2.2.1.1 in01 ?_
    refine lv_iload hx hb dL_law_2389 (lv_at hl 0 rfl) ?_
    refine lv_i2l (v := a9.toInt64) hx hb dL_law_2391 rfl ?_
    refine W.lcmp hx hb dL_law_2392 ?_
    refine lv_if_eq (tgt := 2398) hx hb dL_law_2393 (by decide) (fun _ => ?_) (fun hc0 => absurd (lgc_eq hfa) hc0)
    refine lv_goto (tgt := 2989) hx hb dL_law_2398 (by decide) ?_
    refine W.widen (k := cells + 1520) (n := slots + 13000) (wid3 rfl) (wid3 rfl) ?_
    exact kk H locs ls hS ⟨_, _, _, _, _, _, _, _, _, _, _, _, _, _, _, _, _, _, _, _, _, hI, hR⟩ (lv_sub hl [2, 3, 4, 5, 6, 7] rfl)
set_option maxHeartbeats 4000000 in
theorem tc_countSeen {p : Program} {l : Launch} {e : Env} {s : State} {m : MethodId} {args : Array Value} {below : List Frame} {meth : Method} {c : Code} {H : Heap} {locs : List Loc} {cells slots : Nat} {Q : State → Prop} {D : va_G} {tc : Nat → ClassId} {ls : Array Slot} {sa : Nat → Nat} {b L j : Nat} {xs : Nat → Int32} {i : Int32} {O : Nat → Nat} {q ob od : Nat} {f : Nat → Int64} {g : Nat → UInt64} {ad ar : Nat → Nat} {sp : Option Nat} {sd pd fd : Nat → Nat → Nat} {sums : Nat → Int64} {r w : Dt} {ns : Nat} {sw : Nat → Dt} {np : Nat} {pw : Nat → Dt} {nf : Nat} {fw : Nat → Dt} {spw : Dt} {t n : Nat → Nat} {rr : Nat → Nat → Nat} {ww : Dt} (Rel : RLT) (X : Cx p c s m meth cL_law 10 RL D tc) (hN : NC s) (hT : ST s.heap.size sa s s.heap) (hlf : l.stackTraces = false) (hX : va_X b L xs s s.heap) (hbl : b < s.heap.size) (hS : va_S (old s.heap.size) s.heap H locs) (hI : (LI D tc s.heap.size (sa 3) O q ob od f g ad ar sp sd pd fd sums r w ns sw np pw nf fw spw t n rr ww H)) (hR : Rel j r w sums ns sw np pw nf fw spw q t n rr ww) (hj : j < 512) (h1 : vp_in (i + 1) L) (h2 : vp_in (i + 2) L) (h3 : vp_in (i + 3) L) (h4 : vp_in (i + 4) L) (hl : lv_has ls 10 [(5, .int i), (0, .ref b), (1, .ref (ar 0)), (2, .ref q), (3, .ref ob), (4, .ref od)]) (hf : cells + 1520 ≤ room_1.cells ∧ slots + 13000 ≤ room_1.slots) (hs : SIM_countSeen Rel) (kk : ∀ (H1 : Heap) (locs1 : List Loc) (ls1 : Array Slot), va_S (old s.heap.size) s.heap H1 locs1 → LH Rel D tc s.heap.size (sa 3) q ob od ad ar (j + 1) H1 → lv_has ls1 10 [(5, .int i), (0, .ref b), (1, .ref (ar 0)), (2, .ref q), (3, .ref ob), (4, .ref od)] → W p l e room_1 s m args below meth c H1 locs1 (cells + 1520) (slots + 13000) Q (F0 m 2989 ls1 [])) : W p l e room_1 s m args below meth c H locs cells slots Q (F0 m 2401 ls []) := by
  have hx := X.1
  have hb := X.2.1
  unfold SIM_countSeen at hs
  refine lv_aload_n hx hb dL_law_2401 rfl (lv_at hl 2 rfl) ?_
  refine lv_aload_n hx hb dL_law_2402 rfl (lv_at hl 1 rfl) ?_
  refine lv_iload hx hb dL_law_2403 (lv_at hl 0 rfl) ?_
  refine lv_iconst (v := 1) hx hb dL_law_2405 (by decide) ?_
  refine lv_iadd hx hb dL_law_2406 ?_
  refine va_sld hx hb hX hbl (Nat.not_le.mpr hbl) hS h1 dL_law_2407 ?_
  refine lv_aload_n hx hb dL_law_2408 rfl (lv_at hl 4 rfl) ?_
  have hw := hs j r w sums ns sw np pw nf fw spw q t n rr ww hj hR (xs (i + 1).toNatClampNeg)
  refine lc_ro (rest := []) X hN mw_283 hT hS hI (k_L_countSeen l D tc s.heap.size sa H ob (xs (i + 1).toNatClampNeg) hI.1.1 (c_X8_countSeen (l := l) (D := D) (tc := tc) (h0 := s.heap.size) (sa := sa) (H0 := H) (x1 := (xs (i + 1).toNatClampNeg)) (hBr := hI.1.1) (hBfs := hI.1.2.2.2.2.1) (hlf := hlf) (hw := hw)) (fun _ => rfl) hI.2.2.1.1 (fun h => h) (fun x h => h.elim False.elim (fun e => e ▸ hI.2.2.1.2.2.1)) (fun _ h => h.1)) dL_law_2409 hl.1 rfl rfl ⟨Nat.le_of_ble_eq_true rfl, Nat.le_of_ble_eq_true rfl⟩ (Nat.le_of_ble_eq_true rfl) ⟨bud0 hf.1 rfl, bud0 hf.2 rfl⟩ (fun H locs O f k1 hS hI ho => ?_)
  refine W.eq (g2 := F0 m 2412 ls [.int k1]) rfl ?_
  obtain ⟨a9, hw, hfa⟩ : ∃ a9 : Int32, MM_countSeen Rel j r w sums ns sw np pw nf fw spw q t n rr ww (xs (i + 1).toNatClampNeg) k1 a9 ∧ (k1 = 0 → f 0 = a9.toInt64) := by
    rcases ho with ⟨u, hp, e1, e2⟩ | ⟨k, hp, e1⟩
    · subst e1; exact ⟨u, hp, fun _ => e2⟩
    · subst e1; exact ⟨0, hp.2, fun h => absurd h (by have ek := hp.1; subst ek; decide)⟩
  refine lv_istore (lv' := [(6, .int k1), (5, .int i), (0, .ref b), (1, .ref (ar 0)), (2, .ref q), (3, .ref ob), (4, .ref od)]) hx hb dL_law_2412 hl (by decide) rfl (fun ls hl => ?_)
  refine lv_aload_n hx hb dL_law_2414 rfl (lv_at hl 4 rfl) ?_
  refine lv_aload_n hx hb dL_law_2415 rfl (lv_at hl 2 rfl) ?_
  refine lv_iload hx hb dL_law_2416 (lv_at hl 1 rfl) ?_
  refine lv_iconst (v := 1) hx hb dL_law_2418 (by decide) ?_
  refine lv_iadd hx hb dL_law_2419 ?_
  refine va_sld hx hb hX hbl (Nat.not_le.mpr hbl) hS h1 dL_law_2420 ?_
  unfold MM_countSeen at hw
  refine lm_w (rest := []) X m_L_285 hT hS hI (c_X13_countSeen l D tc s.heap.size sa q (xs (i + 1).toNatClampNeg) H hI.2.1.1 hI.2.1.2 (fun _ h => h.2.1) hw) ((hI.2.1.1.one hI.2.1.2 rfl).recv X 0 rfl (q := (RX13, TX13, 5)) rfl) dL_law_2421 hl.1 rfl rfl ⟨Nat.le_of_ble_eq_true rfl, Nat.le_of_ble_eq_true rfl⟩ (Nat.le_of_ble_eq_true rfl) ⟨bud1 hf.1 rfl, bud1 hf.2 rfl⟩ (fun u H locs O hp hS hI => ?_)
  obtain ⟨b9, w9⟩ := u
  dsimp only at hp hI
  refine W.eq (g2 := F0 m 2424 ls [.int b9]) rfl ?_
  refine lv_istore (lv' := [(7, .int b9), (6, .int k1), (5, .int i), (0, .ref b), (1, .ref (ar 0)), (2, .ref q), (3, .ref ob), (4, .ref od)]) hx hb dL_law_2424 hl (by decide) rfl (fun ls hl => ?_)
  refine lv_aload_n hx hb dL_law_2426 rfl (lv_at hl 5 rfl) ?_
  refine lm_r (rest := []) X m_L_169 hT hS hI (c_X13_thrown l D tc s.heap.size sa q H hI.2.1.1 hI.2.1.2 (post := fun v => v = w9 q 0) rfl) ((hI.2.1.1.one hI.2.1.2 rfl).recv X 0 rfl (q := (RX13, TX13, 5)) rfl) dL_law_2427 hl.1 rfl rfl ⟨Nat.le_of_ble_eq_true rfl, Nat.le_of_ble_eq_true rfl⟩ (Nat.le_of_ble_eq_true rfl) ⟨bud2 hf.1 rfl, bud2 hf.2 rfl⟩ (fun u locs hu hS => ?_)
  refine W.eq (g2 := F0 m 2430 ls [.int k1]) (by rw [show u = k1 from (show u = w9 q 0 from hu).trans hp.1]; rfl) ?_
  have hR := hp.2.2
  refine lv_iload hx hb dL_law_2430 (lv_at hl 1 rfl) ?_
  refine lv_icmp_eq (tgt := 2437) hx hb dL_law_2432 (by decide) (fun _ => ?_) (fun hc0 => absurd rfl hc0)
  refine lv_iload hx hb dL_law_2437 (lv_at hl 1 rfl) ?_
  refine lv_if_ne (tgt := 2454) hx hb dL_law_2439 (by decide) (fun hc => ?_) (fun hc => ?_)
  · refine lv_goto (tgt := 2989) hx hb dL_law_2454 (by decide) ?_
    refine W.widen (k := cells + 1520) (n := slots + 13000) (wid3 rfl) (wid3 rfl) ?_
    exact kk H locs ls hS ⟨_, _, _, _, _, _, _, _, _, _, _, _, _, _, _, _, _, _, _, _, _, hI, hR⟩ (lv_sub hl [2, 3, 4, 5, 6, 7] rfl)
  · have eab : a9 = b9 := hp.2.1 hc
    subst eab
    have hfa := hfa hc
    refine lv_aload_n hx hb dL_law_2442 rfl (lv_at hl 6 rfl) ?_
    refine lv_iconst (v := 0) hx hb dL_law_2443 (by decide) ?_
    refine x_lald X dL_law_2444 hI.2.2.1.1 in01 ?_
    refine lv_iload hx hb dL_law_2445 (lv_at hl 0 rfl) ?_
    refine lv_i2l (v := a9.toInt64) hx hb dL_law_2447 rfl ?_
    refine W.lcmp hx hb dL_law_2448 ?_
    refine lv_if_eq (tgt := 2454) hx hb dL_law_2449 (by decide) (fun _ => ?_) (fun hc0 => absurd (lgc_eq hfa) hc0)
    refine lv_goto (tgt := 2989) hx hb dL_law_2454 (by decide) ?_
    refine W.widen (k := cells + 1520) (n := slots + 13000) (wid3 rfl) (wid3 rfl) ?_
    exact kk H locs ls hS ⟨_, _, _, _, _, _, _, _, _, _, _, _, _, _, _, _, _, _, _, _, _, hI, hR⟩ (lv_sub hl [2, 3, 4, 5, 6, 7] rfl)
set_option maxHeartbeats 4000000 in
theorem tc_placeIn {p : Program} {l : Launch} {e : Env} {s : State} {m : MethodId} {args : Array Value} {below : List Frame} {meth : Method} {c : Code} {H : Heap} {locs : List Loc} {cells slots : Nat} {Q : State → Prop} {D : va_G} {tc : Nat → ClassId} {ls : Array Slot} {sa : Nat → Nat} {b L j : Nat} {xs : Nat → Int32} {i : Int32} {O : Nat → Nat} {q ob od : Nat} {f : Nat → Int64} {g : Nat → UInt64} {ad ar : Nat → Nat} {sp : Option Nat} {sd pd fd : Nat → Nat → Nat} {sums : Nat → Int64} {r w : Dt} {ns : Nat} {sw : Nat → Dt} {np : Nat} {pw : Nat → Dt} {nf : Nat} {fw : Nat → Dt} {spw : Dt} {t n : Nat → Nat} {rr : Nat → Nat → Nat} {ww : Dt} (Rel : RLT) (X : Cx p c s m meth cL_law 10 RL D tc) (hN : NC s) (hT : ST s.heap.size sa s s.heap) (hlf : l.stackTraces = false) (hX : va_X b L xs s s.heap) (hbl : b < s.heap.size) (hS : va_S (old s.heap.size) s.heap H locs) (hI : (LI D tc s.heap.size (sa 3) O q ob od f g ad ar sp sd pd fd sums r w ns sw np pw nf fw spw t n rr ww H)) (hR : Rel j r w sums ns sw np pw nf fw spw q t n rr ww) (hj : j < 512) (h1 : vp_in (i + 1) L) (h2 : vp_in (i + 2) L) (h3 : vp_in (i + 3) L) (h4 : vp_in (i + 4) L) (hl : lv_has ls 10 [(5, .int i), (0, .ref b), (1, .ref (ar 0)), (2, .ref q), (3, .ref ob), (4, .ref od)]) (hf : cells + 1520 ≤ room_1.cells ∧ slots + 13000 ≤ room_1.slots) (hs : SIM_placeIn Rel) (kk : ∀ (H1 : Heap) (locs1 : List Loc) (ls1 : Array Slot), va_S (old s.heap.size) s.heap H1 locs1 → LH Rel D tc s.heap.size (sa 3) q ob od ad ar (j + 1) H1 → lv_has ls1 10 [(5, .int i), (0, .ref b), (1, .ref (ar 0)), (2, .ref q), (3, .ref ob), (4, .ref od)] → W p l e room_1 s m args below meth c H1 locs1 (cells + 1520) (slots + 13000) Q (F0 m 2989 ls1 [])) : W p l e room_1 s m args below meth c H locs cells slots Q (F0 m 2457 ls []) := by
  have hx := X.1
  have hb := X.2.1
  unfold SIM_placeIn at hs
  refine lv_aload_n hx hb dL_law_2457 rfl (lv_at hl 2 rfl) ?_
  refine lv_aload_n hx hb dL_law_2458 rfl (lv_at hl 1 rfl) ?_
  refine lv_iload hx hb dL_law_2459 (lv_at hl 0 rfl) ?_
  refine lv_iconst (v := 1) hx hb dL_law_2461 (by decide) ?_
  refine lv_iadd hx hb dL_law_2462 ?_
  refine va_sld hx hb hX hbl (Nat.not_le.mpr hbl) hS h1 dL_law_2463 ?_
  refine lv_aload_n hx hb dL_law_2464 rfl (lv_at hl 1 rfl) ?_
  refine lv_iload hx hb dL_law_2465 (lv_at hl 0 rfl) ?_
  refine lv_iconst (v := 2) hx hb dL_law_2467 (by decide) ?_
  refine lv_iadd hx hb dL_law_2468 ?_
  refine va_sld hx hb hX hbl (Nat.not_le.mpr hbl) hS h2 dL_law_2469 ?_
  refine lv_i2c (v := (chr9 (xs (i + 2).toNatClampNeg))) hx hb dL_law_2470 rfl ?_
  refine lv_aload_n hx hb dL_law_2471 rfl (lv_at hl 4 rfl) ?_
  have hw := hs j r w sums ns sw np pw nf fw spw q t n rr ww hj hR (xs (i + 1).toNatClampNeg) (chr9 (xs (i + 2).toNatClampNeg))
  refine lc_ro (rest := []) X hN mw_286 hT hS hI (k_L_placeIn l D tc s.heap.size sa H ob (xs (i + 1).toNatClampNeg) (chr9 (xs (i + 2).toNatClampNeg)) hI.1.1 (c_X8_placeIn (l := l) (D := D) (tc := tc) (h0 := s.heap.size) (sa := sa) (H0 := H) (x1 := (xs (i + 1).toNatClampNeg)) (x2 := (chr9 (xs (i + 2).toNatClampNeg))) (hBr := hI.1.1) (hBfs := hI.1.2.2.2.2.1) (hlf := hlf) (hw := hw)) (fun _ => rfl) hI.2.2.1.1 (fun h => h) (fun x h => h.elim False.elim (fun e => e ▸ hI.2.2.1.2.2.1)) (fun _ h => h.1)) dL_law_2472 hl.1 rfl rfl ⟨Nat.le_of_ble_eq_true rfl, Nat.le_of_ble_eq_true rfl⟩ (Nat.le_of_ble_eq_true rfl) ⟨bud0 hf.1 rfl, bud0 hf.2 rfl⟩ (fun H locs O f k1 hS hI ho => ?_)
  refine W.eq (g2 := F0 m 2475 ls [.int k1]) rfl ?_
  obtain ⟨a9, hw, hfa⟩ : ∃ a9 : Int32, MM_placeIn Rel j r w sums ns sw np pw nf fw spw q t n rr ww (xs (i + 1).toNatClampNeg) (chr9 (xs (i + 2).toNatClampNeg)) k1 a9 ∧ (k1 = 0 → f 0 = a9.toInt64) := by
    rcases ho with ⟨u, hp, e1, e2⟩ | ⟨k, hp, e1⟩
    · subst e1; exact ⟨u, hp, fun _ => e2⟩
    · subst e1; exact ⟨0, hp.2, fun h => absurd h (by rcases hp.1 with rfl | rfl | rfl <;> decide)⟩
  refine lv_istore (lv' := [(6, .int k1), (5, .int i), (0, .ref b), (1, .ref (ar 0)), (2, .ref q), (3, .ref ob), (4, .ref od)]) hx hb dL_law_2475 hl (by decide) rfl (fun ls hl => ?_)
  refine lv_aload_n hx hb dL_law_2477 rfl (lv_at hl 4 rfl) ?_
  refine lv_aload_n hx hb dL_law_2478 rfl (lv_at hl 2 rfl) ?_
  refine lv_iload hx hb dL_law_2479 (lv_at hl 1 rfl) ?_
  refine lv_iconst (v := 1) hx hb dL_law_2481 (by decide) ?_
  refine lv_iadd hx hb dL_law_2482 ?_
  refine va_sld hx hb hX hbl (Nat.not_le.mpr hbl) hS h1 dL_law_2483 ?_
  refine lv_aload_n hx hb dL_law_2484 rfl (lv_at hl 2 rfl) ?_
  refine lv_iload hx hb dL_law_2485 (lv_at hl 1 rfl) ?_
  refine lv_iconst (v := 2) hx hb dL_law_2487 (by decide) ?_
  refine lv_iadd hx hb dL_law_2488 ?_
  refine va_sld hx hb hX hbl (Nat.not_le.mpr hbl) hS h2 dL_law_2489 ?_
  refine lv_i2c (v := (chr9 (xs (i + 2).toNatClampNeg))) hx hb dL_law_2490 rfl ?_
  unfold MM_placeIn at hw
  refine lm_g (rest := []) X m_L_288 hT hS hI (c_X13_placeIn l D tc s.heap.size sa q (xs (i + 1).toNatClampNeg) (chr9 (xs (i + 2).toNatClampNeg)) 1400 12000 H (hI.2.1.1.mono (fun x _ h => Or.inl h)) hI.2.1.2 (fun x h => h.elim (fun h => h.2.1) (fun h => Nat.le_trans hI.2.2.2.2 h)) (fun x h => Or.inr h) hw) ((hI.2.1.1.one hI.2.1.2 rfl).recv X 0 rfl (q := (RX13, TX13, 5)) rfl) dL_law_2491 hl.1 rfl rfl ⟨Nat.le_of_ble_eq_true rfl, Nat.le_of_ble_eq_true rfl⟩ (Nat.le_of_ble_eq_true rfl) ⟨bud1 hf.1 rfl, bud1 hf.2 rfl⟩ (fun u H locs O hp hS hI => ?_)
  obtain ⟨b9, t9, n9, r9, w9⟩ := u
  dsimp only at hp hI
  refine W.eq (g2 := F0 m 2494 ls [.int b9]) rfl ?_
  refine lv_istore (lv' := [(7, .int b9), (6, .int k1), (5, .int i), (0, .ref b), (1, .ref (ar 0)), (2, .ref q), (3, .ref ob), (4, .ref od)]) hx hb dL_law_2494 hl (by decide) rfl (fun ls hl => ?_)
  refine lv_aload_n hx hb dL_law_2496 rfl (lv_at hl 5 rfl) ?_
  refine lm_r (rest := []) X m_L_169 hT hS hI (c_X13_thrown l D tc s.heap.size sa q H hI.2.1.1 hI.2.1.2 (post := fun v => v = w9 q 0) rfl) ((hI.2.1.1.one hI.2.1.2 rfl).recv X 0 rfl (q := (RX13, TX13, 5)) rfl) dL_law_2497 hl.1 rfl rfl ⟨Nat.le_of_ble_eq_true rfl, Nat.le_of_ble_eq_true rfl⟩ (Nat.le_of_ble_eq_true rfl) ⟨bud2 hf.1 rfl, bud2 hf.2 rfl⟩ (fun u locs hu hS => ?_)
  refine W.eq (g2 := F0 m 2500 ls [.int k1]) (by rw [show u = k1 from (show u = w9 q 0 from hu).trans hp.1]; rfl) ?_
  have hR := hp.2.2
  refine lv_iload hx hb dL_law_2500 (lv_at hl 1 rfl) ?_
  refine lv_icmp_eq (tgt := 2507) hx hb dL_law_2502 (by decide) (fun _ => ?_) (fun hc0 => absurd rfl hc0)
  refine lv_iload hx hb dL_law_2507 (lv_at hl 1 rfl) ?_
  refine lv_if_ne (tgt := 2524) hx hb dL_law_2509 (by decide) (fun hc => ?_) (fun hc => ?_)
  · refine lv_goto (tgt := 2989) hx hb dL_law_2524 (by decide) ?_
    refine W.widen (k := cells + 1520) (n := slots + 13000) (wid3 rfl) (wid3 rfl) ?_
    exact kk H locs ls hS ⟨_, _, _, _, _, _, _, _, _, _, _, _, _, _, _, _, _, _, _, _, _, hI, hR⟩ (lv_sub hl [2, 3, 4, 5, 6, 7] rfl)
  · have eab : a9 = b9 := hp.2.1 hc
    subst eab
    have hfa := hfa hc
    refine lv_aload_n hx hb dL_law_2512 rfl (lv_at hl 6 rfl) ?_
    refine lv_iconst (v := 0) hx hb dL_law_2513 (by decide) ?_
    refine x_lald X dL_law_2514 hI.2.2.1.1 in01 ?_
    refine lv_iload hx hb dL_law_2515 (lv_at hl 0 rfl) ?_
    refine lv_i2l (v := a9.toInt64) hx hb dL_law_2517 rfl ?_
    refine W.lcmp hx hb dL_law_2518 ?_
    refine lv_if_eq (tgt := 2524) hx hb dL_law_2519 (by decide) (fun _ => ?_) (fun hc0 => absurd (lgc_eq hfa) hc0)
    refine lv_goto (tgt := 2989) hx hb dL_law_2524 (by decide) ?_
    refine W.widen (k := cells + 1520) (n := slots + 13000) (wid3 rfl) (wid3 rfl) ?_
    exact kk H locs ls hS ⟨_, _, _, _, _, _, _, _, _, _, _, _, _, _, _, _, _, _, _, _, _, hI, hR⟩ (lv_sub hl [2, 3, 4, 5, 6, 7] rfl)
set_option maxHeartbeats 4000000 in
theorem tc_drift {p : Program} {l : Launch} {e : Env} {s : State} {m : MethodId} {args : Array Value} {below : List Frame} {meth : Method} {c : Code} {H : Heap} {locs : List Loc} {cells slots : Nat} {Q : State → Prop} {D : va_G} {tc : Nat → ClassId} {ls : Array Slot} {sa : Nat → Nat} {b L j : Nat} {xs : Nat → Int32} {i : Int32} {O : Nat → Nat} {q ob od : Nat} {f : Nat → Int64} {g : Nat → UInt64} {ad ar : Nat → Nat} {sp : Option Nat} {sd pd fd : Nat → Nat → Nat} {sums : Nat → Int64} {r w : Dt} {ns : Nat} {sw : Nat → Dt} {np : Nat} {pw : Nat → Dt} {nf : Nat} {fw : Nat → Dt} {spw : Dt} {t n : Nat → Nat} {rr : Nat → Nat → Nat} {ww : Dt} (Rel : RLT) (X : Cx p c s m meth cL_law 10 RL D tc) (hN : NC s) (hT : ST s.heap.size sa s s.heap) (hlf : l.stackTraces = false) (hX : va_X b L xs s s.heap) (hbl : b < s.heap.size) (hS : va_S (old s.heap.size) s.heap H locs) (hI : (LI D tc s.heap.size (sa 3) O q ob od f g ad ar sp sd pd fd sums r w ns sw np pw nf fw spw t n rr ww H)) (hR : Rel j r w sums ns sw np pw nf fw spw q t n rr ww) (hj : j < 512) (h1 : vp_in (i + 1) L) (h2 : vp_in (i + 2) L) (h3 : vp_in (i + 3) L) (h4 : vp_in (i + 4) L) (hl : lv_has ls 10 [(5, .int i), (0, .ref b), (1, .ref (ar 0)), (2, .ref q), (3, .ref ob), (4, .ref od)]) (hf : cells + 1520 ≤ room_1.cells ∧ slots + 13000 ≤ room_1.slots) (hs : SIM_drift Rel) (kk : ∀ (H1 : Heap) (locs1 : List Loc) (ls1 : Array Slot), va_S (old s.heap.size) s.heap H1 locs1 → LH Rel D tc s.heap.size (sa 3) q ob od ad ar (j + 1) H1 → lv_has ls1 10 [(5, .int i), (0, .ref b), (1, .ref (ar 0)), (2, .ref q), (3, .ref ob), (4, .ref od)] → W p l e room_1 s m args below meth c H1 locs1 (cells + 1520) (slots + 13000) Q (F0 m 2989 ls1 [])) : W p l e room_1 s m args below meth c H locs cells slots Q (F0 m 2527 ls []) := by
  have hx := X.1
  have hb := X.2.1
  unfold SIM_drift at hs
  refine lv_aload_n hx hb dL_law_2527 rfl (lv_at hl 2 rfl) ?_
  refine lv_aload_n hx hb dL_law_2528 rfl (lv_at hl 1 rfl) ?_
  refine lv_iload hx hb dL_law_2529 (lv_at hl 0 rfl) ?_
  refine lv_iconst (v := 1) hx hb dL_law_2531 (by decide) ?_
  refine lv_iadd hx hb dL_law_2532 ?_
  refine va_sld hx hb hX hbl (Nat.not_le.mpr hbl) hS h1 dL_law_2533 ?_
  refine lv_i2c (v := (chr9 (xs (i + 1).toNatClampNeg))) hx hb dL_law_2534 rfl ?_
  refine lv_aload_n hx hb dL_law_2535 rfl (lv_at hl 1 rfl) ?_
  refine lv_iload hx hb dL_law_2536 (lv_at hl 0 rfl) ?_
  refine lv_iconst (v := 2) hx hb dL_law_2538 (by decide) ?_
  refine lv_iadd hx hb dL_law_2539 ?_
  refine va_sld hx hb hX hbl (Nat.not_le.mpr hbl) hS h2 dL_law_2540 ?_
  refine lv_aload_n hx hb dL_law_2541 rfl (lv_at hl 1 rfl) ?_
  refine lv_iload hx hb dL_law_2542 (lv_at hl 0 rfl) ?_
  refine lv_iconst (v := 3) hx hb dL_law_2544 (by decide) ?_
  refine lv_iadd hx hb dL_law_2545 ?_
  refine va_sld hx hb hX hbl (Nat.not_le.mpr hbl) hS h3 dL_law_2546 ?_
  refine lv_aload hx hb dL_law_2547 (lv_at hl 5 rfl) ?_
  have hw := hs j r w sums ns sw np pw nf fw spw q t n rr ww hj hR (chr9 (xs (i + 1).toNatClampNeg)) (xs (i + 2).toNatClampNeg) (xs (i + 3).toNatClampNeg)
  refine lc_rod (rest := []) X hN mw_289 hT hS hI (k_L_drift l D tc s.heap.size sa H od (chr9 (xs (i + 1).toNatClampNeg)) (xs (i + 2).toNatClampNeg) (xs (i + 3).toNatClampNeg) hI.1.1 (c_X8_drift (l := l) (D := D) (tc := tc) (h0 := s.heap.size) (sa := sa) (H0 := H) (x1 := (chr9 (xs (i + 1).toNatClampNeg))) (x2 := (xs (i + 2).toNatClampNeg)) (x3 := (xs (i + 3).toNatClampNeg)) (hBr := hI.1.1) (hBfs := hI.1.2.2.2.2.1) (hlf := hlf) (hw := hw)) (fun _ => rfl) (fun _ h => h.1) hI.2.2.2.1.1 (fun h => h) (fun x h => h.elim False.elim (fun e => e ▸ hI.2.2.2.1.2.2.1)) (fun _ h => h.1)) dL_law_2549 hl.1 rfl rfl ⟨Nat.le_of_ble_eq_true rfl, Nat.le_of_ble_eq_true rfl⟩ (Nat.le_of_ble_eq_true rfl) ⟨bud0 hf.1 rfl, bud0 hf.2 rfl⟩ (fun H locs O g k1 hS hI ho => ?_)
  refine W.eq (g2 := F0 m 2552 ls [.int k1]) rfl ?_
  obtain ⟨a9, hw, hfa⟩ : ∃ a9 : UInt32, MM_drift Rel j r w sums ns sw np pw nf fw spw q t n rr ww (chr9 (xs (i + 1).toNatClampNeg)) (xs (i + 2).toNatClampNeg) (xs (i + 3).toNatClampNeg) k1 a9 ∧ (k1 = 0 → g 0 = FP.f2d a9 ∧ vf_n64 (FP.f2d a9)) := by
    rcases ho with ⟨u, hp, e1, e2⟩ | ⟨k, hp, e1⟩
    · subst e1; exact ⟨u, hp.2, fun _ => ⟨e2, hp.1⟩⟩
    · subst e1; exact ⟨0, hp.2, fun h => absurd h (by rcases hp.1 with rfl | rfl | rfl <;> decide)⟩
  refine lv_istore (lv' := [(6, .int k1), (5, .int i), (0, .ref b), (1, .ref (ar 0)), (2, .ref q), (3, .ref ob), (4, .ref od)]) hx hb dL_law_2552 hl (by decide) rfl (fun ls hl => ?_)
  refine lv_aload_n hx hb dL_law_2554 rfl (lv_at hl 4 rfl) ?_
  refine lv_aload_n hx hb dL_law_2555 rfl (lv_at hl 2 rfl) ?_
  refine lv_iload hx hb dL_law_2556 (lv_at hl 1 rfl) ?_
  refine lv_iconst (v := 1) hx hb dL_law_2558 (by decide) ?_
  refine lv_iadd hx hb dL_law_2559 ?_
  refine va_sld hx hb hX hbl (Nat.not_le.mpr hbl) hS h1 dL_law_2560 ?_
  refine lv_i2c (v := (chr9 (xs (i + 1).toNatClampNeg))) hx hb dL_law_2561 rfl ?_
  refine lv_aload_n hx hb dL_law_2562 rfl (lv_at hl 2 rfl) ?_
  refine lv_iload hx hb dL_law_2563 (lv_at hl 1 rfl) ?_
  refine lv_iconst (v := 2) hx hb dL_law_2565 (by decide) ?_
  refine lv_iadd hx hb dL_law_2566 ?_
  refine va_sld hx hb hX hbl (Nat.not_le.mpr hbl) hS h2 dL_law_2567 ?_
  refine lv_aload_n hx hb dL_law_2568 rfl (lv_at hl 2 rfl) ?_
  refine lv_iload hx hb dL_law_2569 (lv_at hl 1 rfl) ?_
  refine lv_iconst (v := 3) hx hb dL_law_2571 (by decide) ?_
  refine lv_iadd hx hb dL_law_2572 ?_
  refine va_sld hx hb hX hbl (Nat.not_le.mpr hbl) hS h3 dL_law_2573 ?_
  unfold MM_drift at hw
  refine lm_g (rest := []) X m_L_292 hT hS hI (c_X13_drift l D tc s.heap.size sa q (chr9 (xs (i + 1).toNatClampNeg)) (xs (i + 2).toNatClampNeg) (xs (i + 3).toNatClampNeg) 1400 12000 H (hI.2.1.1.mono (fun x _ h => Or.inl h)) hI.2.1.2 (fun x h => h.elim (fun h => h.2.1) (fun h => Nat.le_trans hI.2.2.2.2 h)) (fun x h => Or.inr h) hw) ((hI.2.1.1.one hI.2.1.2 rfl).recv X 0 rfl (q := (RX13, TX13, 5)) rfl) dL_law_2574 hl.1 rfl rfl ⟨Nat.le_of_ble_eq_true rfl, Nat.le_of_ble_eq_true rfl⟩ (Nat.le_of_ble_eq_true rfl) ⟨bud1 hf.1 rfl, bud1 hf.2 rfl⟩ (fun u H locs O hp hS hI => ?_)
  obtain ⟨b9, t9, n9, r9, w9⟩ := u
  dsimp only at hp hI
  refine W.eq (g2 := F0 m 2577 ls [.float b9]) rfl ?_
  refine lv_fstore (lv' := [(7, .float b9), (6, .int k1), (5, .int i), (0, .ref b), (1, .ref (ar 0)), (2, .ref q), (3, .ref ob), (4, .ref od)]) hx hb dL_law_2577 hl (by decide) rfl (fun ls hl => ?_)
  refine lv_aload_n hx hb dL_law_2579 rfl (lv_at hl 5 rfl) ?_
  refine lm_r (rest := []) X m_L_169 hT hS hI (c_X13_thrown l D tc s.heap.size sa q H hI.2.1.1 hI.2.1.2 (post := fun v => v = w9 q 0) rfl) ((hI.2.1.1.one hI.2.1.2 rfl).recv X 0 rfl (q := (RX13, TX13, 5)) rfl) dL_law_2580 hl.1 rfl rfl ⟨Nat.le_of_ble_eq_true rfl, Nat.le_of_ble_eq_true rfl⟩ (Nat.le_of_ble_eq_true rfl) ⟨bud2 hf.1 rfl, bud2 hf.2 rfl⟩ (fun u locs hu hS => ?_)
  refine W.eq (g2 := F0 m 2583 ls [.int k1]) (by rw [show u = k1 from (show u = w9 q 0 from hu).trans hp.1]; rfl) ?_
  have hR := hp.2.2
  refine lv_iload hx hb dL_law_2583 (lv_at hl 1 rfl) ?_
  refine lv_icmp_eq (tgt := 2590) hx hb dL_law_2585 (by decide) (fun _ => ?_) (fun hc0 => absurd rfl hc0)
  refine lv_iload hx hb dL_law_2590 (lv_at hl 1 rfl) ?_
  refine lv_if_ne (tgt := 2628) hx hb dL_law_2592 (by decide) (fun hc => ?_) (fun hc => ?_)
  · refine lv_goto (tgt := 2989) hx hb dL_law_2628 (by decide) ?_
    refine W.widen (k := cells + 1520) (n := slots + 13000) (wid3 rfl) (wid3 rfl) ?_
    exact kk H locs ls hS ⟨_, _, _, _, _, _, _, _, _, _, _, _, _, _, _, _, _, _, _, _, _, hI, hR⟩ (lv_sub hl [2, 3, 4, 5, 6, 7] rfl)
  · have eab : a9 = b9 := hp.2.1 hc
    subst eab
    have hfa := hfa hc
    refine lv_aload hx hb dL_law_2595 (lv_at hl 7 rfl) ?_
    refine lv_iconst (v := 0) hx hb dL_law_2597 (by decide) ?_
    refine x_dald X dL_law_2598 hI.2.2.2.1.1 in01 ?_
    refine lv_fload hx hb dL_law_2599 (lv_at hl 0 rfl) ?_
    refine lv_f2d hx hb dL_law_2601 hfa.2 ?_
    refine lv_dcmp hx hb dL_law_2602 ?_
    refine lv_if_eq (tgt := 2628) hx hb dL_law_2603 (by decide) (fun _ => ?_) (fun hc0 => absurd (dc_eq2 hfa.1 hfa.2) hc0)
    refine lv_goto (tgt := 2989) hx hb dL_law_2628 (by decide) ?_
    refine W.widen (k := cells + 1520) (n := slots + 13000) (wid3 rfl) (wid3 rfl) ?_
    exact kk H locs ls hS ⟨_, _, _, _, _, _, _, _, _, _, _, _, _, _, _, _, _, _, _, _, _, hI, hR⟩ (lv_sub hl [2, 3, 4, 5, 6, 7] rfl)
set_option maxHeartbeats 4000000 in
theorem tc_save {p : Program} {l : Launch} {e : Env} {s : State} {m : MethodId} {args : Array Value} {below : List Frame} {meth : Method} {c : Code} {H : Heap} {locs : List Loc} {cells slots : Nat} {Q : State → Prop} {D : va_G} {tc : Nat → ClassId} {ls : Array Slot} {sa : Nat → Nat} {b L j : Nat} {xs : Nat → Int32} {i : Int32} {O : Nat → Nat} {q ob od : Nat} {f : Nat → Int64} {g : Nat → UInt64} {ad ar : Nat → Nat} {sp : Option Nat} {sd pd fd : Nat → Nat → Nat} {sums : Nat → Int64} {r w : Dt} {ns : Nat} {sw : Nat → Dt} {np : Nat} {pw : Nat → Dt} {nf : Nat} {fw : Nat → Dt} {spw : Dt} {t n : Nat → Nat} {rr : Nat → Nat → Nat} {ww : Dt} (Rel : RLT) (X : Cx p c s m meth cL_law 10 RL D tc) (hN : NC s) (hT : ST s.heap.size sa s s.heap) (hlf : l.stackTraces = false) (hX : va_X b L xs s s.heap) (hbl : b < s.heap.size) (hS : va_S (old s.heap.size) s.heap H locs) (hI : (LI D tc s.heap.size (sa 3) O q ob od f g ad ar sp sd pd fd sums r w ns sw np pw nf fw spw t n rr ww H)) (hR : Rel j r w sums ns sw np pw nf fw spw q t n rr ww) (hj : j < 512) (h1 : vp_in (i + 1) L) (h2 : vp_in (i + 2) L) (h3 : vp_in (i + 3) L) (h4 : vp_in (i + 4) L) (hl : lv_has ls 10 [(5, .int i), (0, .ref b), (1, .ref (ar 0)), (2, .ref q), (3, .ref ob), (4, .ref od)]) (hf : cells + 1520 ≤ room_1.cells ∧ slots + 13000 ≤ room_1.slots) (hs : SIM_save Rel) (kk : ∀ (H1 : Heap) (locs1 : List Loc) (ls1 : Array Slot), va_S (old s.heap.size) s.heap H1 locs1 → LH Rel D tc s.heap.size (sa 3) q ob od ad ar (j + 1) H1 → lv_has ls1 10 [(5, .int i), (0, .ref b), (1, .ref (ar 0)), (2, .ref q), (3, .ref ob), (4, .ref od)] → W p l e room_1 s m args below meth c H1 locs1 (cells + 1520) (slots + 13000) Q (F0 m 2989 ls1 [])) : W p l e room_1 s m args below meth c H locs cells slots Q (F0 m 2631 ls []) := by
  have hx := X.1
  have hb := X.2.1
  unfold SIM_save at hs
  refine lv_aload_n hx hb dL_law_2631 rfl (lv_at hl 2 rfl) ?_
  refine lv_aload_n hx hb dL_law_2632 rfl (lv_at hl 4 rfl) ?_
  have hw := hs j r w sums ns sw np pw nf fw spw q t n rr ww hj hR
  refine lc_sv (rest := []) X hN mw_293 hT hS hI (k_L_save l D tc s.heap.size sa H ob  hI.1.1 (c_X8_save (l := l) (D := D) (tc := tc) (h0 := s.heap.size) (sa := sa) (H0 := H) (hBw := hI.1.2.1) (hBr := hI.1.1) (hA0 := (fun x h => h.elim (fun h => h.2.1) (fun h => Nat.le_trans hI.2.2.2.2 h))) (hlf := hlf) (hDr := (fun _ h g => Rg.ne h g (by omega))) (hw := hw)) (fun _ => rfl) hI.2.2.1.1 (fun h => h.elim (fun h => Rg.ne h hI.2.2.1.2 (by omega)) (fun h => by have := hI.2.2.1.2.2.2; omega)) (fun x h => h.elim (fun e => e.elim (fun e => e.2.1) (fun e => Nat.le_trans hI.2.2.2.2 e)) (fun e => e ▸ hI.2.2.1.2.2.1)) (fun _ h => h.1)) dL_law_2633 hl.1 rfl rfl ⟨Nat.le_of_ble_eq_true rfl, Nat.le_of_ble_eq_true rfl⟩ (Nat.le_of_ble_eq_true rfl) ⟨bud0 hf.1 rfl, bud0 hf.2 rfl⟩ (fun H locs O f k1 r1 ns1 sd1 sw1 sums1 hS hI ho => ?_)
  refine W.eq (g2 := F0 m 2636 ls [.int k1]) rfl ?_
  obtain ⟨a9, hw, hfa⟩ : ∃ a9 : Int32, MM_save Rel j r1 w sums1 ns1 sw1 np pw nf fw spw q t n rr ww  k1 a9 ∧ (k1 = 0 → f 0 = a9.toInt64) := by
    rcases ho with ⟨u, hp, e1, e2, e3, e4, e5, e6⟩ | ⟨k, hp, e1, e3, e4, e5, e6⟩
    · subst e1; subst e3; subst e4; subst e5; subst e6; exact ⟨(r 0 3), hp, fun _ => e2⟩
    · subst e1; subst e3; subst e4; subst e5; subst e6; exact ⟨0, hp.2, fun h => absurd h (by have ek := hp.1; subst ek; decide)⟩
  refine lv_istore (lv' := [(6, .int k1), (5, .int i), (0, .ref b), (1, .ref (ar 0)), (2, .ref q), (3, .ref ob), (4, .ref od)]) hx hb dL_law_2636 hl (by decide) rfl (fun ls hl => ?_)
  refine lv_aload_n hx hb dL_law_2638 rfl (lv_at hl 4 rfl) ?_
  unfold MM_save at hw
  refine lm_g (rest := []) X m_L_296 hT hS hI (c_X13_save l D tc s.heap.size sa q  1400 12000 H (hI.2.1.1.mono (fun x _ h => Or.inl h)) hI.2.1.2 (fun x h => h.elim (fun h => h.2.1) (fun h => Nat.le_trans hI.2.2.2.2 h)) (fun x h => Or.inr h) hw) ((hI.2.1.1.one hI.2.1.2 rfl).recv X 0 rfl (q := (RX13, TX13, 5)) rfl) dL_law_2639 hl.1 rfl rfl ⟨Nat.le_of_ble_eq_true rfl, Nat.le_of_ble_eq_true rfl⟩ (Nat.le_of_ble_eq_true rfl) ⟨bud1 hf.1 rfl, bud1 hf.2 rfl⟩ (fun u H locs O hp hS hI => ?_)
  obtain ⟨b9, t9, n9, r9, w9⟩ := u
  dsimp only at hp hI
  refine W.eq (g2 := F0 m 2642 ls [.int b9]) rfl ?_
  refine lv_istore (lv' := [(7, .int b9), (6, .int k1), (5, .int i), (0, .ref b), (1, .ref (ar 0)), (2, .ref q), (3, .ref ob), (4, .ref od)]) hx hb dL_law_2642 hl (by decide) rfl (fun ls hl => ?_)
  refine lv_aload_n hx hb dL_law_2644 rfl (lv_at hl 5 rfl) ?_
  refine lm_r (rest := []) X m_L_169 hT hS hI (c_X13_thrown l D tc s.heap.size sa q H hI.2.1.1 hI.2.1.2 (post := fun v => v = w9 q 0) rfl) ((hI.2.1.1.one hI.2.1.2 rfl).recv X 0 rfl (q := (RX13, TX13, 5)) rfl) dL_law_2645 hl.1 rfl rfl ⟨Nat.le_of_ble_eq_true rfl, Nat.le_of_ble_eq_true rfl⟩ (Nat.le_of_ble_eq_true rfl) ⟨bud2 hf.1 rfl, bud2 hf.2 rfl⟩ (fun u locs hu hS => ?_)
  refine W.eq (g2 := F0 m 2648 ls [.int k1]) (by rw [show u = k1 from (show u = w9 q 0 from hu).trans hp.1]; rfl) ?_
  have hR := hp.2.2
  refine lv_iload hx hb dL_law_2648 (lv_at hl 1 rfl) ?_
  refine lv_icmp_eq (tgt := 2655) hx hb dL_law_2650 (by decide) (fun _ => ?_) (fun hc0 => absurd rfl hc0)
  refine lv_iload hx hb dL_law_2655 (lv_at hl 1 rfl) ?_
  refine lv_if_ne (tgt := 2672) hx hb dL_law_2657 (by decide) (fun hc => ?_) (fun hc => ?_)
  · refine lv_goto (tgt := 2989) hx hb dL_law_2672 (by decide) ?_
    refine W.widen (k := cells + 1520) (n := slots + 13000) (wid3 rfl) (wid3 rfl) ?_
    exact kk H locs ls hS ⟨_, _, _, _, _, _, _, _, _, _, _, _, _, _, _, _, _, _, _, _, _, hI, hR⟩ (lv_sub hl [2, 3, 4, 5, 6, 7] rfl)
  · have eab : a9 = b9 := hp.2.1 hc
    subst eab
    have hfa := hfa hc
    refine lv_aload_n hx hb dL_law_2660 rfl (lv_at hl 6 rfl) ?_
    refine lv_iconst (v := 0) hx hb dL_law_2661 (by decide) ?_
    refine x_lald X dL_law_2662 hI.2.2.1.1 in01 ?_
    refine lv_iload hx hb dL_law_2663 (lv_at hl 0 rfl) ?_
    refine lv_i2l (v := a9.toInt64) hx hb dL_law_2665 rfl ?_
    refine W.lcmp hx hb dL_law_2666 ?_
    refine lv_if_eq (tgt := 2672) hx hb dL_law_2667 (by decide) (fun _ => ?_) (fun hc0 => absurd (lgc_eq hfa) hc0)
    refine lv_goto (tgt := 2989) hx hb dL_law_2672 (by decide) ?_
    refine W.widen (k := cells + 1520) (n := slots + 13000) (wid3 rfl) (wid3 rfl) ?_
    exact kk H locs ls hS ⟨_, _, _, _, _, _, _, _, _, _, _, _, _, _, _, _, _, _, _, _, _, hI, hR⟩ (lv_sub hl [2, 3, 4, 5, 6, 7] rfl)
set_option maxHeartbeats 4000000 in
theorem tc_load {p : Program} {l : Launch} {e : Env} {s : State} {m : MethodId} {args : Array Value} {below : List Frame} {meth : Method} {c : Code} {H : Heap} {locs : List Loc} {cells slots : Nat} {Q : State → Prop} {D : va_G} {tc : Nat → ClassId} {ls : Array Slot} {sa : Nat → Nat} {b L j : Nat} {xs : Nat → Int32} {i : Int32} {O : Nat → Nat} {q ob od : Nat} {f : Nat → Int64} {g : Nat → UInt64} {ad ar : Nat → Nat} {sp : Option Nat} {sd pd fd : Nat → Nat → Nat} {sums : Nat → Int64} {r w : Dt} {ns : Nat} {sw : Nat → Dt} {np : Nat} {pw : Nat → Dt} {nf : Nat} {fw : Nat → Dt} {spw : Dt} {t n : Nat → Nat} {rr : Nat → Nat → Nat} {ww : Dt} (Rel : RLT) (X : Cx p c s m meth cL_law 10 RL D tc) (hN : NC s) (hT : ST s.heap.size sa s s.heap) (hlf : l.stackTraces = false) (hX : va_X b L xs s s.heap) (hbl : b < s.heap.size) (hS : va_S (old s.heap.size) s.heap H locs) (hI : (LI D tc s.heap.size (sa 3) O q ob od f g ad ar sp sd pd fd sums r w ns sw np pw nf fw spw t n rr ww H)) (hR : Rel j r w sums ns sw np pw nf fw spw q t n rr ww) (hj : j < 512) (h1 : vp_in (i + 1) L) (h2 : vp_in (i + 2) L) (h3 : vp_in (i + 3) L) (h4 : vp_in (i + 4) L) (hl : lv_has ls 10 [(5, .int i), (0, .ref b), (1, .ref (ar 0)), (2, .ref q), (3, .ref ob), (4, .ref od)]) (hf : cells + 1520 ≤ room_1.cells ∧ slots + 13000 ≤ room_1.slots) (hs : SIM_load Rel) (kk : ∀ (H1 : Heap) (locs1 : List Loc) (ls1 : Array Slot), va_S (old s.heap.size) s.heap H1 locs1 → LH Rel D tc s.heap.size (sa 3) q ob od ad ar (j + 1) H1 → lv_has ls1 10 [(5, .int i), (0, .ref b), (1, .ref (ar 0)), (2, .ref q), (3, .ref ob), (4, .ref od)] → W p l e room_1 s m args below meth c H1 locs1 (cells + 1520) (slots + 13000) Q (F0 m 2989 ls1 [])) : W p l e room_1 s m args below meth c H locs cells slots Q (F0 m 2675 ls []) := by
  have hx := X.1
  have hb := X.2.1
  unfold SIM_load at hs
  refine lv_aload_n hx hb dL_law_2675 rfl (lv_at hl 2 rfl) ?_
  refine lv_aload_n hx hb dL_law_2676 rfl (lv_at hl 1 rfl) ?_
  refine lv_iload hx hb dL_law_2677 (lv_at hl 0 rfl) ?_
  refine lv_iconst (v := 1) hx hb dL_law_2679 (by decide) ?_
  refine lv_iadd hx hb dL_law_2680 ?_
  refine va_sld hx hb hX hbl (Nat.not_le.mpr hbl) hS h1 dL_law_2681 ?_
  refine lv_aload_n hx hb dL_law_2682 rfl (lv_at hl 4 rfl) ?_
  have hw := hs j r w sums ns sw np pw nf fw spw q t n rr ww hj hR (xs (i + 1).toNatClampNeg)
  refine lc_w (rest := []) X hN mw_297 hT hS hI (k_L_load l D tc s.heap.size sa H ob (xs (i + 1).toNatClampNeg) hI.1.1 (c_X8_load (l := l) (D := D) (tc := tc) (h0 := s.heap.size) (sa := sa) (H0 := H) (x1 := (xs (i + 1).toNatClampNeg)) (hBr := hI.1.1) (hBw := hI.1.2.1) (hBss := hI.1.2.2.1) (hDr := (fun _ h g => Rg.ne h g (by omega))) (hDss := (fun k _ _ h g => Rg.ne h g (by omega))) (hA0 := (fun _ h => h.2.1)) (hlf := hlf) (hw := hw)) (fun _ => rfl) hI.2.2.1.1 (fun h => Rg.ne h hI.2.2.1.2 (by omega)) (fun x h => h.elim (fun e => e.2.1) (fun e => e ▸ hI.2.2.1.2.2.1)) (fun _ h => h.1)) dL_law_2683 hl.1 rfl rfl ⟨Nat.le_of_ble_eq_true rfl, Nat.le_of_ble_eq_true rfl⟩ (Nat.le_of_ble_eq_true rfl) ⟨bud0 hf.1 rfl, bud0 hf.2 rfl⟩ (fun H locs O f k1 w1 hS hI ho => ?_)
  refine W.eq (g2 := F0 m 2686 ls [.int k1]) rfl ?_
  obtain ⟨a9, hw, hfa⟩ : ∃ a9 : Int64, MM_load Rel j r w1 sums ns sw np pw nf fw spw q t n rr ww (xs (i + 1).toNatClampNeg) k1 a9 ∧ (k1 = 0 → f 0 = a9) := by
    rcases ho with ⟨u, hp, e1, e2, e3⟩ | ⟨k, hp, e1, e3⟩
    · subst e1; subst e3; exact ⟨u.1, hp, fun _ => e2⟩
    · subst e1; subst e3; exact ⟨0, hp.2, fun h => absurd h (by have ek := hp.1; subst ek; decide)⟩
  refine lv_istore (lv' := [(6, .int k1), (5, .int i), (0, .ref b), (1, .ref (ar 0)), (2, .ref q), (3, .ref ob), (4, .ref od)]) hx hb dL_law_2686 hl (by decide) rfl (fun ls hl => ?_)
  refine lv_aload_n hx hb dL_law_2688 rfl (lv_at hl 4 rfl) ?_
  refine lv_aload_n hx hb dL_law_2689 rfl (lv_at hl 2 rfl) ?_
  refine lv_iload hx hb dL_law_2690 (lv_at hl 1 rfl) ?_
  refine lv_iconst (v := 1) hx hb dL_law_2692 (by decide) ?_
  refine lv_iadd hx hb dL_law_2693 ?_
  refine va_sld hx hb hX hbl (Nat.not_le.mpr hbl) hS h1 dL_law_2694 ?_
  unfold MM_load at hw
  refine lm_g (rest := []) X m_L_299 hT hS hI (c_X13_load l D tc s.heap.size sa q (xs (i + 1).toNatClampNeg) 1400 12000 H (hI.2.1.1.mono (fun x _ h => Or.inl h)) hI.2.1.2 (fun x h => h.elim (fun h => h.2.1) (fun h => Nat.le_trans hI.2.2.2.2 h)) (fun x h => Or.inr h) hw) ((hI.2.1.1.one hI.2.1.2 rfl).recv X 0 rfl (q := (RX13, TX13, 5)) rfl) dL_law_2695 hl.1 rfl rfl ⟨Nat.le_of_ble_eq_true rfl, Nat.le_of_ble_eq_true rfl⟩ (Nat.le_of_ble_eq_true rfl) ⟨bud1 hf.1 rfl, bud1 hf.2 rfl⟩ (fun u H locs O hp hS hI => ?_)
  obtain ⟨b9, t9, n9, r9, w9⟩ := u
  dsimp only at hp hI
  refine W.eq (g2 := F0 m 2698 ls [.long b9]) rfl ?_
  refine lv_lstore (lv' := [(7, .long b9), (6, .int k1), (5, .int i), (0, .ref b), (1, .ref (ar 0)), (2, .ref q), (3, .ref ob), (4, .ref od)]) hx hb dL_law_2698 hl (by decide) rfl (fun ls hl => ?_)
  refine lv_aload_n hx hb dL_law_2700 rfl (lv_at hl 5 rfl) ?_
  refine lm_r (rest := []) X m_L_169 hT hS hI (c_X13_thrown l D tc s.heap.size sa q H hI.2.1.1 hI.2.1.2 (post := fun v => v = w9 q 0) rfl) ((hI.2.1.1.one hI.2.1.2 rfl).recv X 0 rfl (q := (RX13, TX13, 5)) rfl) dL_law_2701 hl.1 rfl rfl ⟨Nat.le_of_ble_eq_true rfl, Nat.le_of_ble_eq_true rfl⟩ (Nat.le_of_ble_eq_true rfl) ⟨bud2 hf.1 rfl, bud2 hf.2 rfl⟩ (fun u locs hu hS => ?_)
  refine W.eq (g2 := F0 m 2704 ls [.int k1]) (by rw [show u = k1 from (show u = w9 q 0 from hu).trans hp.1]; rfl) ?_
  have hR := hp.2.2
  refine lv_iload hx hb dL_law_2704 (lv_at hl 1 rfl) ?_
  refine lv_icmp_eq (tgt := 2711) hx hb dL_law_2706 (by decide) (fun _ => ?_) (fun hc0 => absurd rfl hc0)
  refine lv_iload hx hb dL_law_2711 (lv_at hl 1 rfl) ?_
  refine lv_if_ne (tgt := 2727) hx hb dL_law_2713 (by decide) (fun hc => ?_) (fun hc => ?_)
  · refine lv_goto (tgt := 2989) hx hb dL_law_2727 (by decide) ?_
    refine W.widen (k := cells + 1520) (n := slots + 13000) (wid3 rfl) (wid3 rfl) ?_
    exact kk H locs ls hS ⟨_, _, _, _, _, _, _, _, _, _, _, _, _, _, _, _, _, _, _, _, _, hI, hR⟩ (lv_sub hl [2, 3, 4, 5, 6, 7] rfl)
  · have eab : a9 = b9 := hp.2.1 hc
    subst eab
    have hfa := hfa hc
    refine lv_aload_n hx hb dL_law_2716 rfl (lv_at hl 6 rfl) ?_
    refine lv_iconst (v := 0) hx hb dL_law_2717 (by decide) ?_
    refine x_lald X dL_law_2718 hI.2.2.1.1 in01 ?_
    refine lv_lload hx hb dL_law_2719 (lv_at hl 0 rfl) ?_
    refine W.lcmp hx hb dL_law_2721 ?_
    refine lv_if_eq (tgt := 2727) hx hb dL_law_2722 (by decide) (fun _ => ?_) (fun hc0 => absurd (lgc_eq hfa) hc0)
    refine lv_goto (tgt := 2989) hx hb dL_law_2727 (by decide) ?_
    refine W.widen (k := cells + 1520) (n := slots + 13000) (wid3 rfl) (wid3 rfl) ?_
    exact kk H locs ls hS ⟨_, _, _, _, _, _, _, _, _, _, _, _, _, _, _, _, _, _, _, _, _, hI, hR⟩ (lv_sub hl [2, 3, 4, 5, 6, 7] rfl)
set_option maxHeartbeats 4000000 in
theorem tc_happenings {p : Program} {l : Launch} {e : Env} {s : State} {m : MethodId} {args : Array Value} {below : List Frame} {meth : Method} {c : Code} {H : Heap} {locs : List Loc} {cells slots : Nat} {Q : State → Prop} {D : va_G} {tc : Nat → ClassId} {ls : Array Slot} {sa : Nat → Nat} {b L j : Nat} {xs : Nat → Int32} {i : Int32} {O : Nat → Nat} {q ob od : Nat} {f : Nat → Int64} {g : Nat → UInt64} {ad ar : Nat → Nat} {sp : Option Nat} {sd pd fd : Nat → Nat → Nat} {sums : Nat → Int64} {r w : Dt} {ns : Nat} {sw : Nat → Dt} {np : Nat} {pw : Nat → Dt} {nf : Nat} {fw : Nat → Dt} {spw : Dt} {t n : Nat → Nat} {rr : Nat → Nat → Nat} {ww : Dt} (Rel : RLT) (X : Cx p c s m meth cL_law 10 RL D tc) (hN : NC s) (hT : ST s.heap.size sa s s.heap) (hlf : l.stackTraces = false) (hX : va_X b L xs s s.heap) (hbl : b < s.heap.size) (hS : va_S (old s.heap.size) s.heap H locs) (hI : (LI D tc s.heap.size (sa 3) O q ob od f g ad ar sp sd pd fd sums r w ns sw np pw nf fw spw t n rr ww H)) (hR : Rel j r w sums ns sw np pw nf fw spw q t n rr ww) (hj : j < 512) (h1 : vp_in (i + 1) L) (h2 : vp_in (i + 2) L) (h3 : vp_in (i + 3) L) (h4 : vp_in (i + 4) L) (hl : lv_has ls 10 [(5, .int i), (0, .ref b), (1, .ref (ar 0)), (2, .ref q), (3, .ref ob), (4, .ref od)]) (hf : cells + 1520 ≤ room_1.cells ∧ slots + 13000 ≤ room_1.slots) (hs : SIM_happenings Rel) (kk : ∀ (H1 : Heap) (locs1 : List Loc) (ls1 : Array Slot), va_S (old s.heap.size) s.heap H1 locs1 → LH Rel D tc s.heap.size (sa 3) q ob od ad ar (j + 1) H1 → lv_has ls1 10 [(5, .int i), (0, .ref b), (1, .ref (ar 0)), (2, .ref q), (3, .ref ob), (4, .ref od)] → W p l e room_1 s m args below meth c H1 locs1 (cells + 1520) (slots + 13000) Q (F0 m 2989 ls1 [])) : W p l e room_1 s m args below meth c H locs cells slots Q (F0 m 2730 ls []) := by
  have hx := X.1
  have hb := X.2.1
  unfold SIM_happenings at hs
  refine lv_aload_n hx hb dL_law_2730 rfl (lv_at hl 2 rfl) ?_
  have hw := hs j r w sums ns sw np pw nf fw spw q t n rr ww hj hR
  refine lm_r (rest := []) X m_L_300 hT hS hI (c_X8_happenings (l := l) (D := D) (tc := tc) (h0 := s.heap.size) (sa := sa) (H0 := H) (hBr := hI.1.1) (hBw := hI.1.2.1) (hw := hw)) (hI.1.1.recv X 0 rfl (q := (RX8, TX8, 9)) rfl) dL_law_2731 hl.1 rfl rfl ⟨Nat.le_of_ble_eq_true rfl, Nat.le_of_ble_eq_true rfl⟩ (Nat.le_of_ble_eq_true rfl) ⟨bud0 hf.1 rfl, bud0 hf.2 rfl⟩ (fun a9 locs hp hS => ?_)
  have hw : MM_happenings Rel j r w sums ns sw np pw nf fw spw q t n rr ww a9 := hp
  refine W.eq (g2 := F0 m 2734 ls [.int a9]) rfl ?_
  refine lv_aload_n hx hb dL_law_2734 rfl (lv_at hl 3 rfl) ?_
  unfold MM_happenings at hw
  refine lm_w (rest := [.int a9]) X m_L_303 hT hS hI (c_X13_happenings l D tc s.heap.size sa q  H hI.2.1.1 hI.2.1.2 (fun _ h => h.2.1) hw) ((hI.2.1.1.one hI.2.1.2 rfl).recv X 0 rfl (q := (RX13, TX13, 5)) rfl) dL_law_2735 hl.1 rfl rfl ⟨Nat.le_of_ble_eq_true rfl, Nat.le_of_ble_eq_true rfl⟩ (Nat.le_of_ble_eq_true rfl) ⟨bud1 hf.1 rfl, bud1 hf.2 rfl⟩ (fun u H locs O hp hS hI => ?_)
  obtain ⟨b9, w9⟩ := u
  dsimp only at hp hI
  refine W.eq (g2 := F0 m 2738 ls [.int b9, .int a9]) rfl ?_
  have eab : a9 = b9 := hp.1
  have hR := hp.2
  subst eab
  refine lv_icmp_eq (tgt := 2989) hx hb dL_law_2738 (by decide) (fun _ => ?_) (fun hc0 => absurd rfl hc0)
  refine W.widen (k := cells + 1520) (n := slots + 13000) (wid2 rfl) (wid2 rfl) ?_
  exact kk H locs ls hS ⟨_, _, _, _, _, _, _, _, _, _, _, _, _, _, _, _, _, _, _, _, _, hI, hR⟩ (lv_sub hl [0, 1, 2, 3, 4, 5] rfl)
set_option maxHeartbeats 4000000 in
theorem tc_happening {p : Program} {l : Launch} {e : Env} {s : State} {m : MethodId} {args : Array Value} {below : List Frame} {meth : Method} {c : Code} {H : Heap} {locs : List Loc} {cells slots : Nat} {Q : State → Prop} {D : va_G} {tc : Nat → ClassId} {ls : Array Slot} {sa : Nat → Nat} {b L j : Nat} {xs : Nat → Int32} {i : Int32} {O : Nat → Nat} {q ob od : Nat} {f : Nat → Int64} {g : Nat → UInt64} {ad ar : Nat → Nat} {sp : Option Nat} {sd pd fd : Nat → Nat → Nat} {sums : Nat → Int64} {r w : Dt} {ns : Nat} {sw : Nat → Dt} {np : Nat} {pw : Nat → Dt} {nf : Nat} {fw : Nat → Dt} {spw : Dt} {t n : Nat → Nat} {rr : Nat → Nat → Nat} {ww : Dt} (Rel : RLT) (X : Cx p c s m meth cL_law 10 RL D tc) (hN : NC s) (hT : ST s.heap.size sa s s.heap) (hlf : l.stackTraces = false) (hX : va_X b L xs s s.heap) (hbl : b < s.heap.size) (hS : va_S (old s.heap.size) s.heap H locs) (hI : (LI D tc s.heap.size (sa 3) O q ob od f g ad ar sp sd pd fd sums r w ns sw np pw nf fw spw t n rr ww H)) (hR : Rel j r w sums ns sw np pw nf fw spw q t n rr ww) (hj : j < 512) (h1 : vp_in (i + 1) L) (h2 : vp_in (i + 2) L) (h3 : vp_in (i + 3) L) (h4 : vp_in (i + 4) L) (hl : lv_has ls 10 [(5, .int i), (0, .ref b), (1, .ref (ar 0)), (2, .ref q), (3, .ref ob), (4, .ref od)]) (hf : cells + 1520 ≤ room_1.cells ∧ slots + 13000 ≤ room_1.slots) (hs : SIM_happening Rel) (kk : ∀ (H1 : Heap) (locs1 : List Loc) (ls1 : Array Slot), va_S (old s.heap.size) s.heap H1 locs1 → LH Rel D tc s.heap.size (sa 3) q ob od ad ar (j + 1) H1 → lv_has ls1 10 [(5, .int i), (0, .ref b), (1, .ref (ar 0)), (2, .ref q), (3, .ref ob), (4, .ref od)] → W p l e room_1 s m args below meth c H1 locs1 (cells + 1520) (slots + 13000) Q (F0 m 2989 ls1 [])) : W p l e room_1 s m args below meth c H locs cells slots Q (F0 m 2743 ls []) := by
  have hx := X.1
  have hb := X.2.1
  unfold SIM_happening at hs
  refine lv_aload_n hx hb dL_law_2743 rfl (lv_at hl 2 rfl) ?_
  refine lv_aload_n hx hb dL_law_2744 rfl (lv_at hl 1 rfl) ?_
  refine lv_iload hx hb dL_law_2745 (lv_at hl 0 rfl) ?_
  refine lv_iconst (v := 1) hx hb dL_law_2747 (by decide) ?_
  refine lv_iadd hx hb dL_law_2748 ?_
  refine va_sld hx hb hX hbl (Nat.not_le.mpr hbl) hS h1 dL_law_2749 ?_
  refine lv_aload_n hx hb dL_law_2750 rfl (lv_at hl 4 rfl) ?_
  have hw := hs j r w sums ns sw np pw nf fw spw q t n rr ww hj hR (xs (i + 1).toNatClampNeg)
  refine lc_ro (rest := []) X hN mw_304 hT hS hI (k_L_happening l D tc s.heap.size sa H ob (xs (i + 1).toNatClampNeg) hI.1.1 (c_X8_happening (l := l) (D := D) (tc := tc) (h0 := s.heap.size) (sa := sa) (H0 := H) (x1 := (xs (i + 1).toNatClampNeg)) (hBr := hI.1.1) (hBw := hI.1.2.1) (hlf := hlf) (hw := hw)) (fun _ => rfl) hI.2.2.1.1 (fun h => h) (fun x h => h.elim False.elim (fun e => e ▸ hI.2.2.1.2.2.1)) (fun _ h => h.1)) dL_law_2751 hl.1 rfl rfl ⟨Nat.le_of_ble_eq_true rfl, Nat.le_of_ble_eq_true rfl⟩ (Nat.le_of_ble_eq_true rfl) ⟨bud0 hf.1 rfl, bud0 hf.2 rfl⟩ (fun H locs O f k1 hS hI ho => ?_)
  refine W.eq (g2 := F0 m 2754 ls [.int k1]) rfl ?_
  obtain ⟨a9, hw, hfa⟩ : ∃ a9 : Int32, MM_happening Rel j r w sums ns sw np pw nf fw spw q t n rr ww (xs (i + 1).toNatClampNeg) k1 a9 ∧ (k1 = 0 → f 0 = a9.toInt64) := by
    rcases ho with ⟨u, hp, e1, e2⟩ | ⟨k, hp, e1⟩
    · subst e1; exact ⟨u, hp, fun _ => e2⟩
    · subst e1; exact ⟨0, hp.2, fun h => absurd h (by have ek := hp.1; subst ek; decide)⟩
  refine lv_istore (lv' := [(6, .int k1), (5, .int i), (0, .ref b), (1, .ref (ar 0)), (2, .ref q), (3, .ref ob), (4, .ref od)]) hx hb dL_law_2754 hl (by decide) rfl (fun ls hl => ?_)
  refine lv_aload_n hx hb dL_law_2756 rfl (lv_at hl 4 rfl) ?_
  refine lv_aload_n hx hb dL_law_2757 rfl (lv_at hl 2 rfl) ?_
  refine lv_iload hx hb dL_law_2758 (lv_at hl 1 rfl) ?_
  refine lv_iconst (v := 1) hx hb dL_law_2760 (by decide) ?_
  refine lv_iadd hx hb dL_law_2761 ?_
  refine va_sld hx hb hX hbl (Nat.not_le.mpr hbl) hS h1 dL_law_2762 ?_
  unfold MM_happening at hw
  refine lm_w (rest := []) X m_L_306 hT hS hI (c_X13_happening l D tc s.heap.size sa q (xs (i + 1).toNatClampNeg) H hI.2.1.1 hI.2.1.2 (fun _ h => h.2.1) hw) ((hI.2.1.1.one hI.2.1.2 rfl).recv X 0 rfl (q := (RX13, TX13, 5)) rfl) dL_law_2763 hl.1 rfl rfl ⟨Nat.le_of_ble_eq_true rfl, Nat.le_of_ble_eq_true rfl⟩ (Nat.le_of_ble_eq_true rfl) ⟨bud1 hf.1 rfl, bud1 hf.2 rfl⟩ (fun u H locs O hp hS hI => ?_)
  obtain ⟨b9, w9⟩ := u
  dsimp only at hp hI
  refine W.eq (g2 := F0 m 2766 ls [.int b9]) rfl ?_
  refine lv_istore (lv' := [(7, .int b9), (6, .int k1), (5, .int i), (0, .ref b), (1, .ref (ar 0)), (2, .ref q), (3, .ref ob), (4, .ref od)]) hx hb dL_law_2766 hl (by decide) rfl (fun ls hl => ?_)
  refine lv_aload_n hx hb dL_law_2768 rfl (lv_at hl 5 rfl) ?_
  refine lm_r (rest := []) X m_L_169 hT hS hI (c_X13_thrown l D tc s.heap.size sa q H hI.2.1.1 hI.2.1.2 (post := fun v => v = w9 q 0) rfl) ((hI.2.1.1.one hI.2.1.2 rfl).recv X 0 rfl (q := (RX13, TX13, 5)) rfl) dL_law_2769 hl.1 rfl rfl ⟨Nat.le_of_ble_eq_true rfl, Nat.le_of_ble_eq_true rfl⟩ (Nat.le_of_ble_eq_true rfl) ⟨bud2 hf.1 rfl, bud2 hf.2 rfl⟩ (fun u locs hu hS => ?_)
  refine W.eq (g2 := F0 m 2772 ls [.int k1]) (by rw [show u = k1 from (show u = w9 q 0 from hu).trans hp.1]; rfl) ?_
  have hR := hp.2.2
  refine lv_iload hx hb dL_law_2772 (lv_at hl 1 rfl) ?_
  refine lv_icmp_eq (tgt := 2779) hx hb dL_law_2774 (by decide) (fun _ => ?_) (fun hc0 => absurd rfl hc0)
  refine lv_iload hx hb dL_law_2779 (lv_at hl 1 rfl) ?_
  refine lv_if_ne (tgt := 2796) hx hb dL_law_2781 (by decide) (fun hc => ?_) (fun hc => ?_)
  · refine lv_goto (tgt := 2989) hx hb dL_law_2796 (by decide) ?_
    refine W.widen (k := cells + 1520) (n := slots + 13000) (wid3 rfl) (wid3 rfl) ?_
    exact kk H locs ls hS ⟨_, _, _, _, _, _, _, _, _, _, _, _, _, _, _, _, _, _, _, _, _, hI, hR⟩ (lv_sub hl [2, 3, 4, 5, 6, 7] rfl)
  · have eab : a9 = b9 := hp.2.1 hc
    subst eab
    have hfa := hfa hc
    refine lv_aload_n hx hb dL_law_2784 rfl (lv_at hl 6 rfl) ?_
    refine lv_iconst (v := 0) hx hb dL_law_2785 (by decide) ?_
    refine x_lald X dL_law_2786 hI.2.2.1.1 in01 ?_
    refine lv_iload hx hb dL_law_2787 (lv_at hl 0 rfl) ?_
    refine lv_i2l (v := a9.toInt64) hx hb dL_law_2789 rfl ?_
    refine W.lcmp hx hb dL_law_2790 ?_
    refine lv_if_eq (tgt := 2796) hx hb dL_law_2791 (by decide) (fun _ => ?_) (fun hc0 => absurd (lgc_eq hfa) hc0)
    refine lv_goto (tgt := 2989) hx hb dL_law_2796 (by decide) ?_
    refine W.widen (k := cells + 1520) (n := slots + 13000) (wid3 rfl) (wid3 rfl) ?_
    exact kk H locs ls hS ⟨_, _, _, _, _, _, _, _, _, _, _, _, _, _, _, _, _, _, _, _, _, hI, hR⟩ (lv_sub hl [2, 3, 4, 5, 6, 7] rfl)
set_option maxHeartbeats 4000000 in
theorem tc_happenedTo {p : Program} {l : Launch} {e : Env} {s : State} {m : MethodId} {args : Array Value} {below : List Frame} {meth : Method} {c : Code} {H : Heap} {locs : List Loc} {cells slots : Nat} {Q : State → Prop} {D : va_G} {tc : Nat → ClassId} {ls : Array Slot} {sa : Nat → Nat} {b L j : Nat} {xs : Nat → Int32} {i : Int32} {O : Nat → Nat} {q ob od : Nat} {f : Nat → Int64} {g : Nat → UInt64} {ad ar : Nat → Nat} {sp : Option Nat} {sd pd fd : Nat → Nat → Nat} {sums : Nat → Int64} {r w : Dt} {ns : Nat} {sw : Nat → Dt} {np : Nat} {pw : Nat → Dt} {nf : Nat} {fw : Nat → Dt} {spw : Dt} {t n : Nat → Nat} {rr : Nat → Nat → Nat} {ww : Dt} (Rel : RLT) (X : Cx p c s m meth cL_law 10 RL D tc) (hN : NC s) (hT : ST s.heap.size sa s s.heap) (hlf : l.stackTraces = false) (hX : va_X b L xs s s.heap) (hbl : b < s.heap.size) (hS : va_S (old s.heap.size) s.heap H locs) (hI : (LI D tc s.heap.size (sa 3) O q ob od f g ad ar sp sd pd fd sums r w ns sw np pw nf fw spw t n rr ww H)) (hR : Rel j r w sums ns sw np pw nf fw spw q t n rr ww) (hj : j < 512) (h1 : vp_in (i + 1) L) (h2 : vp_in (i + 2) L) (h3 : vp_in (i + 3) L) (h4 : vp_in (i + 4) L) (hl : lv_has ls 10 [(5, .int i), (0, .ref b), (1, .ref (ar 0)), (2, .ref q), (3, .ref ob), (4, .ref od)]) (hf : cells + 1520 ≤ room_1.cells ∧ slots + 13000 ≤ room_1.slots) (hs : SIM_happenedTo Rel) (kk : ∀ (H1 : Heap) (locs1 : List Loc) (ls1 : Array Slot), va_S (old s.heap.size) s.heap H1 locs1 → LH Rel D tc s.heap.size (sa 3) q ob od ad ar (j + 1) H1 → lv_has ls1 10 [(5, .int i), (0, .ref b), (1, .ref (ar 0)), (2, .ref q), (3, .ref ob), (4, .ref od)] → W p l e room_1 s m args below meth c H1 locs1 (cells + 1520) (slots + 13000) Q (F0 m 2989 ls1 [])) : W p l e room_1 s m args below meth c H locs cells slots Q (F0 m 2799 ls []) := by
  have hx := X.1
  have hb := X.2.1
  unfold SIM_happenedTo at hs
  refine lv_aload_n hx hb dL_law_2799 rfl (lv_at hl 2 rfl) ?_
  refine lv_aload_n hx hb dL_law_2800 rfl (lv_at hl 1 rfl) ?_
  refine lv_iload hx hb dL_law_2801 (lv_at hl 0 rfl) ?_
  refine lv_iconst (v := 1) hx hb dL_law_2803 (by decide) ?_
  refine lv_iadd hx hb dL_law_2804 ?_
  refine va_sld hx hb hX hbl (Nat.not_le.mpr hbl) hS h1 dL_law_2805 ?_
  refine lv_aload_n hx hb dL_law_2806 rfl (lv_at hl 4 rfl) ?_
  have hw := hs j r w sums ns sw np pw nf fw spw q t n rr ww hj hR (xs (i + 1).toNatClampNeg)
  refine lc_ro (rest := []) X hN mw_307 hT hS hI (k_L_happenedTo l D tc s.heap.size sa H ob (xs (i + 1).toNatClampNeg) hI.1.1 (c_X8_happenedTo (l := l) (D := D) (tc := tc) (h0 := s.heap.size) (sa := sa) (H0 := H) (x1 := (xs (i + 1).toNatClampNeg)) (hBr := hI.1.1) (hBw := hI.1.2.1) (hlf := hlf) (hw := hw)) (fun _ => rfl) hI.2.2.1.1 (fun h => h) (fun x h => h.elim False.elim (fun e => e ▸ hI.2.2.1.2.2.1)) (fun _ h => h.1)) dL_law_2807 hl.1 rfl rfl ⟨Nat.le_of_ble_eq_true rfl, Nat.le_of_ble_eq_true rfl⟩ (Nat.le_of_ble_eq_true rfl) ⟨bud0 hf.1 rfl, bud0 hf.2 rfl⟩ (fun H locs O f k1 hS hI ho => ?_)
  refine W.eq (g2 := F0 m 2810 ls [.int k1]) rfl ?_
  obtain ⟨a9, hw, hfa⟩ : ∃ a9 : Int32, MM_happenedTo Rel j r w sums ns sw np pw nf fw spw q t n rr ww (xs (i + 1).toNatClampNeg) k1 a9 ∧ (k1 = 0 → f 0 = a9.toInt64) := by
    rcases ho with ⟨u, hp, e1, e2⟩ | ⟨k, hp, e1⟩
    · subst e1; exact ⟨u, hp, fun _ => e2⟩
    · subst e1; exact ⟨0, hp.2, fun h => absurd h (by have ek := hp.1; subst ek; decide)⟩
  refine lv_istore (lv' := [(6, .int k1), (5, .int i), (0, .ref b), (1, .ref (ar 0)), (2, .ref q), (3, .ref ob), (4, .ref od)]) hx hb dL_law_2810 hl (by decide) rfl (fun ls hl => ?_)
  refine lv_aload_n hx hb dL_law_2812 rfl (lv_at hl 4 rfl) ?_
  refine lv_aload_n hx hb dL_law_2813 rfl (lv_at hl 2 rfl) ?_
  refine lv_iload hx hb dL_law_2814 (lv_at hl 1 rfl) ?_
  refine lv_iconst (v := 1) hx hb dL_law_2816 (by decide) ?_
  refine lv_iadd hx hb dL_law_2817 ?_
  refine va_sld hx hb hX hbl (Nat.not_le.mpr hbl) hS h1 dL_law_2818 ?_
  unfold MM_happenedTo at hw
  refine lm_w (rest := []) X m_L_309 hT hS hI (c_X13_happenedTo l D tc s.heap.size sa q (xs (i + 1).toNatClampNeg) H hI.2.1.1 hI.2.1.2 (fun _ h => h.2.1) hw) ((hI.2.1.1.one hI.2.1.2 rfl).recv X 0 rfl (q := (RX13, TX13, 5)) rfl) dL_law_2819 hl.1 rfl rfl ⟨Nat.le_of_ble_eq_true rfl, Nat.le_of_ble_eq_true rfl⟩ (Nat.le_of_ble_eq_true rfl) ⟨bud1 hf.1 rfl, bud1 hf.2 rfl⟩ (fun u H locs O hp hS hI => ?_)
  obtain ⟨b9, w9⟩ := u
  dsimp only at hp hI
  refine W.eq (g2 := F0 m 2822 ls [.int b9]) rfl ?_
  refine lv_istore (lv' := [(7, .int b9), (6, .int k1), (5, .int i), (0, .ref b), (1, .ref (ar 0)), (2, .ref q), (3, .ref ob), (4, .ref od)]) hx hb dL_law_2822 hl (by decide) rfl (fun ls hl => ?_)
  refine lv_aload_n hx hb dL_law_2824 rfl (lv_at hl 5 rfl) ?_
  refine lm_r (rest := []) X m_L_169 hT hS hI (c_X13_thrown l D tc s.heap.size sa q H hI.2.1.1 hI.2.1.2 (post := fun v => v = w9 q 0) rfl) ((hI.2.1.1.one hI.2.1.2 rfl).recv X 0 rfl (q := (RX13, TX13, 5)) rfl) dL_law_2825 hl.1 rfl rfl ⟨Nat.le_of_ble_eq_true rfl, Nat.le_of_ble_eq_true rfl⟩ (Nat.le_of_ble_eq_true rfl) ⟨bud2 hf.1 rfl, bud2 hf.2 rfl⟩ (fun u locs hu hS => ?_)
  refine W.eq (g2 := F0 m 2828 ls [.int k1]) (by rw [show u = k1 from (show u = w9 q 0 from hu).trans hp.1]; rfl) ?_
  have hR := hp.2.2
  refine lv_iload hx hb dL_law_2828 (lv_at hl 1 rfl) ?_
  refine lv_icmp_eq (tgt := 2835) hx hb dL_law_2830 (by decide) (fun _ => ?_) (fun hc0 => absurd rfl hc0)
  refine lv_iload hx hb dL_law_2835 (lv_at hl 1 rfl) ?_
  refine lv_if_ne (tgt := 2852) hx hb dL_law_2837 (by decide) (fun hc => ?_) (fun hc => ?_)
  · refine lv_goto (tgt := 2989) hx hb dL_law_2852 (by decide) ?_
    refine W.widen (k := cells + 1520) (n := slots + 13000) (wid3 rfl) (wid3 rfl) ?_
    exact kk H locs ls hS ⟨_, _, _, _, _, _, _, _, _, _, _, _, _, _, _, _, _, _, _, _, _, hI, hR⟩ (lv_sub hl [2, 3, 4, 5, 6, 7] rfl)
  · have eab : a9 = b9 := hp.2.1 hc
    subst eab
    have hfa := hfa hc
    refine lv_aload_n hx hb dL_law_2840 rfl (lv_at hl 6 rfl) ?_
    refine lv_iconst (v := 0) hx hb dL_law_2841 (by decide) ?_
    refine x_lald X dL_law_2842 hI.2.2.1.1 in01 ?_
    refine lv_iload hx hb dL_law_2843 (lv_at hl 0 rfl) ?_
    refine lv_i2l (v := a9.toInt64) hx hb dL_law_2845 rfl ?_
    refine W.lcmp hx hb dL_law_2846 ?_
    refine lv_if_eq (tgt := 2852) hx hb dL_law_2847 (by decide) (fun _ => ?_) (fun hc0 => absurd (lgc_eq hfa) hc0)
    refine lv_goto (tgt := 2989) hx hb dL_law_2852 (by decide) ?_
    refine W.widen (k := cells + 1520) (n := slots + 13000) (wid3 rfl) (wid3 rfl) ?_
    exact kk H locs ls hS ⟨_, _, _, _, _, _, _, _, _, _, _, _, _, _, _, _, _, _, _, _, _, hI, hR⟩ (lv_sub hl [2, 3, 4, 5, 6, 7] rfl)
set_option maxHeartbeats 4000000 in
theorem tc_checksum {p : Program} {l : Launch} {e : Env} {s : State} {m : MethodId} {args : Array Value} {below : List Frame} {meth : Method} {c : Code} {H : Heap} {locs : List Loc} {cells slots : Nat} {Q : State → Prop} {D : va_G} {tc : Nat → ClassId} {ls : Array Slot} {sa : Nat → Nat} {b L j : Nat} {xs : Nat → Int32} {i : Int32} {O : Nat → Nat} {q ob od : Nat} {f : Nat → Int64} {g : Nat → UInt64} {ad ar : Nat → Nat} {sp : Option Nat} {sd pd fd : Nat → Nat → Nat} {sums : Nat → Int64} {r w : Dt} {ns : Nat} {sw : Nat → Dt} {np : Nat} {pw : Nat → Dt} {nf : Nat} {fw : Nat → Dt} {spw : Dt} {t n : Nat → Nat} {rr : Nat → Nat → Nat} {ww : Dt} (Rel : RLT) (X : Cx p c s m meth cL_law 10 RL D tc) (hN : NC s) (hT : ST s.heap.size sa s s.heap) (hlf : l.stackTraces = false) (hX : va_X b L xs s s.heap) (hbl : b < s.heap.size) (hS : va_S (old s.heap.size) s.heap H locs) (hI : (LI D tc s.heap.size (sa 3) O q ob od f g ad ar sp sd pd fd sums r w ns sw np pw nf fw spw t n rr ww H)) (hR : Rel j r w sums ns sw np pw nf fw spw q t n rr ww) (hj : j < 512) (h1 : vp_in (i + 1) L) (h2 : vp_in (i + 2) L) (h3 : vp_in (i + 3) L) (h4 : vp_in (i + 4) L) (hl : lv_has ls 10 [(5, .int i), (0, .ref b), (1, .ref (ar 0)), (2, .ref q), (3, .ref ob), (4, .ref od)]) (hf : cells + 1520 ≤ room_1.cells ∧ slots + 13000 ≤ room_1.slots) (hs : SIM_checksum Rel) (kk : ∀ (H1 : Heap) (locs1 : List Loc) (ls1 : Array Slot), va_S (old s.heap.size) s.heap H1 locs1 → LH Rel D tc s.heap.size (sa 3) q ob od ad ar (j + 1) H1 → lv_has ls1 10 [(5, .int i), (0, .ref b), (1, .ref (ar 0)), (2, .ref q), (3, .ref ob), (4, .ref od)] → W p l e room_1 s m args below meth c H1 locs1 (cells + 1520) (slots + 13000) Q (F0 m 2989 ls1 [])) : W p l e room_1 s m args below meth c H locs cells slots Q (F0 m 2855 ls []) := by
  have hx := X.1
  have hb := X.2.1
  unfold SIM_checksum at hs
  refine lv_aload_n hx hb dL_law_2855 rfl (lv_at hl 2 rfl) ?_
  have hw := hs j r w sums ns sw np pw nf fw spw q t n rr ww hj hR
  refine lm_r (rest := []) X m_L_310 hT hS hI (c_X8_checksum (l := l) (D := D) (tc := tc) (h0 := s.heap.size) (sa := sa) (H0 := H) (hBr := hI.1.1) (hBw := hI.1.2.1) (hw := hw)) (hI.1.1.recv X 0 rfl (q := (RX8, TX8, 9)) rfl) dL_law_2856 hl.1 rfl rfl ⟨Nat.le_of_ble_eq_true rfl, Nat.le_of_ble_eq_true rfl⟩ (Nat.le_of_ble_eq_true rfl) ⟨bud0 hf.1 rfl, bud0 hf.2 rfl⟩ (fun a9 locs hp hS => ?_)
  have hw : MM_checksum Rel j r w sums ns sw np pw nf fw spw q t n rr ww a9 := hp
  refine W.eq (g2 := F0 m 2859 ls [.long a9]) rfl ?_
  refine lv_aload_n hx hb dL_law_2859 rfl (lv_at hl 3 rfl) ?_
  unfold MM_checksum at hw
  refine lm_g (rest := [.long a9]) X m_L_314 hT hS hI (c_X13_checksum l D tc s.heap.size sa q  1400 12000 H (hI.2.1.1.mono (fun x _ h => Or.inl h)) hI.2.1.2 (fun x h => h.elim (fun h => h.2.1) (fun h => Nat.le_trans hI.2.2.2.2 h)) (fun x h => Or.inr h) hw) ((hI.2.1.1.one hI.2.1.2 rfl).recv X 0 rfl (q := (RX13, TX13, 5)) rfl) dL_law_2860 hl.1 rfl rfl ⟨Nat.le_of_ble_eq_true rfl, Nat.le_of_ble_eq_true rfl⟩ (Nat.le_of_ble_eq_true rfl) ⟨bud1 hf.1 rfl, bud1 hf.2 rfl⟩ (fun u H locs O hp hS hI => ?_)
  obtain ⟨b9, t9, n9, r9, w9⟩ := u
  dsimp only at hp hI
  refine W.eq (g2 := F0 m 2863 ls [.long b9, .long a9]) rfl ?_
  have eab : a9 = b9 := hp.1
  have hR := hp.2
  subst eab
  refine W.lcmp hx hb dL_law_2863 ?_
  refine lv_if_eq (tgt := 2989) hx hb dL_law_2864 (by decide) (fun _ => ?_) (fun hc0 => absurd (lgc_eq rfl) hc0)
  refine W.widen (k := cells + 1520) (n := slots + 13000) (wid2 rfl) (wid2 rfl) ?_
  exact kk H locs ls hS ⟨_, _, _, _, _, _, _, _, _, _, _, _, _, _, _, _, _, _, _, _, _, hI, hR⟩ (lv_sub hl [0, 1, 2, 3, 4, 5] rfl)
set_option maxHeartbeats 4000000 in
theorem tc_thereShare {p : Program} {l : Launch} {e : Env} {s : State} {m : MethodId} {args : Array Value} {below : List Frame} {meth : Method} {c : Code} {H : Heap} {locs : List Loc} {cells slots : Nat} {Q : State → Prop} {D : va_G} {tc : Nat → ClassId} {ls : Array Slot} {sa : Nat → Nat} {b L j : Nat} {xs : Nat → Int32} {i : Int32} {O : Nat → Nat} {q ob od : Nat} {f : Nat → Int64} {g : Nat → UInt64} {ad ar : Nat → Nat} {sp : Option Nat} {sd pd fd : Nat → Nat → Nat} {sums : Nat → Int64} {r w : Dt} {ns : Nat} {sw : Nat → Dt} {np : Nat} {pw : Nat → Dt} {nf : Nat} {fw : Nat → Dt} {spw : Dt} {t n : Nat → Nat} {rr : Nat → Nat → Nat} {ww : Dt} (Rel : RLT) (X : Cx p c s m meth cL_law 10 RL D tc) (hN : NC s) (hT : ST s.heap.size sa s s.heap) (hlf : l.stackTraces = false) (hX : va_X b L xs s s.heap) (hbl : b < s.heap.size) (hS : va_S (old s.heap.size) s.heap H locs) (hI : (LI D tc s.heap.size (sa 3) O q ob od f g ad ar sp sd pd fd sums r w ns sw np pw nf fw spw t n rr ww H)) (hR : Rel j r w sums ns sw np pw nf fw spw q t n rr ww) (hj : j < 512) (h1 : vp_in (i + 1) L) (h2 : vp_in (i + 2) L) (h3 : vp_in (i + 3) L) (h4 : vp_in (i + 4) L) (hl : lv_has ls 10 [(5, .int i), (0, .ref b), (1, .ref (ar 0)), (2, .ref q), (3, .ref ob), (4, .ref od)]) (hf : cells + 1520 ≤ room_1.cells ∧ slots + 13000 ≤ room_1.slots) (hs : SIM_thereShare Rel) (kk : ∀ (H1 : Heap) (locs1 : List Loc) (ls1 : Array Slot), va_S (old s.heap.size) s.heap H1 locs1 → LH Rel D tc s.heap.size (sa 3) q ob od ad ar (j + 1) H1 → lv_has ls1 10 [(5, .int i), (0, .ref b), (1, .ref (ar 0)), (2, .ref q), (3, .ref ob), (4, .ref od)] → W p l e room_1 s m args below meth c H1 locs1 (cells + 1520) (slots + 13000) Q (F0 m 2989 ls1 [])) : W p l e room_1 s m args below meth c H locs cells slots Q (F0 m 2869 ls []) := by
  have hx := X.1
  have hb := X.2.1
  unfold SIM_thereShare at hs
  refine lv_aload_n hx hb dL_law_2869 rfl (lv_at hl 2 rfl) ?_
  refine lv_aload hx hb dL_law_2870 (lv_at hl 5 rfl) ?_
  have hw := hs j r w sums ns sw np pw nf fw spw q t n rr ww hj hR
  refine lc_rod (rest := []) X hN mw_315 hT hS hI (k_L_thereShare l D tc s.heap.size sa H od  hI.1.1 (c_X8_thereShare (l := l) (D := D) (tc := tc) (h0 := s.heap.size) (sa := sa) (H0 := H) (hBr := hI.1.1) (hBw := hI.1.2.1) (hlf := hlf) (hw := hw)) (fun _ => rfl) (fun _ h => h.1) hI.2.2.2.1.1 (fun h => h) (fun x h => h.elim False.elim (fun e => e ▸ hI.2.2.2.1.2.2.1)) (fun _ h => h.1)) dL_law_2872 hl.1 rfl rfl ⟨Nat.le_of_ble_eq_true rfl, Nat.le_of_ble_eq_true rfl⟩ (Nat.le_of_ble_eq_true rfl) ⟨bud0 hf.1 rfl, bud0 hf.2 rfl⟩ (fun H locs O g k1 hS hI ho => ?_)
  refine W.eq (g2 := F0 m 2875 ls [.int k1]) rfl ?_
  obtain ⟨a9, hw, hfa⟩ : ∃ a9 : UInt32, MM_thereShare Rel j r w sums ns sw np pw nf fw spw q t n rr ww  k1 a9 ∧ (k1 = 0 → g 0 = FP.f2d a9 ∧ vf_n64 (FP.f2d a9)) := by
    rcases ho with ⟨u, hp, e1, e2⟩ | ⟨k, hp, e1⟩
    · subst e1; exact ⟨u, hp.2, fun _ => ⟨e2, hp.1⟩⟩
    · subst e1; exact ⟨0, hp.2, fun h => absurd h (by have ek := hp.1; subst ek; decide)⟩
  refine lv_istore (lv' := [(6, .int k1), (5, .int i), (0, .ref b), (1, .ref (ar 0)), (2, .ref q), (3, .ref ob), (4, .ref od)]) hx hb dL_law_2875 hl (by decide) rfl (fun ls hl => ?_)
  refine lv_aload_n hx hb dL_law_2877 rfl (lv_at hl 4 rfl) ?_
  unfold MM_thereShare at hw
  refine lm_g (rest := []) X m_L_318 hT hS hI (c_X13_thereShare l D tc s.heap.size sa q  1400 12000 H (hI.2.1.1.mono (fun x _ h => Or.inl h)) hI.2.1.2 (fun x h => h.elim (fun h => h.2.1) (fun h => Nat.le_trans hI.2.2.2.2 h)) (fun x h => Or.inr h) hw) ((hI.2.1.1.one hI.2.1.2 rfl).recv X 0 rfl (q := (RX13, TX13, 5)) rfl) dL_law_2878 hl.1 rfl rfl ⟨Nat.le_of_ble_eq_true rfl, Nat.le_of_ble_eq_true rfl⟩ (Nat.le_of_ble_eq_true rfl) ⟨bud1 hf.1 rfl, bud1 hf.2 rfl⟩ (fun u H locs O hp hS hI => ?_)
  obtain ⟨b9, t9, n9, r9, w9⟩ := u
  dsimp only at hp hI
  refine W.eq (g2 := F0 m 2881 ls [.float b9]) rfl ?_
  refine lv_fstore (lv' := [(7, .float b9), (6, .int k1), (5, .int i), (0, .ref b), (1, .ref (ar 0)), (2, .ref q), (3, .ref ob), (4, .ref od)]) hx hb dL_law_2881 hl (by decide) rfl (fun ls hl => ?_)
  refine lv_aload_n hx hb dL_law_2883 rfl (lv_at hl 5 rfl) ?_
  refine lm_r (rest := []) X m_L_169 hT hS hI (c_X13_thrown l D tc s.heap.size sa q H hI.2.1.1 hI.2.1.2 (post := fun v => v = w9 q 0) rfl) ((hI.2.1.1.one hI.2.1.2 rfl).recv X 0 rfl (q := (RX13, TX13, 5)) rfl) dL_law_2884 hl.1 rfl rfl ⟨Nat.le_of_ble_eq_true rfl, Nat.le_of_ble_eq_true rfl⟩ (Nat.le_of_ble_eq_true rfl) ⟨bud2 hf.1 rfl, bud2 hf.2 rfl⟩ (fun u locs hu hS => ?_)
  refine W.eq (g2 := F0 m 2887 ls [.int k1]) (by rw [show u = k1 from (show u = w9 q 0 from hu).trans hp.1]; rfl) ?_
  have hR := hp.2.2
  refine lv_iload hx hb dL_law_2887 (lv_at hl 1 rfl) ?_
  refine lv_icmp_eq (tgt := 2894) hx hb dL_law_2889 (by decide) (fun _ => ?_) (fun hc0 => absurd rfl hc0)
  refine lv_iload hx hb dL_law_2894 (lv_at hl 1 rfl) ?_
  refine lv_if_ne (tgt := 2932) hx hb dL_law_2896 (by decide) (fun hc => ?_) (fun hc => ?_)
  · refine lv_goto (tgt := 2989) hx hb dL_law_2932 (by decide) ?_
    refine W.widen (k := cells + 1520) (n := slots + 13000) (wid3 rfl) (wid3 rfl) ?_
    exact kk H locs ls hS ⟨_, _, _, _, _, _, _, _, _, _, _, _, _, _, _, _, _, _, _, _, _, hI, hR⟩ (lv_sub hl [2, 3, 4, 5, 6, 7] rfl)
  · have eab : a9 = b9 := hp.2.1 hc
    subst eab
    have hfa := hfa hc
    refine lv_aload hx hb dL_law_2899 (lv_at hl 7 rfl) ?_
    refine lv_iconst (v := 0) hx hb dL_law_2901 (by decide) ?_
    refine x_dald X dL_law_2902 hI.2.2.2.1.1 in01 ?_
    refine lv_fload hx hb dL_law_2903 (lv_at hl 0 rfl) ?_
    refine lv_f2d hx hb dL_law_2905 hfa.2 ?_
    refine lv_dcmp hx hb dL_law_2906 ?_
    refine lv_if_eq (tgt := 2932) hx hb dL_law_2907 (by decide) (fun _ => ?_) (fun hc0 => absurd (dc_eq2 hfa.1 hfa.2) hc0)
    refine lv_goto (tgt := 2989) hx hb dL_law_2932 (by decide) ?_
    refine W.widen (k := cells + 1520) (n := slots + 13000) (wid3 rfl) (wid3 rfl) ?_
    exact kk H locs ls hS ⟨_, _, _, _, _, _, _, _, _, _, _, _, _, _, _, _, _, _, _, _, _, hI, hR⟩ (lv_sub hl [2, 3, 4, 5, 6, 7] rfl)
set_option maxHeartbeats 4000000 in
theorem tc_meanWind {p : Program} {l : Launch} {e : Env} {s : State} {m : MethodId} {args : Array Value} {below : List Frame} {meth : Method} {c : Code} {H : Heap} {locs : List Loc} {cells slots : Nat} {Q : State → Prop} {D : va_G} {tc : Nat → ClassId} {ls : Array Slot} {sa : Nat → Nat} {b L j : Nat} {xs : Nat → Int32} {i : Int32} {O : Nat → Nat} {q ob od : Nat} {f : Nat → Int64} {g : Nat → UInt64} {ad ar : Nat → Nat} {sp : Option Nat} {sd pd fd : Nat → Nat → Nat} {sums : Nat → Int64} {r w : Dt} {ns : Nat} {sw : Nat → Dt} {np : Nat} {pw : Nat → Dt} {nf : Nat} {fw : Nat → Dt} {spw : Dt} {t n : Nat → Nat} {rr : Nat → Nat → Nat} {ww : Dt} (Rel : RLT) (X : Cx p c s m meth cL_law 10 RL D tc) (hN : NC s) (hT : ST s.heap.size sa s s.heap) (hlf : l.stackTraces = false) (hX : va_X b L xs s s.heap) (hbl : b < s.heap.size) (hS : va_S (old s.heap.size) s.heap H locs) (hI : (LI D tc s.heap.size (sa 3) O q ob od f g ad ar sp sd pd fd sums r w ns sw np pw nf fw spw t n rr ww H)) (hR : Rel j r w sums ns sw np pw nf fw spw q t n rr ww) (hj : j < 512) (h1 : vp_in (i + 1) L) (h2 : vp_in (i + 2) L) (h3 : vp_in (i + 3) L) (h4 : vp_in (i + 4) L) (hl : lv_has ls 10 [(5, .int i), (0, .ref b), (1, .ref (ar 0)), (2, .ref q), (3, .ref ob), (4, .ref od)]) (hf : cells + 1520 ≤ room_1.cells ∧ slots + 13000 ≤ room_1.slots) (hs : SIM_meanWind Rel) (kk : ∀ (H1 : Heap) (locs1 : List Loc) (ls1 : Array Slot), va_S (old s.heap.size) s.heap H1 locs1 → LH Rel D tc s.heap.size (sa 3) q ob od ad ar (j + 1) H1 → lv_has ls1 10 [(5, .int i), (0, .ref b), (1, .ref (ar 0)), (2, .ref q), (3, .ref ob), (4, .ref od)] → W p l e room_1 s m args below meth c H1 locs1 (cells + 1520) (slots + 13000) Q (F0 m 2989 ls1 [])) : W p l e room_1 s m args below meth c H locs cells slots Q (F0 m 2935 ls []) := by
  have hx := X.1
  have hb := X.2.1
  unfold SIM_meanWind at hs
  refine lv_aload_n hx hb dL_law_2935 rfl (lv_at hl 2 rfl) ?_
  have hw := hs j r w sums ns sw np pw nf fw spw q t n rr ww hj hR
  refine lm_r (rest := []) X m_L_319 hT hS hI (c_X8_meanWind (l := l) (D := D) (tc := tc) (h0 := s.heap.size) (sa := sa) (H0 := H) (hBr := hI.1.1) (hBw := hI.1.2.1) (hw := hw)) (hI.1.1.recv X 0 rfl (q := (RX8, TX8, 9)) rfl) dL_law_2936 hl.1 rfl rfl ⟨Nat.le_of_ble_eq_true rfl, Nat.le_of_ble_eq_true rfl⟩ (Nat.le_of_ble_eq_true rfl) ⟨bud0 hf.1 rfl, bud0 hf.2 rfl⟩ (fun a9 locs hp hS => ?_)
  have hn9 : vf_n64 a9 := hp.1
  have hw : MM_meanWind Rel j r w sums ns sw np pw nf fw spw q t n rr ww a9 := hp.2
  refine W.eq (g2 := F0 m 2939 ls [.double a9]) rfl ?_
  refine lv_dstore (lv' := [(6, .double a9), (5, .int i), (0, .ref b), (1, .ref (ar 0)), (2, .ref q), (3, .ref ob), (4, .ref od)]) hx hb dL_law_2939 hl (by decide) rfl (fun ls hl => ?_)
  refine lv_aload_n hx hb dL_law_2941 rfl (lv_at hl 4 rfl) ?_
  unfold MM_meanWind at hw
  refine lm_w (rest := []) X m_L_323 hT hS hI (c_X13_meanWind l D tc s.heap.size sa q  H hI.2.1.1 hI.2.1.2 (fun _ h => h.2.1) hw) ((hI.2.1.1.one hI.2.1.2 rfl).recv X 0 rfl (q := (RX13, TX13, 5)) rfl) dL_law_2942 hl.1 rfl rfl ⟨Nat.le_of_ble_eq_true rfl, Nat.le_of_ble_eq_true rfl⟩ (Nat.le_of_ble_eq_true rfl) ⟨bud1 hf.1 rfl, bud1 hf.2 rfl⟩ (fun u H locs O hp hS hI => ?_)
  obtain ⟨b9, w9⟩ := u
  dsimp only at hp hI
  refine W.eq (g2 := F0 m 2945 ls [.double b9]) rfl ?_
  have eab : a9 = b9 := hp.1
  have hR := hp.2
  subst eab
  refine lv_dstore (lv' := [(8, .double a9), (6, .double a9), (5, .int i), (0, .ref b), (1, .ref (ar 0)), (2, .ref q), (3, .ref ob), (4, .ref od)]) hx hb dL_law_2945 hl (by decide) rfl (fun ls hl => ?_)
  refine lv_dload hx hb dL_law_2947 (lv_at hl 1 rfl) ?_
  refine lv_dload hx hb dL_law_2949 (lv_at hl 0 rfl) ?_
  refine lv_dcmp hx hb dL_law_2951 ?_
  refine lv_if_eq (tgt := 2973) hx hb dL_law_2952 (by decide) (fun _ => ?_) (fun hc0 => absurd (dc_eq hn9) hc0)
  refine lv_goto (tgt := 2989) hx hb dL_law_2973 (by decide) ?_
  refine W.widen (k := cells + 1520) (n := slots + 13000) (wid2 rfl) (wid2 rfl) ?_
  exact kk H locs ls hS ⟨_, _, _, _, _, _, _, _, _, _, _, _, _, _, _, _, _, _, _, _, _, hI, hR⟩ (lv_sub hl [2, 3, 4, 5, 6, 7] rfl)
set_option maxHeartbeats 4000000 in
theorem tc_isSound {p : Program} {l : Launch} {e : Env} {s : State} {m : MethodId} {args : Array Value} {below : List Frame} {meth : Method} {c : Code} {H : Heap} {locs : List Loc} {cells slots : Nat} {Q : State → Prop} {D : va_G} {tc : Nat → ClassId} {ls : Array Slot} {sa : Nat → Nat} {b L j : Nat} {xs : Nat → Int32} {i : Int32} {O : Nat → Nat} {q ob od : Nat} {f : Nat → Int64} {g : Nat → UInt64} {ad ar : Nat → Nat} {sp : Option Nat} {sd pd fd : Nat → Nat → Nat} {sums : Nat → Int64} {r w : Dt} {ns : Nat} {sw : Nat → Dt} {np : Nat} {pw : Nat → Dt} {nf : Nat} {fw : Nat → Dt} {spw : Dt} {t n : Nat → Nat} {rr : Nat → Nat → Nat} {ww : Dt} (Rel : RLT) (X : Cx p c s m meth cL_law 10 RL D tc) (hN : NC s) (hT : ST s.heap.size sa s s.heap) (hlf : l.stackTraces = false) (hX : va_X b L xs s s.heap) (hbl : b < s.heap.size) (hS : va_S (old s.heap.size) s.heap H locs) (hI : (LI D tc s.heap.size (sa 3) O q ob od f g ad ar sp sd pd fd sums r w ns sw np pw nf fw spw t n rr ww H)) (hR : Rel j r w sums ns sw np pw nf fw spw q t n rr ww) (hj : j < 512) (h1 : vp_in (i + 1) L) (h2 : vp_in (i + 2) L) (h3 : vp_in (i + 3) L) (h4 : vp_in (i + 4) L) (hl : lv_has ls 10 [(5, .int i), (0, .ref b), (1, .ref (ar 0)), (2, .ref q), (3, .ref ob), (4, .ref od)]) (hf : cells + 1520 ≤ room_1.cells ∧ slots + 13000 ≤ room_1.slots) (hb9 : r 0 3 = nI ns ∧ ns ≤ 3) (hs : SIM_isSound Rel) (kk : ∀ (H1 : Heap) (locs1 : List Loc) (ls1 : Array Slot), va_S (old s.heap.size) s.heap H1 locs1 → LH Rel D tc s.heap.size (sa 3) q ob od ad ar (j + 1) H1 → lv_has ls1 10 [(5, .int i), (0, .ref b), (1, .ref (ar 0)), (2, .ref q), (3, .ref ob), (4, .ref od)] → W p l e room_1 s m args below meth c H1 locs1 (cells + 1520) (slots + 13000) Q (F0 m 2989 ls1 [])) : W p l e room_1 s m args below meth c H locs cells slots Q (F0 m 2976 ls []) := by
  have hx := X.1
  have hb := X.2.1
  unfold SIM_isSound at hs
  refine lv_aload_n hx hb dL_law_2976 rfl (lv_at hl 2 rfl) ?_
  have hw := hs j r w sums ns sw np pw nf fw spw q t n rr ww hj hR
  refine lc_sd (rest := []) X m_L_324 hT hS hI (c_X8_isSound (l := l) (D := D) (tc := tc) (h0 := s.heap.size) (sa := sa) (H0 := H) (hBw := hI.1.2.1) (hBr := hI.1.1) (hBs := hI.1.2.2.1) (hsp := hI.1.2.2.2.2.2) (hns := hb9.1) (hn3 := hb9.2) (hA0 := (fun x h => h.elim (fun h => h.2.1) (fun h => h.elim (fun h => h.2.1) (fun h => Nat.le_trans hI.2.2.2.2 h)))) (hDw := (fun _ h g => Rg.ne h g (by omega))) (hDp := (fun _ h => ⟨fun g => Rg.ne h g (by omega), fun g => Rg.ne h g (by omega)⟩)) (hw := hw)) (hI.1.1.recv X 0 rfl (q := (RX8, TX8, 9)) rfl) dL_law_2977 hl.1 rfl rfl ⟨Nat.le_of_ble_eq_true rfl, Nat.le_of_ble_eq_true rfl⟩ (Nat.le_of_ble_eq_true rfl) ⟨bud0 hf.1 rfl, bud0 hf.2 rfl⟩ (fun u H locs O hp hS hI => ?_)
  obtain ⟨a9, sp, spw⟩ := u
  have hw : MM_isSound Rel j r w sums ns sw np pw nf fw spw q t n rr ww a9 := hp
  refine W.eq (g2 := F0 m 2980 ls [.int a9]) rfl ?_
  refine lv_aload_n hx hb dL_law_2980 rfl (lv_at hl 3 rfl) ?_
  unfold MM_isSound at hw
  refine lm_w (rest := [.int a9]) X m_L_328 hT hS hI (c_X13_isSound l D tc s.heap.size sa q  H hI.2.1.1 hI.2.1.2 (fun _ h => h.2.1) hw) ((hI.2.1.1.one hI.2.1.2 rfl).recv X 0 rfl (q := (RX13, TX13, 5)) rfl) dL_law_2981 hl.1 rfl rfl ⟨Nat.le_of_ble_eq_true rfl, Nat.le_of_ble_eq_true rfl⟩ (Nat.le_of_ble_eq_true rfl) ⟨bud1 hf.1 rfl, bud1 hf.2 rfl⟩ (fun u H locs O hp hS hI => ?_)
  obtain ⟨b9, w9⟩ := u
  dsimp only at hp hI
  refine W.eq (g2 := F0 m 2984 ls [.int b9, .int a9]) rfl ?_
  have eab : a9 = b9 := hp.1
  have hR := hp.2
  subst eab
  refine lv_icmp_eq (tgt := 2989) hx hb dL_law_2984 (by decide) (fun _ => ?_) (fun hc0 => absurd rfl hc0)
  refine W.widen (k := cells + 1520) (n := slots + 13000) (wid2 rfl) (wid2 rfl) ?_
  exact kk H locs ls hS ⟨_, _, _, _, _, _, _, _, _, _, _, _, _, _, _, _, _, _, _, _, _, hI, hR⟩ (lv_sub hl [0, 1, 2, 3, 4, 5] rfl)
