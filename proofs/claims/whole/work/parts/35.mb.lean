/-! THE MODEL: the column -/
abbrev rm_X12_column : Room := { frames := 1, cells := 0, slots := 0, locals := 23 }
def wp_X12_column_331 (post : Dt → Prop) (tS : Nat → Nat) (nS : Nat → Nat) (rS : Nat → Nat → Nat) (K190 : Nat → Int32 → (Dt) → Prop) (y0 : Nat) (y1 : Int32) (wS : Dt) : Prop := K190 y0 (y1 + (-1)) wS
set_option maxHeartbeats 4000000 in
set_option maxRecDepth 100000 in
theorem t_X12_column_331 : ∀ {p : Program} {l : Launch} {e : Env} {s : State} {m : MethodId} {args : Array Value} {below : List Frame} {meth : Method} {c : Code} {D : va_G} {tc : Nat → ClassId} {h0 : Nat} {sa : Nat → Nat} {A : Nat → Prop} {post : Dt → Prop} {tS : Nat → Nat} {nS : Nat → Nat} {rS : Nat → Nat → Nat} {K190 : Nat → Int32 → (Dt) → Prop} (X : Cx p c s m meth cX12_column 6 RX12 D tc) (hr : meth.sig.returnType = (Option.none : Option FieldType)) (hT : ST h0 sa s s.heap) (hA0 : ∀ q, A q → h0 ≤ q) (hK190 : ∀ (y0 : Nat) (y1 : Int32) (wS : Dt) (H : Heap) (locs : List Loc) (ls : Array Slot), K190 y0 y1 wS → SB D tc (sa 3) A tS nS rS wS H → (tS y0 = 4) → va_S A s.heap H locs → lv_has ls 6 [(0, .ref y0), (1, .int y1)] → W p l e rm_X12_column s m args below meth c H locs 0 0 (MQ below (QB post (fun (u : Dt) (H1 : Heap) => SB D tc (sa 3) A tS nS rS u H1) (fun _ : Dt => none) A) args s rm_X12_column.cells rm_X12_column.slots A) (F0 m 190 ls [])), ∀ (y0 : Nat) (y1 : Int32) (wS : Dt) (H : Heap) (locs : List Loc) (ls : Array Slot), wp_X12_column_331 post tS nS rS K190 y0 y1 wS → SB D tc (sa 3) A tS nS rS wS H → (tS y0 = 4) → va_S A s.heap H locs → lv_has ls 6 [(0, .ref y0), (1, .int y1)] → W p l e rm_X12_column s m args below meth c H locs 0 0 (MQ below (QB post (fun (u : Dt) (H1 : Heap) => SB D tc (sa 3) A tS nS rS u H1) (fun _ : Dt => none) A) args s rm_X12_column.cells rm_X12_column.slots A) (F0 m 331 ls []) := by
  intro p l e s m args below meth c D tc h0 sa A post tS nS rS K190 X hr hT hA0 hK190  y0 y1 wS H locs ls hw hB hky0 hS hl
  have hx := X.1
  have hb := X.2.1
  have hown := X.2.2.2.1
  have hU := X.2.2.2.2.1.1
  unfold wp_X12_column_331 at hw
  refine lv_iinc (lv' := [(1, .int (y1 + (-1))), (0, .ref y0)]) hx hb dX12_column_331 hl (k := 1) rfl (by rfl) (by decide) rfl (fun ls hl => ?_)
  refine lv_goto (tgt := 190) hx hb dX12_column_334 (by decide) ?_
  exact hK190 y0 (y1 + (-1)) wS _ _ _ hw hB hky0 hS (lv_sub hl [1, 0] rfl)
def wp_X12_column_273 (post : Dt → Prop) (tS : Nat → Nat) (nS : Nat → Nat) (rS : Nat → Nat → Nat) (K190 : Nat → Int32 → (Dt) → Prop) : Nat → (Nat) → (Int32) → (Int32) → (Dt) → Prop
  | 0, _, _, _, _ => False
  | n9 + 1, y0, y1, y4, wS => (3 ≤ y4 → wp_X12_column_331 post tS nS rS K190 y0 y1 wS) ∧ (¬ 3 ≤ y4 → vp_in (y1 + 1) 10 ∧ (vp_in y4 3 ∧ (∀ v28 : Int32, v28 = ((wS (rS (rS y0 1) (y1 + 1).toNatClampNeg) y4.toNatClampNeg) / 10) → (∀ wS31 : Dt, wS31 = up2 wS (rS (rS y0 1) (y1 + 1).toNatClampNeg) y4.toNatClampNeg ((wS (rS (rS y0 1) (y1 + 1).toNatClampNeg) y4.toNatClampNeg) - v28) → (vp_in y1 10 ∧ (∀ wS35 : Dt, wS35 = up2 wS31 (rS (rS y0 1) y1.toNatClampNeg) y4.toNatClampNeg ((wS31 (rS (rS y0 1) y1.toNatClampNeg) y4.toNatClampNeg) + v28) → (wp_X12_column_273 post tS nS rS K190 n9 y0 y1 (y4 + 1) wS35)))))))
set_option maxHeartbeats 4000000 in
set_option maxRecDepth 100000 in
theorem t_X12_column_273 : ∀ {p : Program} {l : Launch} {e : Env} {s : State} {m : MethodId} {args : Array Value} {below : List Frame} {meth : Method} {c : Code} {D : va_G} {tc : Nat → ClassId} {h0 : Nat} {sa : Nat → Nat} {A : Nat → Prop} {post : Dt → Prop} {tS : Nat → Nat} {nS : Nat → Nat} {rS : Nat → Nat → Nat} {K190 : Nat → Int32 → (Dt) → Prop} (X : Cx p c s m meth cX12_column 6 RX12 D tc) (hr : meth.sig.returnType = (Option.none : Option FieldType)) (hT : ST h0 sa s s.heap) (hA0 : ∀ q, A q → h0 ≤ q) (hK190 : ∀ (y0 : Nat) (y1 : Int32) (wS : Dt) (H : Heap) (locs : List Loc) (ls : Array Slot), K190 y0 y1 wS → SB D tc (sa 3) A tS nS rS wS H → (tS y0 = 4) → va_S A s.heap H locs → lv_has ls 6 [(0, .ref y0), (1, .int y1)] → W p l e rm_X12_column s m args below meth c H locs 0 0 (MQ below (QB post (fun (u : Dt) (H1 : Heap) => SB D tc (sa 3) A tS nS rS u H1) (fun _ : Dt => none) A) args s rm_X12_column.cells rm_X12_column.slots A) (F0 m 190 ls [])) (n9 : Nat), ∀ (y0 : Nat) (y1 : Int32) (y4 : Int32) (wS : Dt) (H : Heap) (locs : List Loc) (ls : Array Slot), wp_X12_column_273 post tS nS rS K190 n9 y0 y1 y4 wS → SB D tc (sa 3) A tS nS rS wS H → (tS y0 = 4) → va_S A s.heap H locs → lv_has ls 6 [(0, .ref y0), (1, .int y1), (4, .int y4)] → W p l e rm_X12_column s m args below meth c H locs 0 0 (MQ below (QB post (fun (u : Dt) (H1 : Heap) => SB D tc (sa 3) A tS nS rS u H1) (fun _ : Dt => none) A) args s rm_X12_column.cells rm_X12_column.slots A) (F0 m 273 ls []) := by
  intro p l e s m args below meth c D tc h0 sa A post tS nS rS K190 X hr hT hA0 hK190 n9
  have hx := X.1
  have hb := X.2.1
  have hown := X.2.2.2.1
  have hU := X.2.2.2.2.1.1
  induction n9 with
  | zero =>
    intro  y0 y1 y4 wS H locs ls hw
    exact hw.elim
  | succ n9 ih =>
    intro  y0 y1 y4 wS H locs ls hw hB hky0 hS hl
    unfold wp_X12_column_273 at hw
    refine lv_iload hx hb dX12_column_273 (lv_at hl 2 rfl) ?_
    refine lv_iconst (v := 3) hx hb dX12_column_275 (by decide) ?_
    refine lv_icmp_ge (tgt := 331) hx hb dX12_column_276 (by decide) (fun c23 => ?_) (fun c23 => ?_)
    · have hw := hw.1 c23
      exact t_X12_column_331 X hr hT hA0 hK190 y0 y1 wS _ _ _ hw hB hky0 hS (lv_sub hl [0, 1] rfl)
    · have hw := hw.2 c23
      refine lv_aload_n hx hb dX12_column_279 rfl (lv_at hl 0 rfl) ?_
      refine g_get X dX12_column_280 f_X12_17 (hB.one (k := 4) hky0 rfl) 0 (v := .ref (rS y0 1)) rfl rfl ?_
      have k24 : tS (rS y0 1) = 2 := (hB.wtk hky0).2.1
      refine lv_iload_n hx hb dX12_column_283 rfl (lv_at hl 1 rfl) ?_
      refine lv_iconst (v := 1) hx hb dX12_column_284 (by decide) ?_
      refine lv_iadd hx hb dX12_column_285 ?_
      obtain ⟨o25, hw⟩ := hw
      refine g_aaldA X dX12_column_286 (hB.one (k := 2) k24 rfl) 0 rfl o25 (v := .ref (rS (rS y0 1) (y1 + 1).toNatClampNeg)) (row_at (lt10 o25)) ?_
      have k26 : tS (rS (rS y0 1) (y1 + 1).toNatClampNeg) = 23 := (hB.wtk k24) _ (lt10 o25)
      refine lv_iload hx hb dX12_column_287 (lv_at hl 2 rfl) ?_
      obtain ⟨o27, hw⟩ := hw
      refine g_iald X dX12_column_289 (hB.one (k := 23) k26 rfl) 0 rfl o27 rfl ?_
      refine lv_bipush (v := 10) hx hb dX12_column_290 (by decide) ?_
      refine lv_idiv hx hb dX12_column_292 (by decide) ?_
      refine lv_topi (fun v28 ev28 => ?_)
      have hw := hw v28 ev28
      refine lv_istore (lv' := [(5, .int v28), (0, .ref y0), (1, .int y1), (4, .int y4)]) hx hb dX12_column_293 hl (by decide) rfl (fun ls hl => ?_)
      refine lv_aload_n hx hb dX12_column_295 rfl (lv_at hl 1 rfl) ?_
      refine g_get X dX12_column_296 f_X12_17 (hB.one (k := 4) hky0 rfl) 0 (v := .ref (rS y0 1)) rfl rfl ?_
      have k29 : tS (rS y0 1) = 2 := (hB.wtk hky0).2.1
      refine lv_iload_n hx hb dX12_column_299 rfl (lv_at hl 2 rfl) ?_
      refine lv_iconst (v := 1) hx hb dX12_column_300 (by decide) ?_
      refine lv_iadd hx hb dX12_column_301 ?_
      refine g_aaldA X dX12_column_302 (hB.one (k := 2) k29 rfl) 0 rfl o25 (v := .ref (rS (rS y0 1) (y1 + 1).toNatClampNeg)) (row_at (lt10 o25)) ?_
      have k30 : tS (rS (rS y0 1) (y1 + 1).toNatClampNeg) = 23 := (hB.wtk k29) _ (lt10 o25)
      refine lv_iload hx hb dX12_column_303 (lv_at hl 3 rfl) ?_
      refine lv_dup2_11 hx hb dX12_column_305 rfl rfl ?_
      refine g_iald X dX12_column_306 (hB.one (k := 23) k30 rfl) 0 rfl o27 rfl ?_
      refine lv_iload hx hb dX12_column_307 (lv_at hl 0 rfl) ?_
      refine lv_isub hx hb dX12_column_309 ?_
      refine g_iast X dX12_column_310 (hB.one (k := 23) k30 rfl) hS 0 rfl o27 rfl (fun H locs hb9 oq hS => ?_)
      have hB := hB.putB k30 rfl hb9 oq
      obtain ⟨wS31, ewS31⟩ : ∃ z : Dt, z = up2 wS (rS (rS y0 1) (y1 + 1).toNatClampNeg) y4.toNatClampNeg ((wS (rS (rS y0 1) (y1 + 1).toNatClampNeg) y4.toNatClampNeg) - v28) := ⟨_, rfl⟩
      rw [← ewS31] at hB
      have hw := hw wS31 ewS31
      refine lv_aload_n hx hb dX12_column_311 rfl (lv_at hl 1 rfl) ?_
      refine g_get X dX12_column_312 f_X12_17 (hB.one (k := 4) hky0 rfl) 0 (v := .ref (rS y0 1)) rfl rfl ?_
      have k32 : tS (rS y0 1) = 2 := (hB.wtk hky0).2.1
      refine lv_iload_n hx hb dX12_column_315 rfl (lv_at hl 2 rfl) ?_
      obtain ⟨o33, hw⟩ := hw
      refine g_aaldA X dX12_column_316 (hB.one (k := 2) k32 rfl) 0 rfl o33 (v := .ref (rS (rS y0 1) y1.toNatClampNeg)) (row_at (lt10 o33)) ?_
      have k34 : tS (rS (rS y0 1) y1.toNatClampNeg) = 23 := (hB.wtk k32) _ (lt10 o33)
      refine lv_iload hx hb dX12_column_317 (lv_at hl 3 rfl) ?_
      refine lv_dup2_11 hx hb dX12_column_319 rfl rfl ?_
      refine g_iald X dX12_column_320 (hB.one (k := 23) k34 rfl) 0 rfl o27 rfl ?_
      refine lv_iload hx hb dX12_column_321 (lv_at hl 0 rfl) ?_
      refine lv_iadd hx hb dX12_column_323 ?_
      refine g_iast X dX12_column_324 (hB.one (k := 23) k34 rfl) hS 0 rfl o27 rfl (fun H locs hb9 oq hS => ?_)
      have hB := hB.putB k34 rfl hb9 oq
      obtain ⟨wS35, ewS35⟩ : ∃ z : Dt, z = up2 wS31 (rS (rS y0 1) y1.toNatClampNeg) y4.toNatClampNeg ((wS31 (rS (rS y0 1) y1.toNatClampNeg) y4.toNatClampNeg) + v28) := ⟨_, rfl⟩
      rw [← ewS35] at hB
      have hw := hw wS35 ewS35
      refine lv_iinc (lv' := [(4, .int (y4 + 1)), (5, .int v28), (0, .ref y0), (1, .int y1)]) hx hb dX12_column_325 hl (k := 3) rfl (by rfl) (by decide) rfl (fun ls hl => ?_)
      refine lv_goto (tgt := 273) hx hb dX12_column_328 (by decide) ?_
      exact ih y0 y1 (y4 + 1) wS35 _ _ _ hw hB hky0 hS (lv_sub hl [2, 3, 0] rfl)
def wp_X12_column_190 (post : Dt → Prop) (tS : Nat → Nat) (nS : Nat → Nat) (rS : Nat → Nat → Nat)  : Nat → (Nat) → (Int32) → (Dt) → Prop
  | 0, _, _, _ => False
  | n9 + 1, y0, y1, wS => (y1 < 0 → ∀ wS8 : Dt, wS8 = up2 wS (rS y0 0) 0 ((wS (rS y0 0) 0) - ((wS (rS y0 0) 0) / 100)) → (∀ wS9 : Dt, wS9 = up2 wS8 y0 4 ((wS8 y0 4) + ((wS (rS y0 0) 0) / 100)) → (post wS9))) ∧ (¬ y1 < 0 → vp_in (y1 + 1) 10 ∧ (vp_in y1 10 ∧ (∀ v14 : Int32, v14 = (((wS (rS y0 0) (y1 + 1).toNatClampNeg) - (wS (rS y0 0) y1.toNatClampNeg)) - 25) → ((v14 ≤ 0 → wp_X12_column_331 post tS nS rS (fun a0 a1 a2 => wp_X12_column_190 post tS nS rS  n9 a0 a1 a2) y0 y1 wS) ∧ (¬ v14 ≤ 0 → wp_X12_weight (fun r16 => wp_X12_weight (fun r17 => (v14 ≤ ((r16 / 1000) - (r17 / 1000)) → wp_X12_column_331 post tS nS rS (fun a0 a1 a2 => wp_X12_column_190 post tS nS rS  n9 a0 a1 a2) y0 y1 wS) ∧ (¬ v14 ≤ ((r16 / 1000) - (r17 / 1000)) → ∀ wS20 : Dt, wS20 = up2 wS (rS y0 0) (y1 + 1).toNatClampNeg ((wS (rS y0 0) (y1 + 1).toNatClampNeg) - ((v14 + 1) / 2)) → (∀ wS22 : Dt, wS22 = up2 wS20 (rS y0 0) y1.toNatClampNeg ((wS20 (rS y0 0) y1.toNatClampNeg) + ((v14 + 1) / 2)) → (∃ k9 : Nat, wp_X12_column_273 post tS nS rS (fun a0 a1 a2 => wp_X12_column_190 post tS nS rS  n9 a0 a1 a2) k9 y0 y1 0 wS22)))) tS nS rS wS y0 y1) tS nS rS wS y0 (y1 + 1))))))
set_option maxHeartbeats 4000000 in
set_option maxRecDepth 100000 in
theorem t_X12_column_190 : ∀ {p : Program} {l : Launch} {e : Env} {s : State} {m : MethodId} {args : Array Value} {below : List Frame} {meth : Method} {c : Code} {D : va_G} {tc : Nat → ClassId} {h0 : Nat} {sa : Nat → Nat} {A : Nat → Prop} {post : Dt → Prop} {tS : Nat → Nat} {nS : Nat → Nat} {rS : Nat → Nat → Nat}  (X : Cx p c s m meth cX12_column 6 RX12 D tc) (hr : meth.sig.returnType = (Option.none : Option FieldType)) (hT : ST h0 sa s s.heap) (hA0 : ∀ q, A q → h0 ≤ q)  (n9 : Nat), ∀ (y0 : Nat) (y1 : Int32) (wS : Dt) (H : Heap) (locs : List Loc) (ls : Array Slot), wp_X12_column_190 post tS nS rS  n9 y0 y1 wS → SB D tc (sa 3) A tS nS rS wS H → (tS y0 = 4) → va_S A s.heap H locs → lv_has ls 6 [(0, .ref y0), (1, .int y1)] → W p l e rm_X12_column s m args below meth c H locs 0 0 (MQ below (QB post (fun (u : Dt) (H1 : Heap) => SB D tc (sa 3) A tS nS rS u H1) (fun _ : Dt => none) A) args s rm_X12_column.cells rm_X12_column.slots A) (F0 m 190 ls []) := by
  intro p l e s m args below meth c D tc h0 sa A post tS nS rS  X hr hT hA0  n9
  have hx := X.1
  have hb := X.2.1
  have hown := X.2.2.2.1
  have hU := X.2.2.2.2.1.1
  induction n9 with
  | zero =>
    intro  y0 y1 wS H locs ls hw
    exact hw.elim
  | succ n9 ih =>
    intro  y0 y1 wS H locs ls hw hB hky0 hS hl
    unfold wp_X12_column_190 at hw
    refine lv_iload_n hx hb dX12_column_190 rfl (lv_at hl 1 rfl) ?_
    refine lv_if_lt (tgt := 337) hx hb dX12_column_191 (by decide) (fun c5 => ?_) (fun c5 => ?_)
    · have hw := hw.1 c5
      refine lv_aload_n hx hb dX12_column_337 rfl (lv_at hl 0 rfl) ?_
      refine g_get X dX12_column_338 f_X12_9 (hB.one (k := 4) hky0 rfl) 0 (v := .ref (rS y0 0)) rfl rfl ?_
      have k6 : tS (rS y0 0) = 1 := (hB.wtk hky0).1
      refine lv_iconst (v := 0) hx hb dX12_column_341 (by decide) ?_
      refine g_iald X dX12_column_342 (hB.one (k := 1) k6 rfl) 0 rfl (by unfold vp_in; decide) (k := 0) (by decide) ?_
      refine lv_bipush (v := 100) hx hb dX12_column_343 (by decide) ?_
      refine lv_idiv hx hb dX12_column_345 (by decide) ?_
      refine lv_istore_n (lv' := [(1, .int ((wS (rS y0 0) 0) / 100)), (0, .ref y0)]) hx hb dX12_column_346 rfl hl (by decide) rfl (fun ls hl => ?_)
      refine lv_aload_n hx hb dX12_column_347 rfl (lv_at hl 1 rfl) ?_
      refine g_get X dX12_column_348 f_X12_9 (hB.one (k := 4) hky0 rfl) 0 (v := .ref (rS y0 0)) rfl rfl ?_
      have k7 : tS (rS y0 0) = 1 := (hB.wtk hky0).1
      refine lv_iconst (v := 0) hx hb dX12_column_351 (by decide) ?_
      refine lv_dup2_11 hx hb dX12_column_352 rfl rfl ?_
      refine g_iald X dX12_column_353 (hB.one (k := 1) k7 rfl) 0 rfl (by unfold vp_in; decide) (k := 0) (by decide) ?_
      refine lv_iload_n hx hb dX12_column_354 rfl (lv_at hl 0 rfl) ?_
      refine lv_isub hx hb dX12_column_355 ?_
      refine g_iast X dX12_column_356 (hB.one (k := 1) k7 rfl) hS 0 rfl (by unfold vp_in; decide) (k := 0) (by decide) (fun H locs hb9 oq hS => ?_)
      have hB := hB.putB k7 rfl hb9 oq
      obtain ⟨wS8, ewS8⟩ : ∃ z : Dt, z = up2 wS (rS y0 0) 0 ((wS (rS y0 0) 0) - ((wS (rS y0 0) 0) / 100)) := ⟨_, rfl⟩
      rw [← ewS8] at hB
      have hw := hw wS8 ewS8
      refine lv_aload_n hx hb dX12_column_357 rfl (lv_at hl 1 rfl) ?_
      refine lv_dup hx hb dX12_column_358 rfl ?_
      refine g_get X dX12_column_359 f_X12_50 (hB.one (k := 4) hky0 rfl) 0 (v := .int (wS8 y0 4)) rfl rfl ?_
      refine lv_iload_n hx hb dX12_column_362 rfl (lv_at hl 0 rfl) ?_
      refine lv_iadd hx hb dX12_column_363 ?_
      refine g_puti X dX12_column_364 f_X12_50 (hB.one (k := 4) hky0 rfl) hS 0 rfl (x := ((wS8 y0 4) + ((wS (rS y0 0) 0) / 100))) rfl rfl rfl (fun H locs hb9 oq hS => ?_)
      have hB := hB.putB hky0 rfl hb9 oq
      obtain ⟨wS9, ewS9⟩ : ∃ z : Dt, z = up2 wS8 y0 4 ((wS8 y0 4) + ((wS (rS y0 0) 0) / 100)) := ⟨_, rfl⟩
      rw [← ewS9] at hB
      have hw := hw wS9 ewS9
      exact e_v X hr dX12_column_367 hS (wS9) rfl hw hB ⟨Nat.le_of_ble_eq_true rfl, Nat.le_of_ble_eq_true rfl⟩
    · have hw := hw.2 c5
      refine lv_aload_n hx hb dX12_column_194 rfl (lv_at hl 0 rfl) ?_
      refine g_get X dX12_column_195 f_X12_9 (hB.one (k := 4) hky0 rfl) 0 (v := .ref (rS y0 0)) rfl rfl ?_
      have k10 : tS (rS y0 0) = 1 := (hB.wtk hky0).1
      refine lv_iload_n hx hb dX12_column_198 rfl (lv_at hl 1 rfl) ?_
      refine lv_iconst (v := 1) hx hb dX12_column_199 (by decide) ?_
      refine lv_iadd hx hb dX12_column_200 ?_
      obtain ⟨o11, hw⟩ := hw
      refine g_iald X dX12_column_201 (hB.one (k := 1) k10 rfl) 0 rfl o11 rfl ?_
      refine lv_aload_n hx hb dX12_column_202 rfl (lv_at hl 0 rfl) ?_
      refine g_get X dX12_column_203 f_X12_9 (hB.one (k := 4) hky0 rfl) 0 (v := .ref (rS y0 0)) rfl rfl ?_
      have k12 : tS (rS y0 0) = 1 := (hB.wtk hky0).1
      refine lv_iload_n hx hb dX12_column_206 rfl (lv_at hl 1 rfl) ?_
      obtain ⟨o13, hw⟩ := hw
      refine g_iald X dX12_column_207 (hB.one (k := 1) k12 rfl) 0 rfl o13 rfl ?_
      refine lv_isub hx hb dX12_column_208 ?_
      refine lv_bipush (v := 25) hx hb dX12_column_209 (by decide) ?_
      refine lv_isub hx hb dX12_column_211 ?_
      refine lv_topi (fun v14 ev14 => ?_)
      have hw := hw v14 ev14
      refine lv_istore_n (lv' := [(2, .int v14), (0, .ref y0), (1, .int y1)]) hx hb dX12_column_212 rfl hl (by decide) rfl (fun ls hl => ?_)
      refine lv_iload_n hx hb dX12_column_213 rfl (lv_at hl 0 rfl) ?_
      refine lv_if_le (tgt := 331) hx hb dX12_column_214 (by decide) (fun c15 => ?_) (fun c15 => ?_)
      · have hw := hw.1 c15
        exact t_X12_column_331 X hr hT hA0 ih y0 y1 wS _ _ _ hw hB hky0 hS (lv_sub hl [1, 2] rfl)
      · have hw := hw.2 c15
        refine lv_iload_n hx hb dX12_column_217 rfl (lv_at hl 0 rfl) ?_
        refine lv_aload_n hx hb dX12_column_218 rfl (lv_at hl 1 rfl) ?_
        refine lv_iload_n hx hb dX12_column_219 rfl (lv_at hl 2 rfl) ?_
        refine lv_iconst (v := 1) hx hb dX12_column_220 (by decide) ?_
        refine lv_iadd hx hb dX12_column_221 ?_
        refine g_after (st0 := [.int (y1 + 1), .ref y0, .int v14]) (rest := [.int v14]) (g_V X m_X12_122 (c_X12_weight l D tc h0 sa y0 (y1 + 1) _ hB hky0 hw) (recv1 X.2.2.2.2.1 rfl (hB.at (k := 4) hky0 rfl)) hT hS hA0 dX12_column_222 hl.1 rfl rfl ⟨Nat.le_of_ble_eq_true rfl, Nat.le_of_ble_eq_true rfl⟩ (Nat.le_of_ble_eq_true rfl) ⟨Nat.le_of_ble_eq_true rfl, Nat.le_of_ble_eq_true rfl⟩) hS (fun _ h => h.elim) (fun u => .int u :: [.int v14]) (fun _ => rfl) (fun u H9 locs hw hP9 hz9 hk9 hS => ?_)
        obtain ⟨r16, rfl⟩ : ∃ z, z = u := ⟨_, rfl⟩
        try dsimp only at hw hP9
        have e9 : H9 = _ := hP9
        rw [e9] at hS ⊢
        refine lv_sipush (v := 1000) hx hb dX12_column_225 (by decide) ?_
        refine lv_idiv hx hb dX12_column_228 (by decide) ?_
        refine lv_aload_n hx hb dX12_column_229 rfl (lv_at hl 1 rfl) ?_
        refine lv_iload_n hx hb dX12_column_230 rfl (lv_at hl 2 rfl) ?_
        refine g_after (st0 := [.int y1, .ref y0, .int (r16 / 1000), .int v14]) (rest := [.int (r16 / 1000), .int v14]) (g_V X m_X12_122 (c_X12_weight l D tc h0 sa y0 y1 _ hB hky0 hw) (recv1 X.2.2.2.2.1 rfl (hB.at (k := 4) hky0 rfl)) hT hS hA0 dX12_column_231 hl.1 rfl rfl ⟨Nat.le_of_ble_eq_true rfl, Nat.le_of_ble_eq_true rfl⟩ (Nat.le_of_ble_eq_true rfl) ⟨Nat.le_of_ble_eq_true rfl, Nat.le_of_ble_eq_true rfl⟩) hS (fun _ h => h.elim) (fun u => .int u :: [.int (r16 / 1000), .int v14]) (fun _ => rfl) (fun u H9 locs hw hP9 hz9 hk9 hS => ?_)
        obtain ⟨r17, rfl⟩ : ∃ z, z = u := ⟨_, rfl⟩
        try dsimp only at hw hP9
        have e9 : H9 = _ := hP9
        rw [e9] at hS ⊢
        refine lv_sipush (v := 1000) hx hb dX12_column_234 (by decide) ?_
        refine lv_idiv hx hb dX12_column_237 (by decide) ?_
        refine lv_isub hx hb dX12_column_238 ?_
        refine lv_icmp_le (tgt := 331) hx hb dX12_column_239 (by decide) (fun c18 => ?_) (fun c18 => ?_)
        · have hw := hw.1 c18
          exact t_X12_column_331 X hr hT hA0 ih y0 y1 wS _ _ _ hw hB hky0 hS (lv_sub hl [1, 2] rfl)
        · have hw := hw.2 c18
          refine lv_iload_n hx hb dX12_column_242 rfl (lv_at hl 0 rfl) ?_
          refine lv_iconst (v := 1) hx hb dX12_column_243 (by decide) ?_
          refine lv_iadd hx hb dX12_column_244 ?_
          refine lv_iconst (v := 2) hx hb dX12_column_245 (by decide) ?_
          refine lv_idiv hx hb dX12_column_246 (by decide) ?_
          refine lv_istore_n (lv' := [(3, .int ((v14 + 1) / 2)), (2, .int v14), (0, .ref y0), (1, .int y1)]) hx hb dX12_column_247 rfl hl (by decide) rfl (fun ls hl => ?_)
          refine lv_aload_n hx hb dX12_column_248 rfl (lv_at hl 2 rfl) ?_
          refine g_get X dX12_column_249 f_X12_9 (hB.one (k := 4) hky0 rfl) 0 (v := .ref (rS y0 0)) rfl rfl ?_
          have k19 : tS (rS y0 0) = 1 := (hB.wtk hky0).1
          refine lv_iload_n hx hb dX12_column_252 rfl (lv_at hl 3 rfl) ?_
          refine lv_iconst (v := 1) hx hb dX12_column_253 (by decide) ?_
          refine lv_iadd hx hb dX12_column_254 ?_
          refine lv_dup2_11 hx hb dX12_column_255 rfl rfl ?_
          refine g_iald X dX12_column_256 (hB.one (k := 1) k19 rfl) 0 rfl o11 rfl ?_
          refine lv_iload_n hx hb dX12_column_257 rfl (lv_at hl 0 rfl) ?_
          refine lv_isub hx hb dX12_column_258 ?_
          refine g_iast X dX12_column_259 (hB.one (k := 1) k19 rfl) hS 0 rfl o11 rfl (fun H locs hb9 oq hS => ?_)
          have hB := hB.putB k19 rfl hb9 oq
          obtain ⟨wS20, ewS20⟩ : ∃ z : Dt, z = up2 wS (rS y0 0) (y1 + 1).toNatClampNeg ((wS (rS y0 0) (y1 + 1).toNatClampNeg) - ((v14 + 1) / 2)) := ⟨_, rfl⟩
          rw [← ewS20] at hB
          have hw := hw wS20 ewS20
          refine lv_aload_n hx hb dX12_column_260 rfl (lv_at hl 2 rfl) ?_
          refine g_get X dX12_column_261 f_X12_9 (hB.one (k := 4) hky0 rfl) 0 (v := .ref (rS y0 0)) rfl rfl ?_
          have k21 : tS (rS y0 0) = 1 := (hB.wtk hky0).1
          refine lv_iload_n hx hb dX12_column_264 rfl (lv_at hl 3 rfl) ?_
          refine lv_dup2_11 hx hb dX12_column_265 rfl rfl ?_
          refine g_iald X dX12_column_266 (hB.one (k := 1) k21 rfl) 0 rfl o13 rfl ?_
          refine lv_iload_n hx hb dX12_column_267 rfl (lv_at hl 0 rfl) ?_
          refine lv_iadd hx hb dX12_column_268 ?_
          refine g_iast X dX12_column_269 (hB.one (k := 1) k21 rfl) hS 0 rfl o13 rfl (fun H locs hb9 oq hS => ?_)
          have hB := hB.putB k21 rfl hb9 oq
          obtain ⟨wS22, ewS22⟩ : ∃ z : Dt, z = up2 wS20 (rS y0 0) y1.toNatClampNeg ((wS20 (rS y0 0) y1.toNatClampNeg) + ((v14 + 1) / 2)) := ⟨_, rfl⟩
          rw [← ewS22] at hB
          have hw := hw wS22 ewS22
          refine lv_iconst (v := 0) hx hb dX12_column_270 (by decide) ?_
          refine lv_istore (lv' := [(4, .int 0), (3, .int ((v14 + 1) / 2)), (2, .int v14), (0, .ref y0), (1, .int y1)]) hx hb dX12_column_271 hl (by decide) rfl (fun ls hl => ?_)
          obtain ⟨k9, hw⟩ := hw
          exact t_X12_column_273 X hr hT hA0 ih k9 y0 y1 0 wS22 _ _ _ hw hB hky0 hS (lv_sub hl [3, 4, 0] rfl)
def wp_X12_column_131 (post : Dt → Prop) (tS : Nat → Nat) (nS : Nat → Nat) (rS : Nat → Nat → Nat) (K125 : Nat → Int32 → (Dt) → Prop) : Nat → (Nat) → (Int32) → (Int32) → (Dt) → Prop
  | 0, _, _, _, _ => False
  | n9 + 1, y0, y1, y2, wS => (3 ≤ y2 → K125 y0 (y1 + (-1)) wS) ∧ (¬ 3 ≤ y2 → vp_in y1 10 ∧ (vp_in y2 3 ∧ (∀ v41 : Int32, v41 = (((wS (rS (rS y0 2) y1.toNatClampNeg) y2.toNatClampNeg) + 1) / 2) → (∀ wS44 : Dt, wS44 = up2 wS (rS (rS y0 2) y1.toNatClampNeg) y2.toNatClampNeg ((wS (rS (rS y0 2) y1.toNatClampNeg) y2.toNatClampNeg) - v41) → (vp_in (y1 + 1) 10 ∧ (∀ wS48 : Dt, wS48 = up2 wS44 (rS (rS y0 2) (y1 + 1).toNatClampNeg) y2.toNatClampNeg ((wS44 (rS (rS y0 2) (y1 + 1).toNatClampNeg) y2.toNatClampNeg) + v41) → (wp_X12_column_131 post tS nS rS K125 n9 y0 y1 (y2 + 1) wS48)))))))
set_option maxHeartbeats 4000000 in
set_option maxRecDepth 100000 in
theorem t_X12_column_131 : ∀ {p : Program} {l : Launch} {e : Env} {s : State} {m : MethodId} {args : Array Value} {below : List Frame} {meth : Method} {c : Code} {D : va_G} {tc : Nat → ClassId} {h0 : Nat} {sa : Nat → Nat} {A : Nat → Prop} {post : Dt → Prop} {tS : Nat → Nat} {nS : Nat → Nat} {rS : Nat → Nat → Nat} {K125 : Nat → Int32 → (Dt) → Prop} (X : Cx p c s m meth cX12_column 6 RX12 D tc) (hr : meth.sig.returnType = (Option.none : Option FieldType)) (hT : ST h0 sa s s.heap) (hA0 : ∀ q, A q → h0 ≤ q) (hK125 : ∀ (y0 : Nat) (y1 : Int32) (wS : Dt) (H : Heap) (locs : List Loc) (ls : Array Slot), K125 y0 y1 wS → SB D tc (sa 3) A tS nS rS wS H → (tS y0 = 4) → va_S A s.heap H locs → lv_has ls 6 [(0, .ref y0), (1, .int y1)] → W p l e rm_X12_column s m args below meth c H locs 0 0 (MQ below (QB post (fun (u : Dt) (H1 : Heap) => SB D tc (sa 3) A tS nS rS u H1) (fun _ : Dt => none) A) args s rm_X12_column.cells rm_X12_column.slots A) (F0 m 125 ls [])) (n9 : Nat), ∀ (y0 : Nat) (y1 : Int32) (y2 : Int32) (wS : Dt) (H : Heap) (locs : List Loc) (ls : Array Slot), wp_X12_column_131 post tS nS rS K125 n9 y0 y1 y2 wS → SB D tc (sa 3) A tS nS rS wS H → (tS y0 = 4) → va_S A s.heap H locs → lv_has ls 6 [(0, .ref y0), (1, .int y1), (2, .int y2)] → W p l e rm_X12_column s m args below meth c H locs 0 0 (MQ below (QB post (fun (u : Dt) (H1 : Heap) => SB D tc (sa 3) A tS nS rS u H1) (fun _ : Dt => none) A) args s rm_X12_column.cells rm_X12_column.slots A) (F0 m 131 ls []) := by
  intro p l e s m args below meth c D tc h0 sa A post tS nS rS K125 X hr hT hA0 hK125 n9
  have hx := X.1
  have hb := X.2.1
  have hown := X.2.2.2.1
  have hU := X.2.2.2.2.1.1
  induction n9 with
  | zero =>
    intro  y0 y1 y2 wS H locs ls hw
    exact hw.elim
  | succ n9 ih =>
    intro  y0 y1 y2 wS H locs ls hw hB hky0 hS hl
    unfold wp_X12_column_131 at hw
    refine lv_iload_n hx hb dX12_column_131 rfl (lv_at hl 2 rfl) ?_
    refine lv_iconst (v := 3) hx hb dX12_column_132 (by decide) ?_
    refine lv_icmp_ge (tgt := 181) hx hb dX12_column_133 (by decide) (fun c36 => ?_) (fun c36 => ?_)
    · have hw := hw.1 c36
      refine lv_iinc (lv' := [(1, .int (y1 + (-1))), (0, .ref y0), (2, .int y2)]) hx hb dX12_column_181 hl (k := 1) rfl (by rfl) (by decide) rfl (fun ls hl => ?_)
      refine lv_goto (tgt := 125) hx hb dX12_column_184 (by decide) ?_
      exact hK125 y0 (y1 + (-1)) wS _ _ _ hw hB hky0 hS (lv_sub hl [1, 0] rfl)
    · have hw := hw.2 c36
      refine lv_aload_n hx hb dX12_column_136 rfl (lv_at hl 0 rfl) ?_
      refine g_get X dX12_column_137 f_X12_20 (hB.one (k := 4) hky0 rfl) 0 (v := .ref (rS y0 2)) rfl rfl ?_
      have k37 : tS (rS y0 2) = 2 := (hB.wtk hky0).2.2.1
      refine lv_iload_n hx hb dX12_column_140 rfl (lv_at hl 1 rfl) ?_
      obtain ⟨o38, hw⟩ := hw
      refine g_aaldA X dX12_column_141 (hB.one (k := 2) k37 rfl) 0 rfl o38 (v := .ref (rS (rS y0 2) y1.toNatClampNeg)) (row_at (lt10 o38)) ?_
      have k39 : tS (rS (rS y0 2) y1.toNatClampNeg) = 23 := (hB.wtk k37) _ (lt10 o38)
      refine lv_iload_n hx hb dX12_column_142 rfl (lv_at hl 2 rfl) ?_
      obtain ⟨o40, hw⟩ := hw
      refine g_iald X dX12_column_143 (hB.one (k := 23) k39 rfl) 0 rfl o40 rfl ?_
      refine lv_iconst (v := 1) hx hb dX12_column_144 (by decide) ?_
      refine lv_iadd hx hb dX12_column_145 ?_
      refine lv_iconst (v := 2) hx hb dX12_column_146 (by decide) ?_
      refine lv_idiv hx hb dX12_column_147 (by decide) ?_
      refine lv_topi (fun v41 ev41 => ?_)
      have hw := hw v41 ev41
      refine lv_istore_n (lv' := [(3, .int v41), (0, .ref y0), (1, .int y1), (2, .int y2)]) hx hb dX12_column_148 rfl hl (by decide) rfl (fun ls hl => ?_)
      refine lv_aload_n hx hb dX12_column_149 rfl (lv_at hl 1 rfl) ?_
      refine g_get X dX12_column_150 f_X12_20 (hB.one (k := 4) hky0 rfl) 0 (v := .ref (rS y0 2)) rfl rfl ?_
      have k42 : tS (rS y0 2) = 2 := (hB.wtk hky0).2.2.1
      refine lv_iload_n hx hb dX12_column_153 rfl (lv_at hl 2 rfl) ?_
      refine g_aaldA X dX12_column_154 (hB.one (k := 2) k42 rfl) 0 rfl o38 (v := .ref (rS (rS y0 2) y1.toNatClampNeg)) (row_at (lt10 o38)) ?_
      have k43 : tS (rS (rS y0 2) y1.toNatClampNeg) = 23 := (hB.wtk k42) _ (lt10 o38)
      refine lv_iload_n hx hb dX12_column_155 rfl (lv_at hl 3 rfl) ?_
      refine lv_dup2_11 hx hb dX12_column_156 rfl rfl ?_
      refine g_iald X dX12_column_157 (hB.one (k := 23) k43 rfl) 0 rfl o40 rfl ?_
      refine lv_iload_n hx hb dX12_column_158 rfl (lv_at hl 0 rfl) ?_
      refine lv_isub hx hb dX12_column_159 ?_
      refine g_iast X dX12_column_160 (hB.one (k := 23) k43 rfl) hS 0 rfl o40 rfl (fun H locs hb9 oq hS => ?_)
      have hB := hB.putB k43 rfl hb9 oq
      obtain ⟨wS44, ewS44⟩ : ∃ z : Dt, z = up2 wS (rS (rS y0 2) y1.toNatClampNeg) y2.toNatClampNeg ((wS (rS (rS y0 2) y1.toNatClampNeg) y2.toNatClampNeg) - v41) := ⟨_, rfl⟩
      rw [← ewS44] at hB
      have hw := hw wS44 ewS44
      refine lv_aload_n hx hb dX12_column_161 rfl (lv_at hl 1 rfl) ?_
      refine g_get X dX12_column_162 f_X12_20 (hB.one (k := 4) hky0 rfl) 0 (v := .ref (rS y0 2)) rfl rfl ?_
      have k45 : tS (rS y0 2) = 2 := (hB.wtk hky0).2.2.1
      refine lv_iload_n hx hb dX12_column_165 rfl (lv_at hl 2 rfl) ?_
      refine lv_iconst (v := 1) hx hb dX12_column_166 (by decide) ?_
      refine lv_iadd hx hb dX12_column_167 ?_
      obtain ⟨o46, hw⟩ := hw
      refine g_aaldA X dX12_column_168 (hB.one (k := 2) k45 rfl) 0 rfl o46 (v := .ref (rS (rS y0 2) (y1 + 1).toNatClampNeg)) (row_at (lt10 o46)) ?_
      have k47 : tS (rS (rS y0 2) (y1 + 1).toNatClampNeg) = 23 := (hB.wtk k45) _ (lt10 o46)
      refine lv_iload_n hx hb dX12_column_169 rfl (lv_at hl 3 rfl) ?_
      refine lv_dup2_11 hx hb dX12_column_170 rfl rfl ?_
      refine g_iald X dX12_column_171 (hB.one (k := 23) k47 rfl) 0 rfl o40 rfl ?_
      refine lv_iload_n hx hb dX12_column_172 rfl (lv_at hl 0 rfl) ?_
      refine lv_iadd hx hb dX12_column_173 ?_
      refine g_iast X dX12_column_174 (hB.one (k := 23) k47 rfl) hS 0 rfl o40 rfl (fun H locs hb9 oq hS => ?_)
      have hB := hB.putB k47 rfl hb9 oq
      obtain ⟨wS48, ewS48⟩ : ∃ z : Dt, z = up2 wS44 (rS (rS y0 2) (y1 + 1).toNatClampNeg) y2.toNatClampNeg ((wS44 (rS (rS y0 2) (y1 + 1).toNatClampNeg) y2.toNatClampNeg) + v41) := ⟨_, rfl⟩
      rw [← ewS48] at hB
      have hw := hw wS48 ewS48
      refine lv_iinc (lv' := [(2, .int (y2 + 1)), (3, .int v41), (0, .ref y0), (1, .int y1)]) hx hb dX12_column_175 hl (k := 3) rfl (by rfl) (by decide) rfl (fun ls hl => ?_)
      refine lv_goto (tgt := 131) hx hb dX12_column_178 (by decide) ?_
      exact ih y0 y1 (y2 + 1) wS48 _ _ _ hw hB hky0 hS (lv_sub hl [2, 3, 0] rfl)
def wp_X12_column_125 (post : Dt → Prop) (tS : Nat → Nat) (nS : Nat → Nat) (rS : Nat → Nat → Nat)  : Nat → (Nat) → (Int32) → (Dt) → Prop
  | 0, _, _, _ => False
  | n9 + 1, y0, y1, wS => (y1 < 0 → ∃ k9 : Nat, wp_X12_column_190 post tS nS rS  k9 y0 8 wS) ∧ (¬ y1 < 0 → ∃ k9 : Nat, wp_X12_column_131 post tS nS rS (fun a0 a1 a2 => wp_X12_column_125 post tS nS rS  n9 a0 a1 a2) k9 y0 y1 0 wS)
set_option maxHeartbeats 4000000 in
set_option maxRecDepth 100000 in
theorem t_X12_column_125 : ∀ {p : Program} {l : Launch} {e : Env} {s : State} {m : MethodId} {args : Array Value} {below : List Frame} {meth : Method} {c : Code} {D : va_G} {tc : Nat → ClassId} {h0 : Nat} {sa : Nat → Nat} {A : Nat → Prop} {post : Dt → Prop} {tS : Nat → Nat} {nS : Nat → Nat} {rS : Nat → Nat → Nat}  (X : Cx p c s m meth cX12_column 6 RX12 D tc) (hr : meth.sig.returnType = (Option.none : Option FieldType)) (hT : ST h0 sa s s.heap) (hA0 : ∀ q, A q → h0 ≤ q)  (n9 : Nat), ∀ (y0 : Nat) (y1 : Int32) (wS : Dt) (H : Heap) (locs : List Loc) (ls : Array Slot), wp_X12_column_125 post tS nS rS  n9 y0 y1 wS → SB D tc (sa 3) A tS nS rS wS H → (tS y0 = 4) → va_S A s.heap H locs → lv_has ls 6 [(0, .ref y0), (1, .int y1)] → W p l e rm_X12_column s m args below meth c H locs 0 0 (MQ below (QB post (fun (u : Dt) (H1 : Heap) => SB D tc (sa 3) A tS nS rS u H1) (fun _ : Dt => none) A) args s rm_X12_column.cells rm_X12_column.slots A) (F0 m 125 ls []) := by
  intro p l e s m args below meth c D tc h0 sa A post tS nS rS  X hr hT hA0  n9
  have hx := X.1
  have hb := X.2.1
  have hown := X.2.2.2.1
  have hU := X.2.2.2.2.1.1
  induction n9 with
  | zero =>
    intro  y0 y1 wS H locs ls hw
    exact hw.elim
  | succ n9 ih =>
    intro  y0 y1 wS H locs ls hw hB hky0 hS hl
    unfold wp_X12_column_125 at hw
    refine lv_iload_n hx hb dX12_column_125 rfl (lv_at hl 1 rfl) ?_
    refine lv_if_lt (tgt := 187) hx hb dX12_column_126 (by decide) (fun c4 => ?_) (fun c4 => ?_)
    · have hw := hw.1 c4
      refine lv_bipush (v := 8) hx hb dX12_column_187 (by decide) ?_
      refine lv_istore_n (lv' := [(1, .int 8), (0, .ref y0)]) hx hb dX12_column_189 rfl hl (by decide) rfl (fun ls hl => ?_)
      obtain ⟨k9, hw⟩ := hw
      exact t_X12_column_190 X hr hT hA0  k9 y0 8 wS _ _ _ hw hB hky0 hS (lv_sub hl [1, 0] rfl)
    · have hw := hw.2 c4
      refine lv_iconst (v := 0) hx hb dX12_column_129 (by decide) ?_
      refine lv_istore_n (lv' := [(2, .int 0), (0, .ref y0), (1, .int y1)]) hx hb dX12_column_130 rfl hl (by decide) rfl (fun ls hl => ?_)
      obtain ⟨k9, hw⟩ := hw
      exact t_X12_column_131 X hr hT hA0 ih k9 y0 y1 0 wS _ _ _ hw hB hky0 hS (lv_sub hl [1, 2, 0] rfl)
def wp_X12_column_82 (post : Dt → Prop) (tS : Nat → Nat) (nS : Nat → Nat) (rS : Nat → Nat → Nat) (K16 : Nat → Int32 → (Dt) → Prop) (K24 : Nat → Int32 → Int32 → (Dt) → Prop) (y0 : Nat) (y1 : Int32) (y2 : Int32) (z0 : Int32) (wS : Dt) : Prop := vp_in y1 10 ∧ (vp_in y2 3 ∧ (∀ wS64 : Dt, wS64 = up2 wS (rS (rS y0 1) y1.toNatClampNeg) y2.toNatClampNeg ((wS (rS (rS y0 1) y1.toNatClampNeg) y2.toNatClampNeg) + z0) → (∀ wS67 : Dt, wS67 = up2 wS64 (rS (rS y0 2) y1.toNatClampNeg) y2.toNatClampNeg ((wS64 (rS (rS y0 2) y1.toNatClampNeg) y2.toNatClampNeg) - z0) → (K24 y0 y1 (y2 + 1) wS67))))
set_option maxHeartbeats 4000000 in
set_option maxRecDepth 100000 in
theorem t_X12_column_82 : ∀ {p : Program} {l : Launch} {e : Env} {s : State} {m : MethodId} {args : Array Value} {below : List Frame} {meth : Method} {c : Code} {D : va_G} {tc : Nat → ClassId} {h0 : Nat} {sa : Nat → Nat} {A : Nat → Prop} {post : Dt → Prop} {tS : Nat → Nat} {nS : Nat → Nat} {rS : Nat → Nat → Nat} {K16 : Nat → Int32 → (Dt) → Prop} {K24 : Nat → Int32 → Int32 → (Dt) → Prop} (X : Cx p c s m meth cX12_column 6 RX12 D tc) (hr : meth.sig.returnType = (Option.none : Option FieldType)) (hT : ST h0 sa s s.heap) (hA0 : ∀ q, A q → h0 ≤ q) (hK16 : ∀ (y0 : Nat) (y1 : Int32) (wS : Dt) (H : Heap) (locs : List Loc) (ls : Array Slot), K16 y0 y1 wS → SB D tc (sa 3) A tS nS rS wS H → (tS y0 = 4) → va_S A s.heap H locs → lv_has ls 6 [(0, .ref y0), (1, .int y1)] → W p l e rm_X12_column s m args below meth c H locs 0 0 (MQ below (QB post (fun (u : Dt) (H1 : Heap) => SB D tc (sa 3) A tS nS rS u H1) (fun _ : Dt => none) A) args s rm_X12_column.cells rm_X12_column.slots A) (F0 m 16 ls [])) (hK24 : ∀ (y0 : Nat) (y1 : Int32) (y2 : Int32) (wS : Dt) (H : Heap) (locs : List Loc) (ls : Array Slot), K24 y0 y1 y2 wS → SB D tc (sa 3) A tS nS rS wS H → (tS y0 = 4) → va_S A s.heap H locs → lv_has ls 6 [(0, .ref y0), (1, .int y1), (2, .int y2)] → W p l e rm_X12_column s m args below meth c H locs 0 0 (MQ below (QB post (fun (u : Dt) (H1 : Heap) => SB D tc (sa 3) A tS nS rS u H1) (fun _ : Dt => none) A) args s rm_X12_column.cells rm_X12_column.slots A) (F0 m 24 ls [])), ∀ (y0 : Nat) (y1 : Int32) (y2 : Int32) (z0 : Int32) (wS : Dt) (H : Heap) (locs : List Loc) (ls : Array Slot), wp_X12_column_82 post tS nS rS K16 K24 y0 y1 y2 z0 wS → SB D tc (sa 3) A tS nS rS wS H → (tS y0 = 4) → va_S A s.heap H locs → lv_has ls 6 [(0, .ref y0), (1, .int y1), (2, .int y2)] → W p l e rm_X12_column s m args below meth c H locs 0 0 (MQ below (QB post (fun (u : Dt) (H1 : Heap) => SB D tc (sa 3) A tS nS rS u H1) (fun _ : Dt => none) A) args s rm_X12_column.cells rm_X12_column.slots A) (F0 m 82 ls [.int z0]) := by
  intro p l e s m args below meth c D tc h0 sa A post tS nS rS K16 K24 X hr hT hA0 hK16 hK24  y0 y1 y2 z0 wS H locs ls hw hB hky0 hS hl
  have hx := X.1
  have hb := X.2.1
  have hown := X.2.2.2.1
  have hU := X.2.2.2.2.1.1
  unfold wp_X12_column_82 at hw
  refine lv_istore (lv' := [(4, .int z0), (0, .ref y0), (1, .int y1), (2, .int y2)]) hx hb dX12_column_82 hl (by decide) rfl (fun ls hl => ?_)
  refine lv_aload_n hx hb dX12_column_84 rfl (lv_at hl 1 rfl) ?_
  refine g_get X dX12_column_85 f_X12_17 (hB.one (k := 4) hky0 rfl) 0 (v := .ref (rS y0 1)) rfl rfl ?_
  have k60 : tS (rS y0 1) = 2 := (hB.wtk hky0).2.1
  refine lv_iload_n hx hb dX12_column_88 rfl (lv_at hl 2 rfl) ?_
  obtain ⟨o61, hw⟩ := hw
  refine g_aaldA X dX12_column_89 (hB.one (k := 2) k60 rfl) 0 rfl o61 (v := .ref (rS (rS y0 1) y1.toNatClampNeg)) (row_at (lt10 o61)) ?_
  have k62 : tS (rS (rS y0 1) y1.toNatClampNeg) = 23 := (hB.wtk k60) _ (lt10 o61)
  refine lv_iload_n hx hb dX12_column_90 rfl (lv_at hl 3 rfl) ?_
  refine lv_dup2_11 hx hb dX12_column_91 rfl rfl ?_
  obtain ⟨o63, hw⟩ := hw
  refine g_iald X dX12_column_92 (hB.one (k := 23) k62 rfl) 0 rfl o63 rfl ?_
  refine lv_iload hx hb dX12_column_93 (lv_at hl 0 rfl) ?_
  refine lv_iadd hx hb dX12_column_95 ?_
  refine g_iast X dX12_column_96 (hB.one (k := 23) k62 rfl) hS 0 rfl o63 rfl (fun H locs hb9 oq hS => ?_)
  have hB := hB.putB k62 rfl hb9 oq
  obtain ⟨wS64, ewS64⟩ : ∃ z : Dt, z = up2 wS (rS (rS y0 1) y1.toNatClampNeg) y2.toNatClampNeg ((wS (rS (rS y0 1) y1.toNatClampNeg) y2.toNatClampNeg) + z0) := ⟨_, rfl⟩
  rw [← ewS64] at hB
  have hw := hw wS64 ewS64
  refine lv_aload_n hx hb dX12_column_97 rfl (lv_at hl 1 rfl) ?_
  refine g_get X dX12_column_98 f_X12_20 (hB.one (k := 4) hky0 rfl) 0 (v := .ref (rS y0 2)) rfl rfl ?_
  have k65 : tS (rS y0 2) = 2 := (hB.wtk hky0).2.2.1
  refine lv_iload_n hx hb dX12_column_101 rfl (lv_at hl 2 rfl) ?_
  refine g_aaldA X dX12_column_102 (hB.one (k := 2) k65 rfl) 0 rfl o61 (v := .ref (rS (rS y0 2) y1.toNatClampNeg)) (row_at (lt10 o61)) ?_
  have k66 : tS (rS (rS y0 2) y1.toNatClampNeg) = 23 := (hB.wtk k65) _ (lt10 o61)
  refine lv_iload_n hx hb dX12_column_103 rfl (lv_at hl 3 rfl) ?_
  refine lv_dup2_11 hx hb dX12_column_104 rfl rfl ?_
  refine g_iald X dX12_column_105 (hB.one (k := 23) k66 rfl) 0 rfl o63 rfl ?_
  refine lv_iload hx hb dX12_column_106 (lv_at hl 0 rfl) ?_
  refine lv_isub hx hb dX12_column_108 ?_
  refine g_iast X dX12_column_109 (hB.one (k := 23) k66 rfl) hS 0 rfl o63 rfl (fun H locs hb9 oq hS => ?_)
  have hB := hB.putB k66 rfl hb9 oq
  obtain ⟨wS67, ewS67⟩ : ∃ z : Dt, z = up2 wS64 (rS (rS y0 2) y1.toNatClampNeg) y2.toNatClampNeg ((wS64 (rS (rS y0 2) y1.toNatClampNeg) y2.toNatClampNeg) - z0) := ⟨_, rfl⟩
  rw [← ewS67] at hB
  have hw := hw wS67 ewS67
  refine lv_iinc (lv' := [(2, .int (y2 + 1)), (4, .int z0), (0, .ref y0), (1, .int y1)]) hx hb dX12_column_110 hl (k := 3) rfl (by rfl) (by decide) rfl (fun ls hl => ?_)
  refine lv_goto (tgt := 24) hx hb dX12_column_113 (by decide) ?_
  exact hK24 y0 y1 (y2 + 1) wS67 _ _ _ hw hB hky0 hS (lv_sub hl [2, 3, 0] rfl)
def wp_X12_column_24 (post : Dt → Prop) (tS : Nat → Nat) (nS : Nat → Nat) (rS : Nat → Nat → Nat) (K16 : Nat → Int32 → (Dt) → Prop) : Nat → (Nat) → (Int32) → (Int32) → (Dt) → Prop
  | 0, _, _, _, _ => False
  | n9 + 1, y0, y1, y2, wS => (3 ≤ y2 → K16 y0 (y1 + 1) wS) ∧ (¬ 3 ≤ y2 → wp_X13_holdsEach (fun r50 => vp_in y1 10 ∧ (vp_in y2 3 ∧ (∀ v56 : Int32, v56 = ((if 0 < (r50 * (((wS (rS y0 0) y1.toNatClampNeg) - 120) - (60 * y2))) then (r50 * (((wS (rS y0 0) y1.toNatClampNeg) - 120) - (60 * y2))) else 0) - (wS (rS (rS y0 1) y1.toNatClampNeg) y2.toNatClampNeg)) → ((0 ≤ v56 → wp_X12_column_82 post tS nS rS K16 (fun a0 a1 a2 a3 => wp_X12_column_24 post tS nS rS K16 n9 a0 a1 a2 a3) y0 y1 y2 (if (wS (rS (rS y0 2) y1.toNatClampNeg) y2.toNatClampNeg) < v56 then (wS (rS (rS y0 2) y1.toNatClampNeg) y2.toNatClampNeg) else v56) wS) ∧ (¬ 0 ≤ v56 → wp_X12_column_82 post tS nS rS K16 (fun a0 a1 a2 a3 => wp_X12_column_24 post tS nS rS K16 n9 a0 a1 a2 a3) y0 y1 y2 v56 wS))))) tS nS rS wS y2)
set_option maxHeartbeats 4000000 in
set_option maxRecDepth 100000 in
theorem t_X12_column_24 : ∀ {p : Program} {l : Launch} {e : Env} {s : State} {m : MethodId} {args : Array Value} {below : List Frame} {meth : Method} {c : Code} {D : va_G} {tc : Nat → ClassId} {h0 : Nat} {sa : Nat → Nat} {A : Nat → Prop} {post : Dt → Prop} {tS : Nat → Nat} {nS : Nat → Nat} {rS : Nat → Nat → Nat} {K16 : Nat → Int32 → (Dt) → Prop} (X : Cx p c s m meth cX12_column 6 RX12 D tc) (hr : meth.sig.returnType = (Option.none : Option FieldType)) (hT : ST h0 sa s s.heap) (hA0 : ∀ q, A q → h0 ≤ q) (hK16 : ∀ (y0 : Nat) (y1 : Int32) (wS : Dt) (H : Heap) (locs : List Loc) (ls : Array Slot), K16 y0 y1 wS → SB D tc (sa 3) A tS nS rS wS H → (tS y0 = 4) → va_S A s.heap H locs → lv_has ls 6 [(0, .ref y0), (1, .int y1)] → W p l e rm_X12_column s m args below meth c H locs 0 0 (MQ below (QB post (fun (u : Dt) (H1 : Heap) => SB D tc (sa 3) A tS nS rS u H1) (fun _ : Dt => none) A) args s rm_X12_column.cells rm_X12_column.slots A) (F0 m 16 ls [])) (n9 : Nat), ∀ (y0 : Nat) (y1 : Int32) (y2 : Int32) (wS : Dt) (H : Heap) (locs : List Loc) (ls : Array Slot), wp_X12_column_24 post tS nS rS K16 n9 y0 y1 y2 wS → SB D tc (sa 3) A tS nS rS wS H → (tS y0 = 4) → va_S A s.heap H locs → lv_has ls 6 [(0, .ref y0), (1, .int y1), (2, .int y2)] → W p l e rm_X12_column s m args below meth c H locs 0 0 (MQ below (QB post (fun (u : Dt) (H1 : Heap) => SB D tc (sa 3) A tS nS rS u H1) (fun _ : Dt => none) A) args s rm_X12_column.cells rm_X12_column.slots A) (F0 m 24 ls []) := by
  intro p l e s m args below meth c D tc h0 sa A post tS nS rS K16 X hr hT hA0 hK16 n9
  have hx := X.1
  have hb := X.2.1
  have hown := X.2.2.2.1
  have hU := X.2.2.2.2.1.1
  induction n9 with
  | zero =>
    intro  y0 y1 y2 wS H locs ls hw
    exact hw.elim
  | succ n9 ih =>
    intro  y0 y1 y2 wS H locs ls hw hB hky0 hS hl
    unfold wp_X12_column_24 at hw
    refine lv_iload_n hx hb dX12_column_24 rfl (lv_at hl 2 rfl) ?_
    refine lv_iconst (v := 3) hx hb dX12_column_25 (by decide) ?_
    refine lv_icmp_ge (tgt := 116) hx hb dX12_column_26 (by decide) (fun c49 => ?_) (fun c49 => ?_)
    · have hw := hw.1 c49
      refine lv_iinc (lv' := [(1, .int (y1 + 1)), (0, .ref y0), (2, .int y2)]) hx hb dX12_column_116 hl (k := 1) rfl (by rfl) (by decide) rfl (fun ls hl => ?_)
      refine lv_goto (tgt := 16) hx hb dX12_column_119 (by decide) ?_
      exact hK16 y0 (y1 + 1) wS _ _ _ hw hB hky0 hS (lv_sub hl [1, 0] rfl)
    · have hw := hw.2 c49
      refine lv_iconst (v := 0) hx hb dX12_column_29 (by decide) ?_
      refine lv_iload_n hx hb dX12_column_30 rfl (lv_at hl 2 rfl) ?_
      refine g_after (st0 := [.int y2, .int 0]) (rest := [.int 0]) (g_SN X m_X12_119 (c_X13_holdsEach l D tc h0 sa y2 _ hB  hw) hT hS hA0 dX12_column_31 hl.1 rfl rfl ⟨Nat.le_of_ble_eq_true rfl, Nat.le_of_ble_eq_true rfl⟩ (Nat.le_of_ble_eq_true rfl) ⟨Nat.le_of_ble_eq_true rfl, Nat.le_of_ble_eq_true rfl⟩) hS (fun _ h => h.elim) (fun u => .int u :: [.int 0]) (fun _ => rfl) (fun u H9 locs hw hP9 hz9 hk9 hS => ?_)
      obtain ⟨r50, rfl⟩ : ∃ z, z = u := ⟨_, rfl⟩
      try dsimp only at hw hP9
      have e9 : H9 = _ := hP9
      rw [e9] at hS ⊢
      refine lv_aload_n hx hb dX12_column_34 rfl (lv_at hl 0 rfl) ?_
      refine g_get X dX12_column_35 f_X12_9 (hB.one (k := 4) hky0 rfl) 0 (v := .ref (rS y0 0)) rfl rfl ?_
      have k51 : tS (rS y0 0) = 1 := (hB.wtk hky0).1
      refine lv_iload_n hx hb dX12_column_38 rfl (lv_at hl 1 rfl) ?_
      obtain ⟨o52, hw⟩ := hw
      refine g_iald X dX12_column_39 (hB.one (k := 1) k51 rfl) 0 rfl o52 rfl ?_
      refine lv_bipush (v := 120) hx hb dX12_column_40 (by decide) ?_
      refine lv_isub hx hb dX12_column_42 ?_
      refine lv_bipush (v := 60) hx hb dX12_column_43 (by decide) ?_
      refine lv_iload_n hx hb dX12_column_45 rfl (lv_at hl 2 rfl) ?_
      refine lv_imul hx hb dX12_column_46 ?_
      refine lv_isub hx hb dX12_column_47 ?_
      refine lv_imul hx hb dX12_column_48 ?_
      refine g_max X hl.1 dX12_column_49 w_1394 w_604 w_21 w_605 ⟨Nat.le_of_ble_eq_true rfl, Nat.le_of_ble_eq_true rfl, Nat.le_of_ble_eq_true rfl, Nat.le_of_ble_eq_true rfl⟩ ?_
      refine lv_aload_n hx hb dX12_column_52 rfl (lv_at hl 0 rfl) ?_
      refine g_get X dX12_column_53 f_X12_17 (hB.one (k := 4) hky0 rfl) 0 (v := .ref (rS y0 1)) rfl rfl ?_
      have k53 : tS (rS y0 1) = 2 := (hB.wtk hky0).2.1
      refine lv_iload_n hx hb dX12_column_56 rfl (lv_at hl 1 rfl) ?_
      refine g_aaldA X dX12_column_57 (hB.one (k := 2) k53 rfl) 0 rfl o52 (v := .ref (rS (rS y0 1) y1.toNatClampNeg)) (row_at (lt10 o52)) ?_
      have k54 : tS (rS (rS y0 1) y1.toNatClampNeg) = 23 := (hB.wtk k53) _ (lt10 o52)
      refine lv_iload_n hx hb dX12_column_58 rfl (lv_at hl 2 rfl) ?_
      obtain ⟨o55, hw⟩ := hw
      refine g_iald X dX12_column_59 (hB.one (k := 23) k54 rfl) 0 rfl o55 rfl ?_
      refine lv_isub hx hb dX12_column_60 ?_
      refine lv_topi (fun v56 ev56 => ?_)
      have hw := hw v56 ev56
      refine lv_istore_n (lv' := [(3, .int v56), (0, .ref y0), (1, .int y1), (2, .int y2)]) hx hb dX12_column_61 rfl hl (by decide) rfl (fun ls hl => ?_)
      refine lv_iload_n hx hb dX12_column_62 rfl (lv_at hl 0 rfl) ?_
      refine lv_if_ge (tgt := 70) hx hb dX12_column_63 (by decide) (fun c57 => ?_) (fun c57 => ?_)
      · have hw := hw.1 c57
        refine lv_iload_n hx hb dX12_column_70 rfl (lv_at hl 0 rfl) ?_
        refine lv_aload_n hx hb dX12_column_71 rfl (lv_at hl 1 rfl) ?_
        refine g_get X dX12_column_72 f_X12_20 (hB.one (k := 4) hky0 rfl) 0 (v := .ref (rS y0 2)) rfl rfl ?_
        have k58 : tS (rS y0 2) = 2 := (hB.wtk hky0).2.2.1
        refine lv_iload_n hx hb dX12_column_75 rfl (lv_at hl 2 rfl) ?_
        refine g_aaldA X dX12_column_76 (hB.one (k := 2) k58 rfl) 0 rfl o52 (v := .ref (rS (rS y0 2) y1.toNatClampNeg)) (row_at (lt10 o52)) ?_
        have k59 : tS (rS (rS y0 2) y1.toNatClampNeg) = 23 := (hB.wtk k58) _ (lt10 o52)
        refine lv_iload_n hx hb dX12_column_77 rfl (lv_at hl 3 rfl) ?_
        refine g_iald X dX12_column_78 (hB.one (k := 23) k59 rfl) 0 rfl o55 rfl ?_
        refine g_min X hl.1 dX12_column_79 w_1396 w_607 w_21 w_608 ⟨Nat.le_of_ble_eq_true rfl, Nat.le_of_ble_eq_true rfl, Nat.le_of_ble_eq_true rfl, Nat.le_of_ble_eq_true rfl⟩ ?_
        exact t_X12_column_82 X hr hT hA0 hK16 ih y0 y1 y2 (if (wS (rS (rS y0 2) y1.toNatClampNeg) y2.toNatClampNeg) < v56 then (wS (rS (rS y0 2) y1.toNatClampNeg) y2.toNatClampNeg) else v56) wS _ _ _ hw hB hky0 hS (lv_sub hl [1, 2, 3] rfl)
      · have hw := hw.2 c57
        refine lv_iload_n hx hb dX12_column_66 rfl (lv_at hl 0 rfl) ?_
        refine lv_goto (tgt := 82) hx hb dX12_column_67 (by decide) ?_
        exact t_X12_column_82 X hr hT hA0 hK16 ih y0 y1 y2 v56 wS _ _ _ hw hB hky0 hS (lv_sub hl [1, 2, 3] rfl)
def wp_X12_column_16 (post : Dt → Prop) (tS : Nat → Nat) (nS : Nat → Nat) (rS : Nat → Nat → Nat)  : Nat → (Nat) → (Int32) → (Dt) → Prop
  | 0, _, _, _ => False
  | n9 + 1, y0, y1, wS => (10 ≤ y1 → ∃ k9 : Nat, wp_X12_column_125 post tS nS rS  k9 y0 8 wS) ∧ (¬ 10 ≤ y1 → ∃ k9 : Nat, wp_X12_column_24 post tS nS rS (fun a0 a1 a2 => wp_X12_column_16 post tS nS rS  n9 a0 a1 a2) k9 y0 y1 0 wS)
set_option maxHeartbeats 4000000 in
set_option maxRecDepth 100000 in
theorem t_X12_column_16 : ∀ {p : Program} {l : Launch} {e : Env} {s : State} {m : MethodId} {args : Array Value} {below : List Frame} {meth : Method} {c : Code} {D : va_G} {tc : Nat → ClassId} {h0 : Nat} {sa : Nat → Nat} {A : Nat → Prop} {post : Dt → Prop} {tS : Nat → Nat} {nS : Nat → Nat} {rS : Nat → Nat → Nat}  (X : Cx p c s m meth cX12_column 6 RX12 D tc) (hr : meth.sig.returnType = (Option.none : Option FieldType)) (hT : ST h0 sa s s.heap) (hA0 : ∀ q, A q → h0 ≤ q)  (n9 : Nat), ∀ (y0 : Nat) (y1 : Int32) (wS : Dt) (H : Heap) (locs : List Loc) (ls : Array Slot), wp_X12_column_16 post tS nS rS  n9 y0 y1 wS → SB D tc (sa 3) A tS nS rS wS H → (tS y0 = 4) → va_S A s.heap H locs → lv_has ls 6 [(0, .ref y0), (1, .int y1)] → W p l e rm_X12_column s m args below meth c H locs 0 0 (MQ below (QB post (fun (u : Dt) (H1 : Heap) => SB D tc (sa 3) A tS nS rS u H1) (fun _ : Dt => none) A) args s rm_X12_column.cells rm_X12_column.slots A) (F0 m 16 ls []) := by
  intro p l e s m args below meth c D tc h0 sa A post tS nS rS  X hr hT hA0  n9
  have hx := X.1
  have hb := X.2.1
  have hown := X.2.2.2.1
  have hU := X.2.2.2.2.1.1
  induction n9 with
  | zero =>
    intro  y0 y1 wS H locs ls hw
    exact hw.elim
  | succ n9 ih =>
    intro  y0 y1 wS H locs ls hw hB hky0 hS hl
    unfold wp_X12_column_16 at hw
    refine lv_iload_n hx hb dX12_column_16 rfl (lv_at hl 1 rfl) ?_
    refine lv_bipush (v := 10) hx hb dX12_column_17 (by decide) ?_
    refine lv_icmp_ge (tgt := 122) hx hb dX12_column_19 (by decide) (fun c3 => ?_) (fun c3 => ?_)
    · have hw := hw.1 c3
      refine lv_bipush (v := 8) hx hb dX12_column_122 (by decide) ?_
      refine lv_istore_n (lv' := [(1, .int 8), (0, .ref y0)]) hx hb dX12_column_124 rfl hl (by decide) rfl (fun ls hl => ?_)
      obtain ⟨k9, hw⟩ := hw
      exact t_X12_column_125 X hr hT hA0  k9 y0 8 wS _ _ _ hw hB hky0 hS (lv_sub hl [1, 0] rfl)
    · have hw := hw.2 c3
      refine lv_iconst (v := 0) hx hb dX12_column_22 (by decide) ?_
      refine lv_istore_n (lv' := [(2, .int 0), (0, .ref y0), (1, .int y1)]) hx hb dX12_column_23 rfl hl (by decide) rfl (fun ls hl => ?_)
      obtain ⟨k9, hw⟩ := hw
      exact t_X12_column_24 X hr hT hA0 ih k9 y0 y1 0 wS _ _ _ hw hB hky0 hS (lv_sub hl [1, 2, 0] rfl)
def wp_X12_column (post : Dt → Prop) (tS : Nat → Nat) (nS : Nat → Nat) (rS : Nat → Nat → Nat) (wS : Dt) (x0 : Nat) : Prop := ∀ wS2 : Dt, wS2 = up2 wS (rS x0 0) 9 ((wS (rS x0 0) 9) + (wS x0 3)) → (∃ k9 : Nat, wp_X12_column_16 post tS nS rS  k9 x0 0 wS2)
set_option maxHeartbeats 4000000 in
set_option maxRecDepth 100000 in
theorem c_X12_column (l : Launch) (D : va_G) (tc : Nat → ClassId) (h0 : Nat) (sa : Nat → Nat) (x0 : Nat) {A : Nat → Prop} (H0 : Heap) {tS nS : Nat → Nat} {rS : Nat → Nat → Nat} {wS : Dt} (hB : SB D tc (sa 3) A tS nS rS wS H0) (hkx0 : tS x0 = 4) (hA0 : ∀ q, A q → h0 ≤ q) {post : Dt → Prop} (hw : wp_X12_column post tS nS rS wS x0) : MB l yX12_column cX12_column 6 (Option.none : Option FieldType) rm_X12_column A [.ref x0] D tc h0 sa H0 post (fun (u : Dt) (H1 : Heap) => SB D tc (sa 3) A tS nS rS u H1) (fun _ : Dt => none) := by
  refine MB.of RX12 [(0, .ref x0)] (by decide +kernel) rfl (Nat.le_of_ble_eq_true rfl) rfl ?_
  intro p e s m below meth c ls X hr hin hT hH hS hl
  subst hH
  have hx := X.1
  have hb := X.2.1
  have hown := X.2.2.2.1
  have hU := X.2.2.2.2.1.1
  unfold wp_X12_column at hw
  refine lv_aload_n hx hb dX12_column_0 rfl (lv_at hl 0 rfl) ?_
  refine g_get X dX12_column_1 f_X12_9 (hB.one (k := 4) hkx0 rfl) 0 (v := .ref (rS x0 0)) rfl rfl ?_
  have k1 : tS (rS x0 0) = 1 := (hB.wtk hkx0).1
  refine lv_bipush (v := 9) hx hb dX12_column_4 (by decide) ?_
  refine lv_dup2_11 hx hb dX12_column_6 rfl rfl ?_
  refine g_iald X dX12_column_7 (hB.one (k := 1) k1 rfl) 0 rfl (by unfold vp_in; decide) (k := 9) (by decide) ?_
  refine lv_aload_n hx hb dX12_column_8 rfl (lv_at hl 0 rfl) ?_
  refine g_get X dX12_column_9 f_X12_23 (hB.one (k := 4) hkx0 rfl) 0 (v := .int (wS x0 3)) rfl rfl ?_
  refine lv_iadd hx hb dX12_column_12 ?_
  refine g_iast X dX12_column_13 (hB.one (k := 1) k1 rfl) hS 0 rfl (by unfold vp_in; decide) (k := 9) (by decide) (fun H locs hb9 oq hS => ?_)
  have hB := hB.putB k1 rfl hb9 oq
  obtain ⟨wS2, ewS2⟩ : ∃ z : Dt, z = up2 wS (rS x0 0) 9 ((wS (rS x0 0) 9) + (wS x0 3)) := ⟨_, rfl⟩
  rw [← ewS2] at hB
  have hw := hw wS2 ewS2
  refine lv_iconst (v := 0) hx hb dX12_column_14 (by decide) ?_
  refine lv_istore_n (lv' := [(1, .int 0), (0, .ref x0)]) hx hb dX12_column_15 rfl hl (by decide) rfl (fun ls hl => ?_)
  obtain ⟨k9, hw⟩ := hw
  exact t_X12_column_16 X hr hT hA0  k9 x0 0 wS2 _ _ _ hw hB hkx0 hS (lv_sub hl [1, 0] rfl)
