/-! THE CLASS: the shape of a world -/
def shW (ad : Nat → Nat) : Sh := fun i => match i with
  | 0 => some (.inl (11, [some (.ref (ad 1)), some (.ref (ad 5)), some (.ref (ad 7)), some (.ref (ad 15)), some (.ref (ad 19)), none]))
  | 1 => some (.inl (5, [some (.ref (ad 2)), some (.ref (ad 3)), some (.ref (ad 4)), none, none, none, none, none]))
  | 2 => some (.inr (0, 10, none))
  | 3 => some (.inr (5, 10, some (.inr (.inr (.inr (.inr (fun k => if k < 10 then some (ad (k + 22)) else none)))))))
  | 4 => some (.inr (5, 10, some (.inr (.inr (.inr (.inr (fun k => if k < 10 then some (ad (k + 32)) else none)))))))
  | 5 => some (.inl (4, [some (.ref (ad 6)), none, none, none]))
  | 6 => some (.inr (0, 12, none))
  | 7 => some (.inl (10, [none, some (.ref (ad 8)), some (.ref (ad 9)), some (.ref (ad 10)), some (.ref (ad 11)), some (.ref (ad 12)), some (.ref (ad 13)), some (.ref (ad 14))]))
  | 8 => some (.inr (0, 12, none))
  | 9 => some (.inr (0, 12, none))
  | 10 => some (.inr (0, 12, none))
  | 11 => some (.inr (0, 12, none))
  | 12 => some (.inr (2, 12, none))
  | 13 => some (.inr (1, 12, none))
  | 14 => some (.inr (0, 12, none))
  | 15 => some (.inl (9, [none, some (.ref (ad 16)), some (.ref (ad 17)), some (.ref (ad 18))]))
  | 16 => some (.inr (0, 8, none))
  | 17 => some (.inr (0, 8, none))
  | 18 => some (.inr (0, 8, none))
  | 19 => some (.inl (7, [none, some (.ref (ad 20)), some (.ref (ad 21))]))
  | 20 => some (.inr (2, 60, none))
  | 21 => some (.inr (0, 60, none))
  | i => if i < 42 then some (.inr (0, 3, none)) else none
def shPr (ad : Nat → Nat) : Sh := fun i => match i with
  | 0 => some (.inl (8, [none, none, none, none, none, none, none, some (.ref (ad 1)), some (.ref (ad 2)), some (.ref (ad 3)), some (.ref (ad 4)), none, some (.ref (ad 5)), none, none]))
  | 1 => some (.inr (0, 19, none))
  | 2 => some (.inr (0, 19, none))
  | 3 => some (.inr (0, 19, none))
  | 4 => some (.inr (0, 6, none))
  | 5 => some (.inr (0, 19, none))
  | _ => none
def shFr (ad : Nat → Nat) : Sh := fun i => match i with
  | 0 => some (.inl (6, [none, none, some (.ref (ad 1)), some (.ref (ad 2))]))
  | 1 => some (.inr (2, 12, none))
  | 2 => some (.inr (0, 12, none))
  | _ => none
theorem vp_lt {x : Int32} {n : Nat} (h : vp_in x n) : x.toNatClampNeg < n := Nat.not_le.mp fun q => h (Or.inr q)
theorem rows_at {x : Int32} {n b : Nat} {ad : Nat → Nat} (h : vp_in x n) : va_rf (if x.toNatClampNeg < n then some (ad (x.toNatClampNeg + b)) else none) = .ref (ad (x.toNatClampNeg + b)) := by rw [if_pos (vp_lt h)]; rfl
theorem cw_row22 {x : Int32} {ad : Nat → Nat} (h : vp_in x 10) : shW ad (x.toNatClampNeg + 22) = some (.inr (0, 3, none)) := by
  have := vp_lt h
  show (if x.toNatClampNeg + 22 < 42 then (some (.inr (0, 3, none)) : Option Sc) else none) = _
  rw [if_pos (by omega)]
theorem cw_row32 {x : Int32} {ad : Nat → Nat} (h : vp_in x 10) : shW ad (x.toNatClampNeg + 32) = some (.inr (0, 3, none)) := by
  have := vp_lt h
  show (if x.toNatClampNeg + 32 < 42 then (some (.inr (0, 3, none)) : Option Sc) else none) = _
  rw [if_pos (by omega)]
abbrev rm_X0_tellTurning : Room := { frames := 0, cells := 0, slots := 0, locals := 0 }
def wp_X0_tellTurning (post : Int32 → Dt → Prop) (w : Dt) (x1 : Int32) (x2 : Int32) : Prop := vp_in x1 12 ∧ (∀ w2 : Dt, w2 = up2 w 6 x1.toNatClampNeg x2 → (∀ w3 : Dt, w3 = up2 w2 5 3 ((w2 5 3) + (x2 - (w 6 x1.toNatClampNeg))) → (post (w 6 x1.toNatClampNeg) w3)))
set_option maxHeartbeats 4000000 in
set_option maxRecDepth 100000 in
theorem c_X0_tellTurning (l : Launch) (D : va_G) (tc : Nat → ClassId) (h0 : Nat) (sa : Nat → Nat) (x1 : Int32) (x2 : Int32) (H0 : Heap) {ad : Nat → Nat} {A : Nat → Prop} {w : Dt} (hBw : Blk D tc A (shW ad) ad w H0) (hA0 : ∀ q, A q → h0 ≤ q) {post : Int32 → Dt → Prop} (hw : wp_X0_tellTurning post w x1 x2) : MB l yX0_tellTurning cX0_tellTurning 4 (Option.some FieldType.int) rm_X0_tellTurning A [.ref (ad 5), .int x1, .int x2] D tc h0 sa H0 (fun u : Int32 × Dt => post u.1 u.2) (fun (u : Int32 × Dt) (H1 : Heap) => Blk D tc A (shW ad) ad u.2 H1) (fun u : Int32 × Dt => some (.int u.1)) := by
  refine MB.of RX0 [(0, .ref (ad 5)), (1, .int x1), (2, .int x2)] (by decide +kernel) rfl (Nat.le_of_ble_eq_true rfl) rfl ?_
  intro p e s m below meth c ls X hr hin hT hH hS hl
  subst hH
  have hx := X.1
  have hb := X.2.1
  have hown := X.2.2.2.1
  have hU := X.2.2.2.2.1.1
  unfold wp_X0_tellTurning at hw
  refine lv_aload_n hx hb dX0_tellTurning_0 rfl (lv_at hl 0 rfl) ?_
  refine g_get X dX0_tellTurning_1 f_X0_9 hBw 5 (v := .ref (ad 6)) rfl rfl ?_
  refine lv_iload_n hx hb dX0_tellTurning_4 rfl (lv_at hl 1 rfl) ?_
  obtain ⟨o1, hw⟩ := hw
  refine g_iald X dX0_tellTurning_5 hBw 6 rfl o1 rfl ?_
  refine lv_istore_n (lv' := [(3, .int (w 6 x1.toNatClampNeg)), (0, .ref (ad 5)), (1, .int x1), (2, .int x2)]) hx hb dX0_tellTurning_6 rfl hl (by decide) rfl (fun ls hl => ?_)
  refine lv_aload_n hx hb dX0_tellTurning_7 rfl (lv_at hl 1 rfl) ?_
  refine g_get X dX0_tellTurning_8 f_X0_9 hBw 5 (v := .ref (ad 6)) rfl rfl ?_
  refine lv_iload_n hx hb dX0_tellTurning_11 rfl (lv_at hl 2 rfl) ?_
  refine lv_iload_n hx hb dX0_tellTurning_12 rfl (lv_at hl 3 rfl) ?_
  refine g_iast X dX0_tellTurning_13 hBw hS 6 rfl o1 rfl  (fun H locs hBw oq hS => ?_)
  obtain ⟨w2, ew2⟩ : ∃ z : Dt, z = up2 w 6 x1.toNatClampNeg x2 := ⟨_, rfl⟩
  rw [← ew2] at hBw
  have hw := hw w2 ew2
  refine lv_aload_n hx hb dX0_tellTurning_14 rfl (lv_at hl 1 rfl) ?_
  refine lv_dup hx hb dX0_tellTurning_15 rfl ?_
  refine g_get X dX0_tellTurning_16 f_X0_15 hBw 5 (v := .int (w2 5 3)) rfl rfl ?_
  refine lv_iload_n hx hb dX0_tellTurning_19 rfl (lv_at hl 3 rfl) ?_
  refine lv_iload_n hx hb dX0_tellTurning_20 rfl (lv_at hl 0 rfl) ?_
  refine lv_isub hx hb dX0_tellTurning_21 ?_
  refine lv_iadd hx hb dX0_tellTurning_22 ?_
  refine g_puti X dX0_tellTurning_23 f_X0_15 hBw hS 5 rfl (x := ((w2 5 3) + (x2 - (w 6 x1.toNatClampNeg)))) rfl rfl rfl (fun H locs hBw oq hS => ?_)
  obtain ⟨w3, ew3⟩ : ∃ z : Dt, z = up2 w2 5 3 ((w2 5 3) + (x2 - (w 6 x1.toNatClampNeg))) := ⟨_, rfl⟩
  rw [← ew3] at hBw
  have hw := hw w3 ew3
  refine lv_iload_n hx hb dX0_tellTurning_26 rfl (lv_at hl 0 rfl) ?_
  exact e_i X hr dX0_tellTurning_27 hS ((w 6 x1.toNatClampNeg), w3) rfl hw hBw ⟨Nat.le_of_ble_eq_true rfl, Nat.le_of_ble_eq_true rfl⟩
abbrev rm_X0_windOf : Room := { frames := 0, cells := 0, slots := 0, locals := 0 }
def wp_X0_windOf_37 (post : Int32 → Prop)   (z0 : Int32) (w : Dt) : Prop := post z0
set_option maxHeartbeats 4000000 in
set_option maxRecDepth 100000 in
theorem t_X0_windOf_37 {p : Program} {l : Launch} {e : Env} {s : State} {m : MethodId} {args : Array Value} {below : List Frame} {meth : Method} {c : Code} {D : va_G} {tc : Nat → ClassId} {h0 : Nat} {sa : Nat → Nat}  {ad : Nat → Nat} {A : Nat → Prop} {post : Int32 → Prop}  (X : Cx p c s m meth cX0_windOf 3 RX0 D tc) (hr : meth.sig.returnType = (Option.some FieldType.int)) (hT : ST h0 sa s s.heap) (hA0 : ∀ q, (fun _ => False) q → h0 ≤ q)    : ∀ (z0 : Int32) (w : Dt) (locs : List Loc) (ls : Array Slot), wp_X0_windOf_37 post   z0 w → (Blk D tc A (shW ad) ad w s.heap) → va_S (fun _ => False) s.heap s.heap locs → lv_has ls 3 [] → W p l e rm_X0_windOf s m args below meth c s.heap locs 0 0 (MQ below (QB post (fun (_ : Int32) (H1 : Heap) => H1 = s.heap) (fun u : Int32 => some (.int u)) (fun _ => False)) args s rm_X0_windOf.cells rm_X0_windOf.slots (fun _ => False)) (F0 m 37 ls [.int z0]) := by
  have hx := X.1
  have hb := X.2.1
  have hown := X.2.2.2.1
  have hU := X.2.2.2.2.1.1
  intro z0 w  locs ls hw hBw hS hl
  unfold wp_X0_windOf_37 at hw
  exact e_i X hr dX0_windOf_37 hS (z0) rfl hw rfl ⟨Nat.le_of_ble_eq_true rfl, Nat.le_of_ble_eq_true rfl⟩
def wp_X0_windOf_19 (post : Int32 → Prop)   (y1 : Int32) (z0 : Int32) (w : Dt) : Prop := (1 ≤ z0 → vp_in y1 12 ∧ (¬ z0 = 0 ∧ (wp_X0_windOf_37 post   ((w 6 y1.toNatClampNeg) / z0) w))) ∧ (¬ 1 ≤ z0 → wp_X0_windOf_37 post   0 w)
set_option maxHeartbeats 4000000 in
set_option maxRecDepth 100000 in
theorem t_X0_windOf_19 {p : Program} {l : Launch} {e : Env} {s : State} {m : MethodId} {args : Array Value} {below : List Frame} {meth : Method} {c : Code} {D : va_G} {tc : Nat → ClassId} {h0 : Nat} {sa : Nat → Nat}  {ad : Nat → Nat} {A : Nat → Prop} {post : Int32 → Prop}  (X : Cx p c s m meth cX0_windOf 3 RX0 D tc) (hr : meth.sig.returnType = (Option.some FieldType.int)) (hT : ST h0 sa s s.heap) (hA0 : ∀ q, (fun _ => False) q → h0 ≤ q)    : ∀ (y1 : Int32) (z0 : Int32) (w : Dt) (locs : List Loc) (ls : Array Slot), wp_X0_windOf_19 post   y1 z0 w → (Blk D tc A (shW ad) ad w s.heap) → va_S (fun _ => False) s.heap s.heap locs → lv_has ls 3 [(0, .ref (ad 5)), (1, .int y1)] → W p l e rm_X0_windOf s m args below meth c s.heap locs 0 0 (MQ below (QB post (fun (_ : Int32) (H1 : Heap) => H1 = s.heap) (fun u : Int32 => some (.int u)) (fun _ => False)) args s rm_X0_windOf.cells rm_X0_windOf.slots (fun _ => False)) (F0 m 19 ls [.int z0]) := by
  have hx := X.1
  have hb := X.2.1
  have hown := X.2.2.2.1
  have hU := X.2.2.2.2.1.1
  intro y1 z0 w  locs ls hw hBw hS hl
  unfold wp_X0_windOf_19 at hw
  refine lv_istore_n (lv' := [(2, .int z0), (0, .ref (ad 5)), (1, .int y1)]) hx hb dX0_windOf_19 rfl hl (by decide) rfl (fun ls hl => ?_)
  refine lv_iload_n hx hb dX0_windOf_20 rfl (lv_at hl 0 rfl) ?_
  refine lv_iconst (v := 1) hx hb dX0_windOf_21 (by decide) ?_
  refine lv_icmp_ge (tgt := 29) hx hb dX0_windOf_22 (by decide) (fun c2 => ?_) (fun c2 => ?_)
  · have hw := hw.1 c2
    refine lv_aload_n hx hb dX0_windOf_29 rfl (lv_at hl 1 rfl) ?_
    refine g_get X dX0_windOf_30 f_X0_9 hBw 5 (v := .ref (ad 6)) rfl rfl ?_
    refine lv_iload_n hx hb dX0_windOf_33 rfl (lv_at hl 2 rfl) ?_
    obtain ⟨o3, hw⟩ := hw
    refine g_iald X dX0_windOf_34 hBw 6 rfl o3 rfl ?_
    refine lv_iload_n hx hb dX0_windOf_35 rfl (lv_at hl 0 rfl) ?_
    obtain ⟨o4, hw⟩ := hw
    refine lv_idiv hx hb dX0_windOf_36 o4 ?_
    exact t_X0_windOf_37 X hr hT hA0   _ _ _ _ hw hBw hS (lv_sub hl [] rfl)
  · have hw := hw.2 c2
    refine lv_iconst (v := 0) hx hb dX0_windOf_25 (by decide) ?_
    refine lv_goto (tgt := 37) hx hb dX0_windOf_26 (by decide) ?_
    exact t_X0_windOf_37 X hr hT hA0   _ _ _ _ hw hBw hS (lv_sub hl [] rfl)
def wp_X0_windOf_18 (post : Int32 → Prop)   (y1 : Int32) (w : Dt) : Prop := wp_X0_windOf_19 post   y1 0 w
set_option maxHeartbeats 4000000 in
set_option maxRecDepth 100000 in
theorem t_X0_windOf_18 {p : Program} {l : Launch} {e : Env} {s : State} {m : MethodId} {args : Array Value} {below : List Frame} {meth : Method} {c : Code} {D : va_G} {tc : Nat → ClassId} {h0 : Nat} {sa : Nat → Nat}  {ad : Nat → Nat} {A : Nat → Prop} {post : Int32 → Prop}  (X : Cx p c s m meth cX0_windOf 3 RX0 D tc) (hr : meth.sig.returnType = (Option.some FieldType.int)) (hT : ST h0 sa s s.heap) (hA0 : ∀ q, (fun _ => False) q → h0 ≤ q)    : ∀ (y1 : Int32) (w : Dt) (locs : List Loc) (ls : Array Slot), wp_X0_windOf_18 post   y1 w → (Blk D tc A (shW ad) ad w s.heap) → va_S (fun _ => False) s.heap s.heap locs → lv_has ls 3 [(0, .ref (ad 5)), (1, .int y1)] → W p l e rm_X0_windOf s m args below meth c s.heap locs 0 0 (MQ below (QB post (fun (_ : Int32) (H1 : Heap) => H1 = s.heap) (fun u : Int32 => some (.int u)) (fun _ => False)) args s rm_X0_windOf.cells rm_X0_windOf.slots (fun _ => False)) (F0 m 18 ls []) := by
  have hx := X.1
  have hb := X.2.1
  have hown := X.2.2.2.1
  have hU := X.2.2.2.2.1.1
  intro y1 w  locs ls hw hBw hS hl
  unfold wp_X0_windOf_18 at hw
  refine lv_iconst (v := 0) hx hb dX0_windOf_18 (by decide) ?_
  exact t_X0_windOf_19 X hr hT hA0   _ _ _ _ _ hw hBw hS (lv_sub hl [0, 1] rfl)
def wp_X0_windOf (post : Int32 → Prop) (w : Dt) (x1 : Int32) : Prop := (x1 < 0 → wp_X0_windOf_18 post   x1 w) ∧ (¬ x1 < 0 → (12 ≤ x1 → wp_X0_windOf_18 post   x1 w) ∧ (¬ 12 ≤ x1 → vp_in x1 12 ∧ (wp_X0_windOf_19 post   x1 (fWid x1.toNatClampNeg) w)))
set_option maxHeartbeats 4000000 in
set_option maxRecDepth 100000 in
theorem c_X0_windOf (l : Launch) (D : va_G) (tc : Nat → ClassId) (h0 : Nat) (sa : Nat → Nat) (x1 : Int32) (H0 : Heap) {ad : Nat → Nat} {A : Nat → Prop} {w : Dt} (hBw : Blk D tc A (shW ad) ad w H0)  {post : Int32 → Prop} (hw : wp_X0_windOf post w x1) : MB l yX0_windOf cX0_windOf 3 (Option.some FieldType.int) rm_X0_windOf (fun _ => False) [.ref (ad 5), .int x1] D tc h0 sa H0 post (fun (_ : Int32) (H1 : Heap) => H1 = H0) (fun u : Int32 => some (.int u)) := by
  have hA0 : ∀ q : Nat, (fun _ : Nat => False) q → h0 ≤ q := fun _ h => h.elim
  refine MB.of RX0 [(0, .ref (ad 5)), (1, .int x1)] (by decide +kernel) rfl (Nat.le_of_ble_eq_true rfl) rfl ?_
  intro p e s m below meth c ls X hr hin hT hH hS hl
  subst hH
  have hx := X.1
  have hb := X.2.1
  have hown := X.2.2.2.1
  have hU := X.2.2.2.2.1.1
  unfold wp_X0_windOf at hw
  refine lv_iload_n hx hb dX0_windOf_0 rfl (lv_at hl 1 rfl) ?_
  refine lv_if_lt (tgt := 18) hx hb dX0_windOf_1 (by decide) (fun c1 => ?_) (fun c1 => ?_)
  · have hw := hw.1 c1
    exact t_X0_windOf_18 X hr hT hA0   _ _ _ _ hw hBw hS (lv_sub hl [0, 1] rfl)
  · have hw := hw.2 c1
    refine lv_iload_n hx hb dX0_windOf_4 rfl (lv_at hl 1 rfl) ?_
    refine lv_bipush (v := 12) hx hb dX0_windOf_5 (by decide) ?_
    refine lv_icmp_ge (tgt := 18) hx hb dX0_windOf_7 (by decide) (fun c5 => ?_) (fun c5 => ?_)
    · have hw := hw.1 c5
      exact t_X0_windOf_18 X hr hT hA0   _ _ _ _ hw hBw hS (lv_sub hl [0, 1] rfl)
    · have hw := hw.2 c5
      refine g_gets X dX0_windOf_10 w_310 hT.1 hS hA0 ?_
      refine lv_iload_n hx hb dX0_windOf_13 rfl (lv_at hl 1 rfl) ?_
      obtain ⟨o6, hw⟩ := hw
      refine g_sald X dX0_windOf_14 hT.2.1 hS hA0 o6 rfl ?_
      refine lv_goto (tgt := 19) hx hb dX0_windOf_15 (by decide) ?_
      exact t_X0_windOf_19 X hr hT hA0   _ _ _ _ _ hw hBw hS (lv_sub hl [0, 1] rfl)
abbrev rm_X0_shearOf : Room := { frames := 1, cells := 0, slots := 0, locals := 22 }
def wp_X0_shearOf (post : Int32 → Prop) (w : Dt) (x1 : Int32) : Prop := ∀ v1 : Int32, v1 = (if (x1 - 1) < 0 then 0 else (x1 - 1)) → (∀ v2 : Int32, v2 = (if 11 < (x1 + 1) then 11 else (x1 + 1)) → (wp_X0_windOf (fun r3 => wp_X0_windOf (fun r4 => post (if 0 ≤ (r3 - r4) then (r3 - r4) else 0 - (r3 - r4))) w v2) w v1))
set_option maxHeartbeats 4000000 in
set_option maxRecDepth 100000 in
theorem c_X0_shearOf (l : Launch) (D : va_G) (tc : Nat → ClassId) (h0 : Nat) (sa : Nat → Nat) (x1 : Int32) (H0 : Heap) {ad : Nat → Nat} {A : Nat → Prop} {w : Dt} (hBw : Blk D tc A (shW ad) ad w H0)  {post : Int32 → Prop} (hw : wp_X0_shearOf post w x1) : MB l yX0_shearOf cX0_shearOf 4 (Option.some FieldType.int) rm_X0_shearOf (fun _ => False) [.ref (ad 5), .int x1] D tc h0 sa H0 post (fun (_ : Int32) (H1 : Heap) => H1 = H0) (fun u : Int32 => some (.int u)) := by
  have hA0 : ∀ q : Nat, (fun _ : Nat => False) q → h0 ≤ q := fun _ h => h.elim
  refine MB.of RX0 [(0, .ref (ad 5)), (1, .int x1)] (by decide +kernel) rfl (Nat.le_of_ble_eq_true rfl) rfl ?_
  intro p e s m below meth c ls X hr hin hT hH hS hl
  subst hH
  have hx := X.1
  have hb := X.2.1
  have hown := X.2.2.2.1
  have hU := X.2.2.2.2.1.1
  unfold wp_X0_shearOf at hw
  refine lv_iload_n hx hb dX0_shearOf_0 rfl (lv_at hl 1 rfl) ?_
  refine lv_iconst (v := 1) hx hb dX0_shearOf_1 (by decide) ?_
  refine lv_isub hx hb dX0_shearOf_2 ?_
  refine lv_iconst (v := 0) hx hb dX0_shearOf_3 (by decide) ?_
  refine g_max X hl.1 dX0_shearOf_4 w_603 w_604 w_21 w_605 ⟨Nat.le_of_ble_eq_true rfl, Nat.le_of_ble_eq_true rfl, Nat.le_of_ble_eq_true rfl, Nat.le_of_ble_eq_true rfl⟩ ?_
  refine lv_topi (fun v1 ev1 => ?_)
  have hw := hw v1 ev1
  refine lv_istore_n (lv' := [(2, .int v1), (0, .ref (ad 5)), (1, .int x1)]) hx hb dX0_shearOf_7 rfl hl (by decide) rfl (fun ls hl => ?_)
  refine lv_iload_n hx hb dX0_shearOf_8 rfl (lv_at hl 2 rfl) ?_
  refine lv_iconst (v := 1) hx hb dX0_shearOf_9 (by decide) ?_
  refine lv_iadd hx hb dX0_shearOf_10 ?_
  refine lv_bipush (v := 11) hx hb dX0_shearOf_11 (by decide) ?_
  refine g_min X hl.1 dX0_shearOf_13 w_606 w_607 w_21 w_608 ⟨Nat.le_of_ble_eq_true rfl, Nat.le_of_ble_eq_true rfl, Nat.le_of_ble_eq_true rfl, Nat.le_of_ble_eq_true rfl⟩ ?_
  refine lv_topi (fun v2 ev2 => ?_)
  have hw := hw v2 ev2
  refine lv_istore_n (lv' := [(3, .int v2), (2, .int v1), (0, .ref (ad 5)), (1, .int x1)]) hx hb dX0_shearOf_16 rfl hl (by decide) rfl (fun ls hl => ?_)
  refine lv_aload_n hx hb dX0_shearOf_17 rfl (lv_at hl 2 rfl) ?_
  refine lv_iload_n hx hb dX0_shearOf_18 rfl (lv_at hl 1 rfl) ?_
  refine g_after (st0 := .int v1 :: .ref (ad 5) :: []) (rest := []) (g_V X m_X0_31 (c_X0_windOf l D tc h0 sa v1 _ hBw hw) (hBw.recv X 5 rfl (q := (RX0, TX0, 4)) rfl) hT hS hA0 dX0_shearOf_19 hl.1 rfl rfl ⟨Nat.le_of_ble_eq_true rfl, Nat.le_of_ble_eq_true rfl⟩ (Nat.le_of_ble_eq_true rfl) ⟨Nat.le_of_ble_eq_true rfl, Nat.le_of_ble_eq_true rfl⟩) hS (fun _ h => h.elim) (fun u => .int u :: []) (fun _ => rfl) (fun u H9 locs hw hP9 hz9 hk9 hS => ?_)
  have e9 : H9 = _ := hP9
  rw [e9] at hS ⊢
  obtain ⟨r3, rfl⟩ : ∃ z, z = u := ⟨_, rfl⟩
  try dsimp only at hw
  refine lv_aload_n hx hb dX0_shearOf_22 rfl (lv_at hl 2 rfl) ?_
  refine lv_iload_n hx hb dX0_shearOf_23 rfl (lv_at hl 0 rfl) ?_
  refine g_after (st0 := .int v2 :: .ref (ad 5) :: [.int r3]) (rest := [.int r3]) (g_V X m_X0_31 (c_X0_windOf l D tc h0 sa v2 _ hBw hw) (hBw.recv X 5 rfl (q := (RX0, TX0, 4)) rfl) hT hS hA0 dX0_shearOf_24 hl.1 rfl rfl ⟨Nat.le_of_ble_eq_true rfl, Nat.le_of_ble_eq_true rfl⟩ (Nat.le_of_ble_eq_true rfl) ⟨Nat.le_of_ble_eq_true rfl, Nat.le_of_ble_eq_true rfl⟩) hS (fun _ h => h.elim) (fun u => .int u :: [.int r3]) (fun _ => rfl) (fun u H9 locs hw hP9 hz9 hk9 hS => ?_)
  have e9 : H9 = _ := hP9
  rw [e9] at hS ⊢
  obtain ⟨r4, rfl⟩ : ∃ z, z = u := ⟨_, rfl⟩
  try dsimp only at hw
  refine lv_isub hx hb dX0_shearOf_27 ?_
  refine g_abs X hl.1 dX0_shearOf_28 w_610 w_611 w_21 w_612 ⟨Nat.le_of_ble_eq_true rfl, Nat.le_of_ble_eq_true rfl, Nat.le_of_ble_eq_true rfl, Nat.le_of_ble_eq_true rfl⟩ ?_
  exact e_i X hr dX0_shearOf_31 hS ((if 0 ≤ (r3 - r4) then (r3 - r4) else 0 - (r3 - r4))) rfl hw rfl ⟨Nat.le_of_ble_eq_true rfl, Nat.le_of_ble_eq_true rfl⟩
abbrev rm_X0_dragDown : Room := { frames := 0, cells := 0, slots := 0, locals := 0 }
def wp_X0_dragDown_11 (post : Dt → Prop)   : Nat → Int32 → Dt → Prop
  | 0, _, _ => False
  | n9 + 1, y1, w => (12 ≤ y1 → post w) ∧ (¬ 12 ≤ y1 → vp_in y1 12 ∧ (¬ (w 5 1) = 0 ∧ (∀ v5 : Int32, v5 = ((w 6 y1.toNatClampNeg) / (w 5 1)) → (∀ w6 : Dt, w6 = up2 w 6 y1.toNatClampNeg ((w 6 y1.toNatClampNeg) - v5) → (∀ w7 : Dt, w7 = up2 w6 5 2 ((w6 5 2) + v5) → (wp_X0_dragDown_11 post   n9 (y1 + 1) w7))))))
set_option maxHeartbeats 4000000 in
set_option maxRecDepth 100000 in
theorem t_X0_dragDown_11 {p : Program} {l : Launch} {e : Env} {s : State} {m : MethodId} {args : Array Value} {below : List Frame} {meth : Method} {c : Code} {D : va_G} {tc : Nat → ClassId} {h0 : Nat} {sa : Nat → Nat}  {ad : Nat → Nat} {A : Nat → Prop} {post : Dt → Prop}  (X : Cx p c s m meth cX0_dragDown 3 RX0 D tc) (hr : meth.sig.returnType = (Option.none : Option FieldType)) (hT : ST h0 sa s s.heap) (hA0 : ∀ q, A q → h0 ≤ q)    : ∀ (n9 : Nat) (y1 : Int32) (w : Dt) (H : Heap) (locs : List Loc) (ls : Array Slot), wp_X0_dragDown_11 post   n9 y1 w → (Blk D tc A (shW ad) ad w H) → va_S A s.heap H locs → lv_has ls 3 [(0, .ref (ad 5)), (1, .int y1)] → W p l e rm_X0_dragDown s m args below meth c H locs 0 0 (MQ below (QB post (fun (u : Dt) (H1 : Heap) => Blk D tc A (shW ad) ad u H1) (fun _ : Dt => none) A) args s rm_X0_dragDown.cells rm_X0_dragDown.slots A) (F0 m 11 ls []) := by
  have hx := X.1
  have hb := X.2.1
  have hown := X.2.2.2.1
  have hU := X.2.2.2.2.1.1
  intro n9
  induction n9 with
  | zero =>
    intro y1 w H locs ls hw
    exact hw.elim
  | succ n9 ih =>
    intro y1 w H locs ls hw hBw hS hl
    unfold wp_X0_dragDown_11 at hw
    refine lv_iload_n hx hb dX0_dragDown_11 rfl (lv_at hl 1 rfl) ?_
    refine lv_bipush (v := 12) hx hb dX0_dragDown_12 (by decide) ?_
    refine lv_icmp_ge (tgt := 55) hx hb dX0_dragDown_14 (by decide) (fun c2 => ?_) (fun c2 => ?_)
    · have hw := hw.1 c2
      exact e_v X hr dX0_dragDown_55 hS (w) rfl hw hBw ⟨Nat.le_of_ble_eq_true rfl, Nat.le_of_ble_eq_true rfl⟩
    · have hw := hw.2 c2
      refine lv_aload_n hx hb dX0_dragDown_17 rfl (lv_at hl 0 rfl) ?_
      refine g_get X dX0_dragDown_18 f_X0_9 hBw 5 (v := .ref (ad 6)) rfl rfl ?_
      refine lv_iload_n hx hb dX0_dragDown_21 rfl (lv_at hl 1 rfl) ?_
      obtain ⟨o3, hw⟩ := hw
      refine g_iald X dX0_dragDown_22 hBw 6 rfl o3 rfl ?_
      refine lv_aload_n hx hb dX0_dragDown_23 rfl (lv_at hl 0 rfl) ?_
      refine g_get X dX0_dragDown_24 f_X0_38 hBw 5 (v := .int (w 5 1)) rfl rfl ?_
      obtain ⟨o4, hw⟩ := hw
      refine lv_idiv hx hb dX0_dragDown_27 o4 ?_
      refine lv_topi (fun v5 ev5 => ?_)
      have hw := hw v5 ev5
      refine lv_istore_n (lv' := [(2, .int v5), (0, .ref (ad 5)), (1, .int y1)]) hx hb dX0_dragDown_28 rfl hl (by decide) rfl (fun ls hl => ?_)
      refine lv_aload_n hx hb dX0_dragDown_29 rfl (lv_at hl 1 rfl) ?_
      refine g_get X dX0_dragDown_30 f_X0_9 hBw 5 (v := .ref (ad 6)) rfl rfl ?_
      refine lv_iload_n hx hb dX0_dragDown_33 rfl (lv_at hl 2 rfl) ?_
      refine lv_dup2_11 hx hb dX0_dragDown_34 rfl rfl ?_
      refine g_iald X dX0_dragDown_35 hBw 6 rfl o3 rfl ?_
      refine lv_iload_n hx hb dX0_dragDown_36 rfl (lv_at hl 0 rfl) ?_
      refine lv_isub hx hb dX0_dragDown_37 ?_
      refine g_iast X dX0_dragDown_38 hBw hS 6 rfl o3 rfl  (fun H locs hBw oq hS => ?_)
      obtain ⟨w6, ew6⟩ : ∃ z : Dt, z = up2 w 6 y1.toNatClampNeg ((w 6 y1.toNatClampNeg) - v5) := ⟨_, rfl⟩
      rw [← ew6] at hBw
      have hw := hw w6 ew6
      refine lv_aload_n hx hb dX0_dragDown_39 rfl (lv_at hl 1 rfl) ?_
      refine lv_dup hx hb dX0_dragDown_40 rfl ?_
      refine g_get X dX0_dragDown_41 f_X0_41 hBw 5 (v := .int (w6 5 2)) rfl rfl ?_
      refine lv_iload_n hx hb dX0_dragDown_44 rfl (lv_at hl 0 rfl) ?_
      refine lv_iadd hx hb dX0_dragDown_45 ?_
      refine g_puti X dX0_dragDown_46 f_X0_41 hBw hS 5 rfl (x := ((w6 5 2) + v5)) rfl rfl rfl (fun H locs hBw oq hS => ?_)
      obtain ⟨w7, ew7⟩ : ∃ z : Dt, z = up2 w6 5 2 ((w6 5 2) + v5) := ⟨_, rfl⟩
      rw [← ew7] at hBw
      have hw := hw w7 ew7
      refine lv_iinc (lv' := [(1, .int (y1 + 1)), (2, .int v5), (0, .ref (ad 5))]) hx hb dX0_dragDown_49 hl (k := 2) rfl (by rfl) (by decide) rfl (fun ls hl => ?_)
      refine lv_goto (tgt := 11) hx hb dX0_dragDown_52 (by decide) ?_
      exact ih _ _ _ _ _ hw hBw hS (lv_sub hl [2, 0] rfl)
def wp_X0_dragDown (post : Dt → Prop) (w : Dt) : Prop := (1 ≤ (w 5 1) → ∃ k9 : Nat, wp_X0_dragDown_11 post   k9 0 w) ∧ (¬ 1 ≤ (w 5 1) → post w)
set_option maxHeartbeats 4000000 in
set_option maxRecDepth 100000 in
theorem c_X0_dragDown (l : Launch) (D : va_G) (tc : Nat → ClassId) (h0 : Nat) (sa : Nat → Nat)  (H0 : Heap) {ad : Nat → Nat} {A : Nat → Prop} {w : Dt} (hBw : Blk D tc A (shW ad) ad w H0) (hA0 : ∀ q, A q → h0 ≤ q) {post : Dt → Prop} (hw : wp_X0_dragDown post w) : MB l yX0_dragDown cX0_dragDown 3 (Option.none : Option FieldType) rm_X0_dragDown A [.ref (ad 5)] D tc h0 sa H0 post (fun (u : Dt) (H1 : Heap) => Blk D tc A (shW ad) ad u H1) (fun _ : Dt => none) := by
  refine MB.of RX0 [(0, .ref (ad 5))] (by decide +kernel) rfl (Nat.le_of_ble_eq_true rfl) rfl ?_
  intro p e s m below meth c ls X hr hin hT hH hS hl
  subst hH
  have hx := X.1
  have hb := X.2.1
  have hown := X.2.2.2.1
  have hU := X.2.2.2.2.1.1
  unfold wp_X0_dragDown at hw
  refine lv_aload_n hx hb dX0_dragDown_0 rfl (lv_at hl 0 rfl) ?_
  refine g_get X dX0_dragDown_1 f_X0_38 hBw 5 (v := .int (w 5 1)) rfl rfl ?_
  refine lv_iconst (v := 1) hx hb dX0_dragDown_4 (by decide) ?_
  refine lv_icmp_ge (tgt := 9) hx hb dX0_dragDown_5 (by decide) (fun c1 => ?_) (fun c1 => ?_)
  · have hw := hw.1 c1
    refine lv_iconst (v := 0) hx hb dX0_dragDown_9 (by decide) ?_
    refine lv_istore_n (lv' := [(1, .int 0), (0, .ref (ad 5))]) hx hb dX0_dragDown_10 rfl hl (by decide) rfl (fun ls hl => ?_)
    obtain ⟨k9, hw⟩ := hw
    exact t_X0_dragDown_11 X hr hT hA0   k9 _ _ _ _ _ hw hBw hS (lv_sub hl [1, 0] rfl)
  · have hw := hw.2 c1
    exact e_v X hr dX0_dragDown_8 hS (w) rfl hw hBw ⟨Nat.le_of_ble_eq_true rfl, Nat.le_of_ble_eq_true rfl⟩
abbrev rm_X0_isBalanced : Room := { frames := 0, cells := 0, slots := 0, locals := 0 }
def wp_X0_isBalanced_41 (post : Int32 → Prop)   (z0 : Int32) (w : Dt) : Prop := narrow .boolean (.int z0) = .int z0 ∧ (post z0)
set_option maxHeartbeats 4000000 in
set_option maxRecDepth 100000 in
theorem t_X0_isBalanced_41 {p : Program} {l : Launch} {e : Env} {s : State} {m : MethodId} {args : Array Value} {below : List Frame} {meth : Method} {c : Code} {D : va_G} {tc : Nat → ClassId} {h0 : Nat} {sa : Nat → Nat}  {ad : Nat → Nat} {A : Nat → Prop} {post : Int32 → Prop}  (X : Cx p c s m meth cX0_isBalanced 3 RX0 D tc) (hr : meth.sig.returnType = (Option.some FieldType.boolean)) (hT : ST h0 sa s s.heap) (hA0 : ∀ q, (fun _ => False) q → h0 ≤ q)    : ∀ (z0 : Int32) (w : Dt) (locs : List Loc) (ls : Array Slot), wp_X0_isBalanced_41 post   z0 w → (Blk D tc A (shW ad) ad w s.heap) → va_S (fun _ => False) s.heap s.heap locs → lv_has ls 3 [] → W p l e rm_X0_isBalanced s m args below meth c s.heap locs 0 0 (MQ below (QB post (fun (_ : Int32) (H1 : Heap) => H1 = s.heap) (fun u : Int32 => some (.int u)) (fun _ => False)) args s rm_X0_isBalanced.cells rm_X0_isBalanced.slots (fun _ => False)) (F0 m 41 ls [.int z0]) := by
  have hx := X.1
  have hb := X.2.1
  have hown := X.2.2.2.1
  have hU := X.2.2.2.2.1.1
  intro z0 w  locs ls hw hBw hS hl
  unfold wp_X0_isBalanced_41 at hw
  obtain ⟨o3, hw⟩ := hw
  exact e_z X hr o3 dX0_isBalanced_41 hS (z0) rfl hw rfl ⟨Nat.le_of_ble_eq_true rfl, Nat.le_of_ble_eq_true rfl⟩
def wp_X0_isBalanced_7 (post : Int32 → Prop)   : Nat → Int32 → Int32 → Dt → Prop
  | 0, _, _, _ => False
  | n9 + 1, y1, y2, w => (12 ≤ y2 → (¬ y1 = (w 5 3) → wp_X0_isBalanced_41 post   0 w) ∧ (y1 = (w 5 3) → wp_X0_isBalanced_41 post   1 w)) ∧ (¬ 12 ≤ y2 → vp_in y2 12 ∧ (∀ v5 : Int32, v5 = (y1 + (w 6 y2.toNatClampNeg)) → (wp_X0_isBalanced_7 post   n9 v5 (y2 + 1) w)))
set_option maxHeartbeats 4000000 in
set_option maxRecDepth 100000 in
theorem t_X0_isBalanced_7 {p : Program} {l : Launch} {e : Env} {s : State} {m : MethodId} {args : Array Value} {below : List Frame} {meth : Method} {c : Code} {D : va_G} {tc : Nat → ClassId} {h0 : Nat} {sa : Nat → Nat}  {ad : Nat → Nat} {A : Nat → Prop} {post : Int32 → Prop}  (X : Cx p c s m meth cX0_isBalanced 3 RX0 D tc) (hr : meth.sig.returnType = (Option.some FieldType.boolean)) (hT : ST h0 sa s s.heap) (hA0 : ∀ q, (fun _ => False) q → h0 ≤ q)    : ∀ (n9 : Nat) (y1 : Int32) (y2 : Int32) (w : Dt) (locs : List Loc) (ls : Array Slot), wp_X0_isBalanced_7 post   n9 y1 y2 w → (Blk D tc A (shW ad) ad w s.heap) → va_S (fun _ => False) s.heap s.heap locs → lv_has ls 3 [(0, .ref (ad 5)), (1, .int y1), (2, .int y2)] → W p l e rm_X0_isBalanced s m args below meth c s.heap locs 0 0 (MQ below (QB post (fun (_ : Int32) (H1 : Heap) => H1 = s.heap) (fun u : Int32 => some (.int u)) (fun _ => False)) args s rm_X0_isBalanced.cells rm_X0_isBalanced.slots (fun _ => False)) (F0 m 7 ls []) := by
  have hx := X.1
  have hb := X.2.1
  have hown := X.2.2.2.1
  have hU := X.2.2.2.2.1.1
  intro n9
  induction n9 with
  | zero =>
    intro y1 y2 w  locs ls hw
    exact hw.elim
  | succ n9 ih =>
    intro y1 y2 w  locs ls hw hBw hS hl
    unfold wp_X0_isBalanced_7 at hw
    refine lv_iload_n hx hb dX0_isBalanced_7 rfl (lv_at hl 2 rfl) ?_
    refine lv_bipush (v := 12) hx hb dX0_isBalanced_8 (by decide) ?_
    refine lv_icmp_ge (tgt := 28) hx hb dX0_isBalanced_10 (by decide) (fun c1 => ?_) (fun c1 => ?_)
    · have hw := hw.1 c1
      refine lv_iload_n hx hb dX0_isBalanced_28 rfl (lv_at hl 1 rfl) ?_
      refine lv_aload_n hx hb dX0_isBalanced_29 rfl (lv_at hl 0 rfl) ?_
      refine g_get X dX0_isBalanced_30 f_X0_15 hBw 5 (v := .int (w 5 3)) rfl rfl ?_
      refine lv_icmp_ne (tgt := 40) hx hb dX0_isBalanced_33 (by decide) (fun c2 => ?_) (fun c2 => ?_)
      · have hw := hw.1 c2
        refine lv_iconst (v := 0) hx hb dX0_isBalanced_40 (by decide) ?_
        exact t_X0_isBalanced_41 X hr hT hA0   _ _ _ _ hw hBw hS (lv_sub hl [] rfl)
      · have hw := hw.2 c2
        refine lv_iconst (v := 1) hx hb dX0_isBalanced_36 (by decide) ?_
        refine lv_goto (tgt := 41) hx hb dX0_isBalanced_37 (by decide) ?_
        exact t_X0_isBalanced_41 X hr hT hA0   _ _ _ _ hw hBw hS (lv_sub hl [] rfl)
    · have hw := hw.2 c1
      refine lv_iload_n hx hb dX0_isBalanced_13 rfl (lv_at hl 1 rfl) ?_
      refine lv_aload_n hx hb dX0_isBalanced_14 rfl (lv_at hl 0 rfl) ?_
      refine g_get X dX0_isBalanced_15 f_X0_9 hBw 5 (v := .ref (ad 6)) rfl rfl ?_
      refine lv_iload_n hx hb dX0_isBalanced_18 rfl (lv_at hl 2 rfl) ?_
      obtain ⟨o4, hw⟩ := hw
      refine g_iald X dX0_isBalanced_19 hBw 6 rfl o4 rfl ?_
      refine lv_iadd hx hb dX0_isBalanced_20 ?_
      refine lv_topi (fun v5 ev5 => ?_)
      have hw := hw v5 ev5
      refine lv_istore_n (lv' := [(1, .int v5), (0, .ref (ad 5)), (2, .int y2)]) hx hb dX0_isBalanced_21 rfl hl (by decide) rfl (fun ls hl => ?_)
      refine lv_iinc (lv' := [(2, .int (y2 + 1)), (1, .int v5), (0, .ref (ad 5))]) hx hb dX0_isBalanced_22 hl (k := 2) rfl (by rfl) (by decide) rfl (fun ls hl => ?_)
      refine lv_goto (tgt := 7) hx hb dX0_isBalanced_25 (by decide) ?_
      exact ih _ _ _ _ _ hw hBw hS (lv_sub hl [2, 1, 0] rfl)
def wp_X0_isBalanced (post : Int32 → Prop) (w : Dt) : Prop := ∃ k9 : Nat, wp_X0_isBalanced_7 post   k9 (w 5 2) 0 w
set_option maxHeartbeats 4000000 in
set_option maxRecDepth 100000 in
theorem c_X0_isBalanced (l : Launch) (D : va_G) (tc : Nat → ClassId) (h0 : Nat) (sa : Nat → Nat)  (H0 : Heap) {ad : Nat → Nat} {A : Nat → Prop} {w : Dt} (hBw : Blk D tc A (shW ad) ad w H0)  {post : Int32 → Prop} (hw : wp_X0_isBalanced post w) : MB l yX0_isBalanced cX0_isBalanced 3 (Option.some FieldType.boolean) rm_X0_isBalanced (fun _ => False) [.ref (ad 5)] D tc h0 sa H0 post (fun (_ : Int32) (H1 : Heap) => H1 = H0) (fun u : Int32 => some (.int u)) := by
  have hA0 : ∀ q : Nat, (fun _ : Nat => False) q → h0 ≤ q := fun _ h => h.elim
  refine MB.of RX0 [(0, .ref (ad 5))] (by decide +kernel) rfl (Nat.le_of_ble_eq_true rfl) rfl ?_
  intro p e s m below meth c ls X hr hin hT hH hS hl
  subst hH
  have hx := X.1
  have hb := X.2.1
  have hown := X.2.2.2.1
  have hU := X.2.2.2.2.1.1
  unfold wp_X0_isBalanced at hw
  refine lv_aload_n hx hb dX0_isBalanced_0 rfl (lv_at hl 0 rfl) ?_
  refine g_get X dX0_isBalanced_1 f_X0_41 hBw 5 (v := .int (w 5 2)) rfl rfl ?_
  refine lv_istore_n (lv' := [(1, .int (w 5 2)), (0, .ref (ad 5))]) hx hb dX0_isBalanced_4 rfl hl (by decide) rfl (fun ls hl => ?_)
  refine lv_iconst (v := 0) hx hb dX0_isBalanced_5 (by decide) ?_
  refine lv_istore_n (lv' := [(2, .int 0), (1, .int (w 5 2)), (0, .ref (ad 5))]) hx hb dX0_isBalanced_6 rfl hl (by decide) rfl (fun ls hl => ?_)
  obtain ⟨k9, hw⟩ := hw
  exact t_X0_isBalanced_7 X hr hT hA0   k9 _ _ _ _ _ hw hBw hS (lv_sub hl [2, 1, 0] rfl)
abbrev rm_X0_addTo : Room := { frames := 0, cells := 0, slots := 0, locals := 0 }
def wp_X0_addTo_5 (post : Int64 → Prop)   : Nat → Int64 → Int32 → Dt → Prop
  | 0, _, _, _ => False
  | n9 + 1, y3, y5, w => (12 ≤ y5 → post y3) ∧ (¬ 12 ≤ y5 → vp_in y5 12 ∧ (∀ v3 : Int64, v3 = ((31 * y3) + (w 6 y5.toNatClampNeg).toInt64) → (wp_X0_addTo_5 post   n9 v3 (y5 + 1) w)))
set_option maxHeartbeats 4000000 in
set_option maxRecDepth 100000 in
theorem t_X0_addTo_5 {p : Program} {l : Launch} {e : Env} {s : State} {m : MethodId} {args : Array Value} {below : List Frame} {meth : Method} {c : Code} {D : va_G} {tc : Nat → ClassId} {h0 : Nat} {sa : Nat → Nat}  {ad : Nat → Nat} {A : Nat → Prop} {post : Int64 → Prop}  (X : Cx p c s m meth cX0_addTo 6 RX0 D tc) (hr : meth.sig.returnType = (Option.some FieldType.long)) (hT : ST h0 sa s s.heap) (hA0 : ∀ q, (fun _ => False) q → h0 ≤ q)    : ∀ (n9 : Nat) (y3 : Int64) (y5 : Int32) (w : Dt) (locs : List Loc) (ls : Array Slot), wp_X0_addTo_5 post   n9 y3 y5 w → (Blk D tc A (shW ad) ad w s.heap) → va_S (fun _ => False) s.heap s.heap locs → lv_has ls 6 [(0, .ref (ad 5)), (3, .long y3), (5, .int y5)] → W p l e rm_X0_addTo s m args below meth c s.heap locs 0 0 (MQ below (QB post (fun (_ : Int64) (H1 : Heap) => H1 = s.heap) (fun u : Int64 => some (.long u)) (fun _ => False)) args s rm_X0_addTo.cells rm_X0_addTo.slots (fun _ => False)) (F0 m 5 ls []) := by
  have hx := X.1
  have hb := X.2.1
  have hown := X.2.2.2.1
  have hU := X.2.2.2.2.1.1
  intro n9
  induction n9 with
  | zero =>
    intro y3 y5 w  locs ls hw
    exact hw.elim
  | succ n9 ih =>
    intro y3 y5 w  locs ls hw hBw hS hl
    unfold wp_X0_addTo_5 at hw
    refine lv_iload hx hb dX0_addTo_5 (lv_at hl 2 rfl) ?_
    refine lv_bipush (v := 12) hx hb dX0_addTo_7 (by decide) ?_
    refine lv_icmp_ge (tgt := 33) hx hb dX0_addTo_9 (by decide) (fun c1 => ?_) (fun c1 => ?_)
    · have hw := hw.1 c1
      refine lv_lload_n hx hb dX0_addTo_33 rfl (lv_at hl 1 rfl) ?_
      exact e_l X hr dX0_addTo_34 hS (y3) rfl hw rfl ⟨Nat.le_of_ble_eq_true rfl, Nat.le_of_ble_eq_true rfl⟩
    · have hw := hw.2 c1
      refine lv_ldc2 (v := 31) hx hb hown (hU.use w_295) dX0_addTo_12 ?_
      refine lv_lload_n hx hb dX0_addTo_15 rfl (lv_at hl 1 rfl) ?_
      refine lv_lmul hx hb dX0_addTo_16 ?_
      refine lv_aload_n hx hb dX0_addTo_17 rfl (lv_at hl 0 rfl) ?_
      refine g_get X dX0_addTo_18 f_X0_9 hBw 5 (v := .ref (ad 6)) rfl rfl ?_
      refine lv_iload hx hb dX0_addTo_21 (lv_at hl 2 rfl) ?_
      obtain ⟨o2, hw⟩ := hw
      refine g_iald X dX0_addTo_23 hBw 6 rfl o2 rfl ?_
      refine lv_i2l (v := (w 6 y5.toNatClampNeg).toInt64) hx hb dX0_addTo_24 rfl ?_
      refine lv_ladd hx hb dX0_addTo_25 ?_
      refine lv_topl (fun v3 ev3 => ?_)
      have hw := hw v3 ev3
      refine lv_lstore_n (lv' := [(3, .long v3), (0, .ref (ad 5)), (5, .int y5)]) hx hb dX0_addTo_26 rfl hl (by decide) rfl (fun ls hl => ?_)
      refine lv_iinc (lv' := [(5, .int (y5 + 1)), (3, .long v3), (0, .ref (ad 5))]) hx hb dX0_addTo_27 hl (k := 2) rfl (by rfl) (by decide) rfl (fun ls hl => ?_)
      refine lv_goto (tgt := 5) hx hb dX0_addTo_30 (by decide) ?_
      exact ih _ _ _ _ _ hw hBw hS (lv_sub hl [2, 1, 0] rfl)
def wp_X0_addTo (post : Int64 → Prop) (w : Dt) (x1 : Int64) : Prop := ∃ k9 : Nat, wp_X0_addTo_5 post   k9 x1 0 w
set_option maxHeartbeats 4000000 in
set_option maxRecDepth 100000 in
theorem c_X0_addTo (l : Launch) (D : va_G) (tc : Nat → ClassId) (h0 : Nat) (sa : Nat → Nat) (x1 : Int64) (H0 : Heap) {ad : Nat → Nat} {A : Nat → Prop} {w : Dt} (hBw : Blk D tc A (shW ad) ad w H0)  {post : Int64 → Prop} (hw : wp_X0_addTo post w x1) : MB l yX0_addTo cX0_addTo 6 (Option.some FieldType.long) rm_X0_addTo (fun _ => False) [.ref (ad 5), .long x1] D tc h0 sa H0 post (fun (_ : Int64) (H1 : Heap) => H1 = H0) (fun u : Int64 => some (.long u)) := by
  have hA0 : ∀ q : Nat, (fun _ : Nat => False) q → h0 ≤ q := fun _ h => h.elim
  refine MB.of RX0 [(0, .ref (ad 5)), (1, .long x1)] (by decide +kernel) rfl (Nat.le_of_ble_eq_true rfl) rfl ?_
  intro p e s m below meth c ls X hr hin hT hH hS hl
  subst hH
  have hx := X.1
  have hb := X.2.1
  have hown := X.2.2.2.1
  have hU := X.2.2.2.2.1.1
  unfold wp_X0_addTo at hw
  refine lv_lload_n hx hb dX0_addTo_0 rfl (lv_at hl 1 rfl) ?_
  refine lv_lstore_n (lv' := [(3, .long x1), (0, .ref (ad 5)), (1, .long x1)]) hx hb dX0_addTo_1 rfl hl (by decide) rfl (fun ls hl => ?_)
  refine lv_iconst (v := 0) hx hb dX0_addTo_2 (by decide) ?_
  refine lv_istore (lv' := [(5, .int 0), (3, .long x1), (0, .ref (ad 5)), (1, .long x1)]) hx hb dX0_addTo_3 hl (by decide) rfl (fun ls hl => ?_)
  obtain ⟨k9, hw⟩ := hw
  exact t_X0_addTo_5 X hr hT hA0   k9 _ _ _ _ _ hw hBw hS (lv_sub hl [2, 1, 0] rfl)
