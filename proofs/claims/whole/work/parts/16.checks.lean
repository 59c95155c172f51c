theorem tk0 : TK "Bandworld" 307 311 0 ["java/lang/RuntimeException", "java/lang/Exception"] := ⟨by decide +kernel, by decide +kernel, w_456, w_16, _, _, 7, Bundle.six, rfl, by decide +kernel, by decide +kernel⟩
theorem tk1 : TK "Bandworld" 111 115 1 ["java/lang/RuntimeException", "java/lang/Exception"] := ⟨by decide +kernel, by decide +kernel, w_472, w_19, _, _, 7, Bundle.six, rfl, by decide +kernel, by decide +kernel⟩
theorem tk2 : TK "Bandworld" 363 367 2 ["java/lang/RuntimeException", "java/lang/Exception"] := ⟨by decide +kernel, by decide +kernel, w_643, w_25, _, _, 7, Bundle.six, rfl, by decide +kernel, by decide +kernel⟩
theorem tk3 : TK "Bandworld" 156 160 3 ["java/lang/RuntimeException", "java/lang/Exception"] := ⟨by decide +kernel, by decide +kernel, w_681, w_30, _, _, 7, Bundle.six, rfl, by decide +kernel, by decide +kernel⟩
theorem tk4 : TK "Bandworld" 73 77 4 ["java/lang/RuntimeException", "java/lang/Exception"] := ⟨by decide +kernel, by decide +kernel, w_536, w_20, _, _, 13, prog_46_method_4_code, rfl, by decide +kernel, by decide +kernel⟩
theorem tk5 : TK "Bandworld" 322 326 5 ["java/lang/RuntimeException", "java/lang/Exception"] := ⟨by decide +kernel, by decide +kernel, w_1137, w_38, _, _, 7, Bundle.six, rfl, by decide +kernel, by decide +kernel⟩
abbrev rm_X8_checkIndex : Room := { frames := 6, cells := 1, slots := 6, locals := 90 }
def wp_X8_checkIndex_9 (post : Unit → Prop) (xpost : Nat → Prop)    : Prop := xpost 0
set_option maxHeartbeats 4000000 in
set_option maxRecDepth 100000 in
theorem t_X8_checkIndex_9 {p : Program} {l : Launch} {e : Env} {s : State} {m : MethodId} {args : Array Value} {below : List Frame} {meth : Method} {c : Code} {D : va_G} {tc : Nat → ClassId} {h0 : Nat} {sa : Nat → Nat}   {post : Unit → Prop} {xpost : Nat → Prop}  (X : Cx p c s m meth cX8_checkIndex 2 RX8 D tc) (hr : meth.sig.returnType = (Option.none : Option FieldType)) (hT : ST h0 sa s s.heap) (hA0 : ∀ q, (fun _ => False) q → h0 ≤ q) (hlf : l.stackTraces = false) (hnt : ∀ x ∈ c.exceptionTable.toList, False)  : ∀  (locs : List Loc) (ls : Array Slot), wp_X8_checkIndex_9 post xpost    → va_S (fun _ => False) s.heap s.heap locs → lv_has ls 2 [] → W p l e rm_X8_checkIndex s m args below meth c s.heap locs 0 0 (vx_MQ below (QB post (fun (_ : Unit) (H1 : Heap) => H1 = s.heap) (fun _ : Unit => none) (fun _ => False)) (XB xpost) args s rm_X8_checkIndex.cells rm_X8_checkIndex.slots (fun _ => False)) (F0 m 9 ls []) := by
  have hx := X.1
  have hb := X.2.1
  have hown := X.2.2.2.1
  have hU := X.2.2.2.2.1.1
  intro   locs ls hw  hS hl
  unfold wp_X8_checkIndex_9 at hw
  exact g_throwW X hlf tk0 (text := "there is no such number") (by decide) hT hnt hA0 hS hl.1 dX8_checkIndex_9 dX8_checkIndex_12 dX8_checkIndex_13 dX8_checkIndex_16 dX8_checkIndex_19 ⟨Nat.le_of_ble_eq_true rfl, Nat.le_of_ble_eq_true rfl, Nat.le_of_ble_eq_true rfl, Nat.le_of_ble_eq_true rfl, Nat.le_of_ble_eq_true rfl, Nat.le_of_ble_eq_true rfl⟩ hw
def wp_X8_checkIndex (post : Unit → Prop) (xpost : Nat → Prop) (x1 : Int32) (x2 : Int32) : Prop := (x1 < 0 → wp_X8_checkIndex_9 post xpost   ) ∧ (¬ x1 < 0 → (x1 < x2 → post ()) ∧ (¬ x1 < x2 → wp_X8_checkIndex_9 post xpost   ))
set_option maxHeartbeats 4000000 in
set_option maxRecDepth 100000 in
theorem c_X8_checkIndex (l : Launch) (D : va_G) (tc : Nat → ClassId) (h0 : Nat) (sa : Nat → Nat) (x1 : Int32) (x2 : Int32) (H0 : Heap)    (hlf : l.stackTraces = false) {post : Unit → Prop} {xpost : Nat → Prop} (hw : wp_X8_checkIndex post xpost x1 x2) : MX l yX8_checkIndex cX8_checkIndex 2 (Option.none : Option FieldType) rm_X8_checkIndex (fun _ => False) [.int x1, .int x2] D tc h0 sa H0 post (fun (_ : Unit) (H1 : Heap) => H1 = H0) (fun _ : Unit => none) xpost := by
  have hA0 : ∀ q : Nat, (fun _ : Nat => False) q → h0 ≤ q := fun _ h => h.elim
  refine MX.of RX8 [(0, .int x1), (1, .int x2)] (by decide +kernel) rfl (Nat.le_of_ble_eq_true rfl) rfl ?_
  intro p e s m below meth c ls X hr hnt hT hH hS hl
  subst hH
  have hx := X.1
  have hb := X.2.1
  have hown := X.2.2.2.1
  have hU := X.2.2.2.2.1.1
  unfold wp_X8_checkIndex at hw
  refine lv_iload_n hx hb dX8_checkIndex_0 rfl (lv_at hl 0 rfl) ?_
  refine lv_if_lt (tgt := 9) hx hb dX8_checkIndex_1 (by decide) (fun c1 => ?_) (fun c1 => ?_)
  · have hw := hw.1 c1
    exact t_X8_checkIndex_9 X hr hT hA0 hlf hnt   _ _ hw  hS (lv_sub hl [] rfl)
  · have hw := hw.2 c1
    refine lv_iload_n hx hb dX8_checkIndex_4 rfl (lv_at hl 0 rfl) ?_
    refine lv_iload_n hx hb dX8_checkIndex_5 rfl (lv_at hl 1 rfl) ?_
    refine lv_icmp_lt (tgt := 20) hx hb dX8_checkIndex_6 (by decide) (fun c2 => ?_) (fun c2 => ?_)
    · have hw := hw.1 c2
      refine W.widen (k := rm_X8_checkIndex.cells) (n := rm_X8_checkIndex.slots) (Nat.le_of_ble_eq_true rfl) (Nat.le_of_ble_eq_true rfl) ?_
      exact vx_ret (e_v X hr dX8_checkIndex_20 hS () rfl hw rfl ⟨Nat.le_refl _, Nat.le_refl _⟩)
    · have hw := hw.2 c2
      exact t_X8_checkIndex_9 X hr hT hA0 hlf hnt   _ _ hw  hS (lv_sub hl [] rfl)
abbrev rm_X8_checkRange : Room := { frames := 6, cells := 1, slots := 6, locals := 90 }
def wp_X8_checkRange_10 (post : Unit → Prop) (xpost : Nat → Prop)    : Prop := xpost 1
set_option maxHeartbeats 4000000 in
set_option maxRecDepth 100000 in
theorem t_X8_checkRange_10 {p : Program} {l : Launch} {e : Env} {s : State} {m : MethodId} {args : Array Value} {below : List Frame} {meth : Method} {c : Code} {D : va_G} {tc : Nat → ClassId} {h0 : Nat} {sa : Nat → Nat}   {post : Unit → Prop} {xpost : Nat → Prop}  (X : Cx p c s m meth cX8_checkRange 3 RX8 D tc) (hr : meth.sig.returnType = (Option.none : Option FieldType)) (hT : ST h0 sa s s.heap) (hA0 : ∀ q, (fun _ => False) q → h0 ≤ q) (hlf : l.stackTraces = false) (hnt : ∀ x ∈ c.exceptionTable.toList, False)  : ∀  (locs : List Loc) (ls : Array Slot), wp_X8_checkRange_10 post xpost    → va_S (fun _ => False) s.heap s.heap locs → lv_has ls 3 [] → W p l e rm_X8_checkRange s m args below meth c s.heap locs 0 0 (vx_MQ below (QB post (fun (_ : Unit) (H1 : Heap) => H1 = s.heap) (fun _ : Unit => none) (fun _ => False)) (XB xpost) args s rm_X8_checkRange.cells rm_X8_checkRange.slots (fun _ => False)) (F0 m 10 ls []) := by
  have hx := X.1
  have hb := X.2.1
  have hown := X.2.2.2.1
  have hU := X.2.2.2.2.1.1
  intro   locs ls hw  hS hl
  unfold wp_X8_checkRange_10 at hw
  exact g_throwW X hlf tk1 (text := "a number is out of range") (by decide) hT hnt hA0 hS hl.1 dX8_checkRange_10 dX8_checkRange_13 dX8_checkRange_14 dX8_checkRange_17 dX8_checkRange_20 ⟨Nat.le_of_ble_eq_true rfl, Nat.le_of_ble_eq_true rfl, Nat.le_of_ble_eq_true rfl, Nat.le_of_ble_eq_true rfl, Nat.le_of_ble_eq_true rfl, Nat.le_of_ble_eq_true rfl⟩ hw
def wp_X8_checkRange (post : Unit → Prop) (xpost : Nat → Prop) (x1 : Int32) (x2 : Int32) (x3 : Int32) : Prop := (x1 < x2 → wp_X8_checkRange_10 post xpost   ) ∧ (¬ x1 < x2 → (x1 ≤ x3 → post ()) ∧ (¬ x1 ≤ x3 → wp_X8_checkRange_10 post xpost   ))
set_option maxHeartbeats 4000000 in
set_option maxRecDepth 100000 in
theorem c_X8_checkRange (l : Launch) (D : va_G) (tc : Nat → ClassId) (h0 : Nat) (sa : Nat → Nat) (x1 : Int32) (x2 : Int32) (x3 : Int32) (H0 : Heap)    (hlf : l.stackTraces = false) {post : Unit → Prop} {xpost : Nat → Prop} (hw : wp_X8_checkRange post xpost x1 x2 x3) : MX l yX8_checkRange cX8_checkRange 3 (Option.none : Option FieldType) rm_X8_checkRange (fun _ => False) [.int x1, .int x2, .int x3] D tc h0 sa H0 post (fun (_ : Unit) (H1 : Heap) => H1 = H0) (fun _ : Unit => none) xpost := by
  have hA0 : ∀ q : Nat, (fun _ : Nat => False) q → h0 ≤ q := fun _ h => h.elim
  refine MX.of RX8 [(0, .int x1), (1, .int x2), (2, .int x3)] (by decide +kernel) rfl (Nat.le_of_ble_eq_true rfl) rfl ?_
  intro p e s m below meth c ls X hr hnt hT hH hS hl
  subst hH
  have hx := X.1
  have hb := X.2.1
  have hown := X.2.2.2.1
  have hU := X.2.2.2.2.1.1
  unfold wp_X8_checkRange at hw
  refine lv_iload_n hx hb dX8_checkRange_0 rfl (lv_at hl 0 rfl) ?_
  refine lv_iload_n hx hb dX8_checkRange_1 rfl (lv_at hl 1 rfl) ?_
  refine lv_icmp_lt (tgt := 10) hx hb dX8_checkRange_2 (by decide) (fun c1 => ?_) (fun c1 => ?_)
  · have hw := hw.1 c1
    exact t_X8_checkRange_10 X hr hT hA0 hlf hnt   _ _ hw  hS (lv_sub hl [] rfl)
  · have hw := hw.2 c1
    refine lv_iload_n hx hb dX8_checkRange_5 rfl (lv_at hl 0 rfl) ?_
    refine lv_iload_n hx hb dX8_checkRange_6 rfl (lv_at hl 2 rfl) ?_
    refine lv_icmp_le (tgt := 21) hx hb dX8_checkRange_7 (by decide) (fun c2 => ?_) (fun c2 => ?_)
    · have hw := hw.1 c2
      refine W.widen (k := rm_X8_checkRange.cells) (n := rm_X8_checkRange.slots) (Nat.le_of_ble_eq_true rfl) (Nat.le_of_ble_eq_true rfl) ?_
      exact vx_ret (e_v X hr dX8_checkRange_21 hS () rfl hw rfl ⟨Nat.le_refl _, Nat.le_refl _⟩)
    · have hw := hw.2 c2
      exact t_X8_checkRange_10 X hr hT hA0 hlf hnt   _ _ hw  hS (lv_sub hl [] rfl)
abbrev rm_X8_checkLongitude : Room := { frames := 7, cells := 1, slots := 6, locals := 112 }
def wp_X8_checkLongitude (post : Unit → Prop) (xpost : Nat → Prop) (x1 : Int32) : Prop := wp_X8_checkRange (fun _u => post ()) xpost x1 0 3599
set_option maxHeartbeats 4000000 in
set_option maxRecDepth 100000 in
theorem c_X8_checkLongitude (l : Launch) (D : va_G) (tc : Nat → ClassId) (h0 : Nat) (sa : Nat → Nat) (x1 : Int32) (H0 : Heap)    (hlf : l.stackTraces = false) {post : Unit → Prop} {xpost : Nat → Prop} (hw : wp_X8_checkLongitude post xpost x1) : MX l yX8_checkLongitude cX8_checkLongitude 1 (Option.none : Option FieldType) rm_X8_checkLongitude (fun _ => False) [.int x1] D tc h0 sa H0 post (fun (_ : Unit) (H1 : Heap) => H1 = H0) (fun _ : Unit => none) xpost := by
  have hA0 : ∀ q : Nat, (fun _ : Nat => False) q → h0 ≤ q := fun _ h => h.elim
  refine MX.of RX8 [(0, .int x1)] (by decide +kernel) rfl (Nat.le_of_ble_eq_true rfl) rfl ?_
  intro p e s m below meth c ls X hr hnt hT hH hS hl
  subst hH
  have hx := X.1
  have hb := X.2.1
  have hown := X.2.2.2.1
  have hU := X.2.2.2.2.1.1
  unfold wp_X8_checkLongitude at hw
  refine lv_iload_n hx hb dX8_checkLongitude_0 rfl (lv_at hl 0 rfl) ?_
  refine lv_iconst (v := 0) hx hb dX8_checkLongitude_1 (by decide) ?_
  refine lv_sipush (v := 3599) hx hb dX8_checkLongitude_2 (by decide) ?_
  refine g_afterX (st0 := .int 3599 :: .int 0 :: .int x1 :: []) (rest := []) (g_SX X m_X8_40 (c_X8_checkRange l D tc h0 sa x1 0 3599 _ hlf hw) hT hS hA0 dX8_checkLongitude_5 hl.1 rfl rfl ⟨Nat.le_of_ble_eq_true rfl, Nat.le_of_ble_eq_true rfl⟩ (Nat.le_of_ble_eq_true rfl) ⟨Nat.le_of_ble_eq_true rfl, Nat.le_of_ble_eq_true rfl⟩) hS (fun _ h => h.elim) (fun u => []) (fun _ => rfl) (fun k ce q9 H1 locs1 hx9 hz9 ho9 hS9 hce hcv hcl => ?_) (fun u H9 locs hw hP9 hz9 hk9 hS => ?_)
  · exact e_x X hnt ⟨hz9, ho9⟩ hce hcv hcl hx9 hS9 ⟨Nat.le_of_ble_eq_true rfl, Nat.le_of_ble_eq_true rfl⟩
  have e9 : H9 = _ := hP9
  rw [e9] at hS ⊢
  try dsimp only at hw
  refine W.widen (k := rm_X8_checkLongitude.cells) (n := rm_X8_checkLongitude.slots) (Nat.le_of_ble_eq_true rfl) (Nat.le_of_ble_eq_true rfl) ?_
  exact vx_ret (e_v X hr dX8_checkLongitude_8 hS () rfl hw rfl ⟨Nat.le_refl _, Nat.le_refl _⟩)
abbrev rm_X8_checkName : Room := { frames := 6, cells := 1, slots := 6, locals := 90 }
def wp_X8_checkName_12 (post : Unit → Prop) (xpost : Nat → Prop)    : Prop := xpost 1
set_option maxHeartbeats 4000000 in
set_option maxRecDepth 100000 in
theorem t_X8_checkName_12 {p : Program} {l : Launch} {e : Env} {s : State} {m : MethodId} {args : Array Value} {below : List Frame} {meth : Method} {c : Code} {D : va_G} {tc : Nat → ClassId} {h0 : Nat} {sa : Nat → Nat}   {post : Unit → Prop} {xpost : Nat → Prop}  (X : Cx p c s m meth cX8_checkName 1 RX8 D tc) (hr : meth.sig.returnType = (Option.none : Option FieldType)) (hT : ST h0 sa s s.heap) (hA0 : ∀ q, (fun _ => False) q → h0 ≤ q) (hlf : l.stackTraces = false) (hnt : ∀ x ∈ c.exceptionTable.toList, False)  : ∀  (locs : List Loc) (ls : Array Slot), wp_X8_checkName_12 post xpost    → va_S (fun _ => False) s.heap s.heap locs → lv_has ls 1 [] → W p l e rm_X8_checkName s m args below meth c s.heap locs 0 0 (vx_MQ below (QB post (fun (_ : Unit) (H1 : Heap) => H1 = s.heap) (fun _ : Unit => none) (fun _ => False)) (XB xpost) args s rm_X8_checkName.cells rm_X8_checkName.slots (fun _ => False)) (F0 m 12 ls []) := by
  have hx := X.1
  have hb := X.2.1
  have hown := X.2.2.2.1
  have hU := X.2.2.2.2.1.1
  intro   locs ls hw  hS hl
  unfold wp_X8_checkName_12 at hw
  exact g_throwW X hlf tk1 (text := "there is no such name") (by decide) hT hnt hA0 hS hl.1 dX8_checkName_12 dX8_checkName_15 dX8_checkName_16 dX8_checkName_19 dX8_checkName_22 ⟨Nat.le_of_ble_eq_true rfl, Nat.le_of_ble_eq_true rfl, Nat.le_of_ble_eq_true rfl, Nat.le_of_ble_eq_true rfl, Nat.le_of_ble_eq_true rfl, Nat.le_of_ble_eq_true rfl⟩ hw
def wp_X8_checkName (post : Unit → Prop) (xpost : Nat → Prop) (x1 : Int32) : Prop := (x1 < 65 → wp_X8_checkName_12 post xpost   ) ∧ (¬ x1 < 65 → (x1 ≤ 90 → post ()) ∧ (¬ x1 ≤ 90 → wp_X8_checkName_12 post xpost   ))
set_option maxHeartbeats 4000000 in
set_option maxRecDepth 100000 in
theorem c_X8_checkName (l : Launch) (D : va_G) (tc : Nat → ClassId) (h0 : Nat) (sa : Nat → Nat) (x1 : Int32) (H0 : Heap)    (hlf : l.stackTraces = false) {post : Unit → Prop} {xpost : Nat → Prop} (hw : wp_X8_checkName post xpost x1) : MX l yX8_checkName cX8_checkName 1 (Option.none : Option FieldType) rm_X8_checkName (fun _ => False) [.int x1] D tc h0 sa H0 post (fun (_ : Unit) (H1 : Heap) => H1 = H0) (fun _ : Unit => none) xpost := by
  have hA0 : ∀ q : Nat, (fun _ : Nat => False) q → h0 ≤ q := fun _ h => h.elim
  refine MX.of RX8 [(0, .int x1)] (by decide +kernel) rfl (Nat.le_of_ble_eq_true rfl) rfl ?_
  intro p e s m below meth c ls X hr hnt hT hH hS hl
  subst hH
  have hx := X.1
  have hb := X.2.1
  have hown := X.2.2.2.1
  have hU := X.2.2.2.2.1.1
  unfold wp_X8_checkName at hw
  refine lv_iload_n hx hb dX8_checkName_0 rfl (lv_at hl 0 rfl) ?_
  refine lv_bipush (v := 65) hx hb dX8_checkName_1 (by decide) ?_
  refine lv_icmp_lt (tgt := 12) hx hb dX8_checkName_3 (by decide) (fun c1 => ?_) (fun c1 => ?_)
  · have hw := hw.1 c1
    exact t_X8_checkName_12 X hr hT hA0 hlf hnt   _ _ hw  hS (lv_sub hl [] rfl)
  · have hw := hw.2 c1
    refine lv_iload_n hx hb dX8_checkName_6 rfl (lv_at hl 0 rfl) ?_
    refine lv_bipush (v := 90) hx hb dX8_checkName_7 (by decide) ?_
    refine lv_icmp_le (tgt := 23) hx hb dX8_checkName_9 (by decide) (fun c2 => ?_) (fun c2 => ?_)
    · have hw := hw.1 c2
      refine W.widen (k := rm_X8_checkName.cells) (n := rm_X8_checkName.slots) (Nat.le_of_ble_eq_true rfl) (Nat.le_of_ble_eq_true rfl) ?_
      exact vx_ret (e_v X hr dX8_checkName_23 hS () rfl hw rfl ⟨Nat.le_refl _, Nat.le_refl _⟩)
    · have hw := hw.2 c2
      exact t_X8_checkName_12 X hr hT hA0 hlf hnt   _ _ hw  hS (lv_sub hl [] rfl)
abbrev rm_X8_checkRoom : Room := { frames := 6, cells := 1, slots := 6, locals := 90 }
def wp_X8_checkRoom (post : Unit → Prop) (xpost : Nat → Prop) (x1 : Int32) (x2 : Int32) : Prop := (x1 < x2 → post ()) ∧ (¬ x1 < x2 → xpost 2)
set_option maxHeartbeats 4000000 in
set_option maxRecDepth 100000 in
theorem c_X8_checkRoom (l : Launch) (D : va_G) (tc : Nat → ClassId) (h0 : Nat) (sa : Nat → Nat) (x1 : Int32) (x2 : Int32) (H0 : Heap)    (hlf : l.stackTraces = false) {post : Unit → Prop} {xpost : Nat → Prop} (hw : wp_X8_checkRoom post xpost x1 x2) : MX l yX8_checkRoom cX8_checkRoom 2 (Option.none : Option FieldType) rm_X8_checkRoom (fun _ => False) [.int x1, .int x2] D tc h0 sa H0 post (fun (_ : Unit) (H1 : Heap) => H1 = H0) (fun _ : Unit => none) xpost := by
  have hA0 : ∀ q : Nat, (fun _ : Nat => False) q → h0 ≤ q := fun _ h => h.elim
  refine MX.of RX8 [(0, .int x1), (1, .int x2)] (by decide +kernel) rfl (Nat.le_of_ble_eq_true rfl) rfl ?_
  intro p e s m below meth c ls X hr hnt hT hH hS hl
  subst hH
  have hx := X.1
  have hb := X.2.1
  have hown := X.2.2.2.1
  have hU := X.2.2.2.2.1.1
  unfold wp_X8_checkRoom at hw
  refine lv_iload_n hx hb dX8_checkRoom_0 rfl (lv_at hl 0 rfl) ?_
  refine lv_iload_n hx hb dX8_checkRoom_1 rfl (lv_at hl 1 rfl) ?_
  refine lv_icmp_lt (tgt := 16) hx hb dX8_checkRoom_2 (by decide) (fun c1 => ?_) (fun c1 => ?_)
  · have hw := hw.1 c1
    refine W.widen (k := rm_X8_checkRoom.cells) (n := rm_X8_checkRoom.slots) (Nat.le_of_ble_eq_true rfl) (Nat.le_of_ble_eq_true rfl) ?_
    exact vx_ret (e_v X hr dX8_checkRoom_16 hS () rfl hw rfl ⟨Nat.le_refl _, Nat.le_refl _⟩)
  · have hw := hw.2 c1
    exact g_throwW X hlf tk2 (text := "there is no room for another one") (by decide) hT hnt hA0 hS hl.1 dX8_checkRoom_5 dX8_checkRoom_8 dX8_checkRoom_9 dX8_checkRoom_12 dX8_checkRoom_15 ⟨Nat.le_of_ble_eq_true rfl, Nat.le_of_ble_eq_true rfl, Nat.le_of_ble_eq_true rfl, Nat.le_of_ble_eq_true rfl, Nat.le_of_ble_eq_true rfl, Nat.le_of_ble_eq_true rfl⟩ hw
abbrev rm_X8_checkStorm : Room := { frames := 7, cells := 1, slots := 6, locals := 111 }
def wp_X8_checkStorm (post : Unit → Prop) (xpost : Nat → Prop) (r : Dt) (w : Dt) (x1 : Int32) : Prop := wp_X8_checkIndex (fun _u => post ()) xpost x1 (if 12 < (w 7 0) then 12 else (w 7 0))
set_option maxHeartbeats 4000000 in
set_option maxRecDepth 100000 in
theorem c_X8_checkStorm (l : Launch) (D : va_G) (tc : Nat → ClassId) (h0 : Nat) (sa : Nat → Nat) (x1 : Int32) (H0 : Heap) {ar : Nat → Nat} {Ar : Nat → Prop} {sp : Option Nat} {ns : Nat} {np : Nat} {nf : Nat} {sd : Nat → Nat → Nat} {pd : Nat → Nat → Nat} {fd : Nat → Nat → Nat} {sums : Nat → Int64} {ad : Nat → Nat} {A : Nat → Prop} {r : Dt} {w : Dt} (hBr : Blk D tc Ar (shR (ad 0) sp ns np nf sd pd fd sums ar) ar r H0) (hBw : Blk D tc A (shW ad) ad w H0) (hlf : l.stackTraces = false) {post : Unit → Prop} {xpost : Nat → Prop} (hw : wp_X8_checkStorm post xpost r w x1) : MX l yX8_checkStorm cX8_checkStorm 2 (Option.none : Option FieldType) rm_X8_checkStorm (fun _ => False) [.ref (ar 0), .int x1] D tc h0 sa H0 post (fun (_ : Unit) (H1 : Heap) => H1 = H0) (fun _ : Unit => none) xpost := by
  have hA0 : ∀ q : Nat, (fun _ : Nat => False) q → h0 ≤ q := fun _ h => h.elim
  refine MX.of RX8 [(0, .ref (ar 0)), (1, .int x1)] (by decide +kernel) rfl (Nat.le_of_ble_eq_true rfl) rfl ?_
  intro p e s m below meth c ls X hr hnt hT hH hS hl
  subst hH
  have hx := X.1
  have hb := X.2.1
  have hown := X.2.2.2.1
  have hU := X.2.2.2.2.1.1
  unfold wp_X8_checkStorm at hw
  refine lv_iload_n hx hb dX8_checkStorm_0 rfl (lv_at hl 1 rfl) ?_
  refine lv_aload_n hx hb dX8_checkStorm_1 rfl (lv_at hl 0 rfl) ?_
  refine g_get X dX8_checkStorm_2 f_X8_12 hBr 0 (v := .ref (ad 0)) rfl rfl ?_
  refine g_get X dX8_checkStorm_5 f_X8_126 hBw 0 (v := .ref (ad 7)) rfl rfl ?_
  refine g_get X dX8_checkStorm_8 f_X8_130 hBw 7 (v := .int (w 7 0)) rfl rfl ?_
  refine lv_bipush (v := 12) hx hb dX8_checkStorm_11 (by decide) ?_
  refine g_min X hl.1 dX8_checkStorm_13 w_675 w_607 w_21 w_608 ⟨Nat.le_of_ble_eq_true rfl, Nat.le_of_ble_eq_true rfl, Nat.le_of_ble_eq_true rfl, Nat.le_of_ble_eq_true rfl⟩ ?_
  refine g_afterX (st0 := .int (if 12 < (w 7 0) then 12 else (w 7 0)) :: .int x1 :: []) (rest := []) (g_SX X m_X8_36 (c_X8_checkIndex l D tc h0 sa x1 (if 12 < (w 7 0) then 12 else (w 7 0)) _ hlf hw) hT hS hA0 dX8_checkStorm_16 hl.1 rfl rfl ⟨Nat.le_of_ble_eq_true rfl, Nat.le_of_ble_eq_true rfl⟩ (Nat.le_of_ble_eq_true rfl) ⟨Nat.le_of_ble_eq_true rfl, Nat.le_of_ble_eq_true rfl⟩) hS (fun _ h => h.elim) (fun u => []) (fun _ => rfl) (fun k ce q9 H1 locs1 hx9 hz9 ho9 hS9 hce hcv hcl => ?_) (fun u H9 locs hw hP9 hz9 hk9 hS => ?_)
  · exact e_x X hnt ⟨hz9, ho9⟩ hce hcv hcl hx9 hS9 ⟨Nat.le_of_ble_eq_true rfl, Nat.le_of_ble_eq_true rfl⟩
  have e9 : H9 = _ := hP9
  rw [e9] at hS ⊢
  try dsimp only at hw
  refine W.widen (k := rm_X8_checkStorm.cells) (n := rm_X8_checkStorm.slots) (Nat.le_of_ble_eq_true rfl) (Nat.le_of_ble_eq_true rfl) ?_
  exact vx_ret (e_v X hr dX8_checkStorm_19 hS () rfl hw rfl ⟨Nat.le_refl _, Nat.le_refl _⟩)
abbrev rm_X8_checkIsThere : Room := { frames := 6, cells := 1, slots := 6, locals := 90 }
def wp_X8_checkIsThere (post : Unit → Prop) (xpost : Nat → Prop) (r : Dt) (w : Dt) (x1 : Int32) : Prop := vp_in x1 12 ∧ ((¬ (w 13 x1.toNatClampNeg) = 0 → post ()) ∧ ((w 13 x1.toNatClampNeg) = 0 → xpost 4))
set_option maxHeartbeats 4000000 in
set_option maxRecDepth 100000 in
theorem c_X8_checkIsThere (l : Launch) (D : va_G) (tc : Nat → ClassId) (h0 : Nat) (sa : Nat → Nat) (x1 : Int32) (H0 : Heap) {ar : Nat → Nat} {Ar : Nat → Prop} {sp : Option Nat} {ns : Nat} {np : Nat} {nf : Nat} {sd : Nat → Nat → Nat} {pd : Nat → Nat → Nat} {fd : Nat → Nat → Nat} {sums : Nat → Int64} {ad : Nat → Nat} {A : Nat → Prop} {r : Dt} {w : Dt} (hBr : Blk D tc Ar (shR (ad 0) sp ns np nf sd pd fd sums ar) ar r H0) (hBw : Blk D tc A (shW ad) ad w H0) (hlf : l.stackTraces = false) {post : Unit → Prop} {xpost : Nat → Prop} (hw : wp_X8_checkIsThere post xpost r w x1) : MX l yX8_checkIsThere cX8_checkIsThere 2 (Option.none : Option FieldType) rm_X8_checkIsThere (fun _ => False) [.ref (ar 0), .int x1] D tc h0 sa H0 post (fun (_ : Unit) (H1 : Heap) => H1 = H0) (fun _ : Unit => none) xpost := by
  have hA0 : ∀ q : Nat, (fun _ : Nat => False) q → h0 ≤ q := fun _ h => h.elim
  refine MX.of RX8 [(0, .ref (ar 0)), (1, .int x1)] (by decide +kernel) rfl (Nat.le_of_ble_eq_true rfl) rfl ?_
  intro p e s m below meth c ls X hr hnt hT hH hS hl
  subst hH
  have hx := X.1
  have hb := X.2.1
  have hown := X.2.2.2.1
  have hU := X.2.2.2.2.1.1
  unfold wp_X8_checkIsThere at hw
  refine lv_aload_n hx hb dX8_checkIsThere_0 rfl (lv_at hl 0 rfl) ?_
  refine g_get X dX8_checkIsThere_1 f_X8_12 hBr 0 (v := .ref (ad 0)) rfl rfl ?_
  refine g_get X dX8_checkIsThere_4 f_X8_126 hBw 0 (v := .ref (ad 7)) rfl rfl ?_
  refine g_get X dX8_checkIsThere_7 f_X8_152 hBw 7 (v := .ref (ad 13)) rfl rfl ?_
  refine lv_iload_n hx hb dX8_checkIsThere_10 rfl (lv_at hl 1 rfl) ?_
  obtain ⟨o1, hw⟩ := hw
  refine g_zald X dX8_checkIsThere_11 hBw 13 rfl o1 rfl ?_
  refine lv_if_ne (tgt := 26) hx hb dX8_checkIsThere_12 (by decide) (fun c2 => ?_) (fun c2 => ?_)
  · have hw := hw.1 c2
    refine W.widen (k := rm_X8_checkIsThere.cells) (n := rm_X8_checkIsThere.slots) (Nat.le_of_ble_eq_true rfl) (Nat.le_of_ble_eq_true rfl) ?_
    exact vx_ret (e_v X hr dX8_checkIsThere_26 hS () rfl hw rfl ⟨Nat.le_refl _, Nat.le_refl _⟩)
  · have hw := hw.2 c2
    exact g_throwW X hlf tk4 (text := "the storm is gone") (by decide) hT hnt hA0 hS hl.1 dX8_checkIsThere_15 dX8_checkIsThere_18 dX8_checkIsThere_19 dX8_checkIsThere_22 dX8_checkIsThere_25 ⟨Nat.le_of_ble_eq_true rfl, Nat.le_of_ble_eq_true rfl, Nat.le_of_ble_eq_true rfl, Nat.le_of_ble_eq_true rfl, Nat.le_of_ble_eq_true rfl, Nat.le_of_ble_eq_true rfl⟩ hw
abbrev rm_X8_checkNote : Room := { frames := 6, cells := 1, slots := 6, locals := 90 }
def wp_X8_checkNote_24 (post : Unit → Prop) (xpost : Nat → Prop)   (r : Dt) (w : Dt) : Prop := xpost 4
set_option maxHeartbeats 4000000 in
set_option maxRecDepth 100000 in
theorem t_X8_checkNote_24 {p : Program} {l : Launch} {e : Env} {s : State} {m : MethodId} {args : Array Value} {below : List Frame} {meth : Method} {c : Code} {D : va_G} {tc : Nat → ClassId} {h0 : Nat} {sa : Nat → Nat}  {ar : Nat → Nat} {Ar : Nat → Prop} {sp : Option Nat} {ns : Nat} {np : Nat} {nf : Nat} {sd : Nat → Nat → Nat} {pd : Nat → Nat → Nat} {fd : Nat → Nat → Nat} {sums : Nat → Int64} {ad : Nat → Nat} {A : Nat → Prop} {post : Unit → Prop} {xpost : Nat → Prop}  (X : Cx p c s m meth cX8_checkNote 2 RX8 D tc) (hr : meth.sig.returnType = (Option.none : Option FieldType)) (hT : ST h0 sa s s.heap) (hA0 : ∀ q, (fun _ => False) q → h0 ≤ q) (hlf : l.stackTraces = false) (hnt : ∀ x ∈ c.exceptionTable.toList, False)  : ∀ (r : Dt) (w : Dt) (locs : List Loc) (ls : Array Slot), wp_X8_checkNote_24 post xpost   r w → (Blk D tc Ar (shR (ad 0) sp ns np nf sd pd fd sums ar) ar r s.heap) → (Blk D tc A (shW ad) ad w s.heap) → va_S (fun _ => False) s.heap s.heap locs → lv_has ls 2 [] → W p l e rm_X8_checkNote s m args below meth c s.heap locs 0 0 (vx_MQ below (QB post (fun (_ : Unit) (H1 : Heap) => H1 = s.heap) (fun _ : Unit => none) (fun _ => False)) (XB xpost) args s rm_X8_checkNote.cells rm_X8_checkNote.slots (fun _ => False)) (F0 m 24 ls []) := by
  have hx := X.1
  have hb := X.2.1
  have hown := X.2.2.2.1
  have hU := X.2.2.2.2.1.1
  intro r w  locs ls hw hBr hBw hS hl
  unfold wp_X8_checkNote_24 at hw
  exact g_throwW X hlf tk4 (text := "there is no such happening") (by decide) hT hnt hA0 hS hl.1 dX8_checkNote_24 dX8_checkNote_27 dX8_checkNote_28 dX8_checkNote_31 dX8_checkNote_34 ⟨Nat.le_of_ble_eq_true rfl, Nat.le_of_ble_eq_true rfl, Nat.le_of_ble_eq_true rfl, Nat.le_of_ble_eq_true rfl, Nat.le_of_ble_eq_true rfl, Nat.le_of_ble_eq_true rfl⟩ hw
def wp_X8_checkNote (post : Unit → Prop) (xpost : Nat → Prop) (r : Dt) (w : Dt) (x1 : Int32) : Prop := (x1 < 0 → wp_X8_checkNote_24 post xpost   r w) ∧ (¬ x1 < 0 → ((w 19 0) ≤ x1 → wp_X8_checkNote_24 post xpost   r w) ∧ (¬ (w 19 0) ≤ x1 → (x1 < 60 → post ()) ∧ (¬ x1 < 60 → wp_X8_checkNote_24 post xpost   r w)))
set_option maxHeartbeats 4000000 in
set_option maxRecDepth 100000 in
theorem c_X8_checkNote (l : Launch) (D : va_G) (tc : Nat → ClassId) (h0 : Nat) (sa : Nat → Nat) (x1 : Int32) (H0 : Heap) {ar : Nat → Nat} {Ar : Nat → Prop} {sp : Option Nat} {ns : Nat} {np : Nat} {nf : Nat} {sd : Nat → Nat → Nat} {pd : Nat → Nat → Nat} {fd : Nat → Nat → Nat} {sums : Nat → Int64} {ad : Nat → Nat} {A : Nat → Prop} {r : Dt} {w : Dt} (hBr : Blk D tc Ar (shR (ad 0) sp ns np nf sd pd fd sums ar) ar r H0) (hBw : Blk D tc A (shW ad) ad w H0) (hlf : l.stackTraces = false) {post : Unit → Prop} {xpost : Nat → Prop} (hw : wp_X8_checkNote post xpost r w x1) : MX l yX8_checkNote cX8_checkNote 2 (Option.none : Option FieldType) rm_X8_checkNote (fun _ => False) [.ref (ar 0), .int x1] D tc h0 sa H0 post (fun (_ : Unit) (H1 : Heap) => H1 = H0) (fun _ : Unit => none) xpost := by
  have hA0 : ∀ q : Nat, (fun _ : Nat => False) q → h0 ≤ q := fun _ h => h.elim
  refine MX.of RX8 [(0, .ref (ar 0)), (1, .int x1)] (by decide +kernel) rfl (Nat.le_of_ble_eq_true rfl) rfl ?_
  intro p e s m below meth c ls X hr hnt hT hH hS hl
  subst hH
  have hx := X.1
  have hb := X.2.1
  have hown := X.2.2.2.1
  have hU := X.2.2.2.2.1.1
  unfold wp_X8_checkNote at hw
  refine lv_iload_n hx hb dX8_checkNote_0 rfl (lv_at hl 1 rfl) ?_
  refine lv_if_lt (tgt := 24) hx hb dX8_checkNote_1 (by decide) (fun c1 => ?_) (fun c1 => ?_)
  · have hw := hw.1 c1
    exact t_X8_checkNote_24 X hr hT hA0 hlf hnt  _ _ _ _ hw hBr hBw hS (lv_sub hl [] rfl)
  · have hw := hw.2 c1
    refine lv_iload_n hx hb dX8_checkNote_4 rfl (lv_at hl 1 rfl) ?_
    refine lv_aload_n hx hb dX8_checkNote_5 rfl (lv_at hl 0 rfl) ?_
    refine g_get X dX8_checkNote_6 f_X8_12 hBr 0 (v := .ref (ad 0)) rfl rfl ?_
    refine g_get X dX8_checkNote_9 f_X8_193 hBw 0 (v := .ref (ad 19)) rfl rfl ?_
    refine g_get X dX8_checkNote_12 f_X8_312 hBw 19 (v := .int (w 19 0)) rfl rfl ?_
    refine lv_icmp_ge (tgt := 24) hx hb dX8_checkNote_15 (by decide) (fun c2 => ?_) (fun c2 => ?_)
    · have hw := hw.1 c2
      exact t_X8_checkNote_24 X hr hT hA0 hlf hnt  _ _ _ _ hw hBr hBw hS (lv_sub hl [] rfl)
    · have hw := hw.2 c2
      refine lv_iload_n hx hb dX8_checkNote_18 rfl (lv_at hl 1 rfl) ?_
      refine lv_bipush (v := 60) hx hb dX8_checkNote_19 (by decide) ?_
      refine lv_icmp_lt (tgt := 35) hx hb dX8_checkNote_21 (by decide) (fun c3 => ?_) (fun c3 => ?_)
      · have hw := hw.1 c3
        refine W.widen (k := rm_X8_checkNote.cells) (n := rm_X8_checkNote.slots) (Nat.le_of_ble_eq_true rfl) (Nat.le_of_ble_eq_true rfl) ?_
        exact vx_ret (e_v X hr dX8_checkNote_35 hS () rfl hw rfl ⟨Nat.le_refl _, Nat.le_refl _⟩)
      · have hw := hw.2 c3
        exact t_X8_checkNote_24 X hr hT hA0 hlf hnt  _ _ _ _ hw hBr hBw hS (lv_sub hl [] rfl)
abbrev rm_X8_probeAt : Room := { frames := 7, cells := 2, slots := 12, locals := 111 }
def wp_X8_probeAt (post : Nat → Prop) (xpost : Nat → Prop) (r : Dt) (np : Nat) (pw : Nat → Dt) (x1 : Int32) : Prop := wp_X8_checkIndex (fun _u => vp_in x1 4 ∧ ((x1.toNatClampNeg < np → post x1.toNatClampNeg) ∧ (¬ x1.toNatClampNeg < np → xpost 0))) xpost x1 (if 4 < (r 0 6) then 4 else (r 0 6))
set_option maxHeartbeats 4000000 in
set_option maxRecDepth 100000 in
theorem c_X8_probeAt (l : Launch) (D : va_G) (tc : Nat → ClassId) (h0 : Nat) (sa : Nat → Nat) (x1 : Int32) (H0 : Heap) {ar : Nat → Nat} {Ar : Nat → Prop} {sp : Option Nat} {ns : Nat} {nf : Nat} {sd : Nat → Nat → Nat} {pd : Nat → Nat → Nat} {fd : Nat → Nat → Nat} {sums : Nat → Int64} {ad : Nat → Nat} {Ap : Nat → Nat → Prop} {r : Dt} {np : Nat} {pw : Nat → Dt} (hBr : Blk D tc Ar (shR (ad 0) sp ns np nf sd pd fd sums ar) ar r H0) (hBps : ∀ k : Nat, k < np → Blk D tc (Ap k) (shPr (pd k)) (pd k) (pw k) H0) (hlf : l.stackTraces = false) {post : Nat → Prop} {xpost : Nat → Prop} (hw : wp_X8_probeAt post xpost r np pw x1) : MX l yX8_probeAt cX8_probeAt 3 (Option.some (FieldType.object "Bandworld$Probe")) rm_X8_probeAt (fun _ => False) [.ref (ar 0), .int x1] D tc h0 sa H0 post (fun (u : Nat) (H1 : Heap) => H1 = H0 ∧ u < np ∧ u = x1.toNatClampNeg) (fun u : Nat => some (.ref (pd u 0))) xpost := by
  have hA0 : ∀ q : Nat, (fun _ : Nat => False) q → h0 ≤ q := fun _ h => h.elim
  refine MX.of RX8 [(0, .ref (ar 0)), (1, .int x1)] (by decide +kernel) rfl (Nat.le_of_ble_eq_true rfl) rfl ?_
  intro p e s m below meth c ls X hr hnt hT hH hS hl
  subst hH
  have hx := X.1
  have hb := X.2.1
  have hown := X.2.2.2.1
  have hU := X.2.2.2.2.1.1
  unfold wp_X8_probeAt at hw
  refine lv_iload_n hx hb dX8_probeAt_0 rfl (lv_at hl 1 rfl) ?_
  refine lv_aload_n hx hb dX8_probeAt_1 rfl (lv_at hl 0 rfl) ?_
  refine g_get X dX8_probeAt_2 f_X8_228 hBr 0 (v := .int (r 0 6)) rfl rfl ?_
  refine lv_iconst (v := 4) hx hb dX8_probeAt_5 (by decide) ?_
  refine g_min X hl.1 dX8_probeAt_6 w_675 w_607 w_21 w_608 ⟨Nat.le_of_ble_eq_true rfl, Nat.le_of_ble_eq_true rfl, Nat.le_of_ble_eq_true rfl, Nat.le_of_ble_eq_true rfl⟩ ?_
  refine g_afterX (st0 := .int (if 4 < (r 0 6) then 4 else (r 0 6)) :: .int x1 :: []) (rest := []) (g_SX X m_X8_36 (c_X8_checkIndex l D tc h0 sa x1 (if 4 < (r 0 6) then 4 else (r 0 6)) _ hlf hw) hT hS hA0 dX8_probeAt_9 hl.1 rfl rfl ⟨Nat.le_of_ble_eq_true rfl, Nat.le_of_ble_eq_true rfl⟩ (Nat.le_of_ble_eq_true rfl) ⟨Nat.le_of_ble_eq_true rfl, Nat.le_of_ble_eq_true rfl⟩) hS (fun _ h => h.elim) (fun u => []) (fun _ => rfl) (fun k ce q9 H1 locs1 hx9 hz9 ho9 hS9 hce hcv hcl => ?_) (fun u H9 locs hw hP9 hz9 hk9 hS => ?_)
  · exact e_x X hnt ⟨hz9, ho9⟩ hce hcv hcl hx9 hS9 ⟨Nat.le_of_ble_eq_true rfl, Nat.le_of_ble_eq_true rfl⟩
  have e9 : H9 = _ := hP9
  rw [e9] at hS ⊢
  try dsimp only at hw
  refine lv_aload_n hx hb dX8_probeAt_12 rfl (lv_at hl 0 rfl) ?_
  refine g_get X dX8_probeAt_13 f_X8_26 hBr 0 (v := .ref (ar 3)) rfl rfl ?_
  refine lv_iload_n hx hb dX8_probeAt_16 rfl (lv_at hl 1 rfl) ?_
  obtain ⟨o1, hw⟩ := hw
  by_cases c2 : x1.toNatClampNeg < np
  · have hw := hw.1 c2
    refine g_aaldQ X dX8_probeAt_17 hBr 3 rfl rfl o1 (v := .ref (pd x1.toNatClampNeg 0)) (by rw [if_pos c2]; rfl) ?_
    have hBp1 := hBps _ c2
    refine lv_astore_n (lv' := [(2, .ref ((pd x1.toNatClampNeg) 0)), (0, .ref (ar 0)), (1, .int x1)]) hx hb dX8_probeAt_18 rfl hl (by decide) rfl (fun ls hl => ?_)
    refine lv_aload_n hx hb dX8_probeAt_19 rfl (lv_at hl 0 rfl) ?_
    refine lv_ifnonnull (tgt := 34) hx hb dX8_probeAt_20 (by decide) ?_
    refine lv_aload_n hx hb dX8_probeAt_34 rfl (lv_at hl 0 rfl) ?_
    refine W.widen (k := rm_X8_probeAt.cells) (n := rm_X8_probeAt.slots) (Nat.le_of_ble_eq_true rfl) (Nat.le_of_ble_eq_true rfl) ?_
    exact vx_ret (e_a X hr (Or.inl ⟨_, rfl⟩) (Or.inr ⟨_, rfl⟩) dX8_probeAt_35 hS x1.toNatClampNeg rfl hw ⟨rfl, c2, rfl⟩ ⟨Nat.le_refl _, Nat.le_refl _⟩)
  · have hw := hw.2 c2
    refine g_aaldQ X dX8_probeAt_17 hBr 3 rfl rfl o1 (v := .null) (by rw [if_neg c2]; rfl) ?_
    refine lv_astore_nN (lv' := [(2, .null), (0, .ref (ar 0)), (1, .int x1)]) hx hb dX8_probeAt_18 rfl hl (by decide) rfl (fun ls hl => ?_)
    refine lv_aload_nN hx hb dX8_probeAt_19 rfl (lv_at hl 0 rfl) ?_
    refine lv_ifnonnullN hx hb dX8_probeAt_20 ?_
    exact g_throwW X hlf tk0 (text := "there is no such probe") (by decide) hT hnt hA0 hS hl.1 dX8_probeAt_23 dX8_probeAt_26 dX8_probeAt_27 dX8_probeAt_30 dX8_probeAt_33 ⟨Nat.le_of_ble_eq_true rfl, Nat.le_of_ble_eq_true rfl, Nat.le_of_ble_eq_true rfl, Nat.le_of_ble_eq_true rfl, Nat.le_of_ble_eq_true rfl, Nat.le_of_ble_eq_true rfl⟩ hw
abbrev rm_X8_frameAt : Room := { frames := 7, cells := 2, slots := 12, locals := 111 }
def wp_X8_frameAt (post : Nat → Prop) (xpost : Nat → Prop) (r : Dt) (nf : Nat) (fw : Nat → Dt) (x1 : Int32) : Prop := wp_X8_checkIndex (fun _u => vp_in x1 6 ∧ ((x1.toNatClampNeg < nf → post x1.toNatClampNeg) ∧ (¬ x1.toNatClampNeg < nf → xpost 0))) xpost x1 (if 6 < (r 0 8) then 6 else (r 0 8))
set_option maxHeartbeats 4000000 in
set_option maxRecDepth 100000 in
theorem c_X8_frameAt (l : Launch) (D : va_G) (tc : Nat → ClassId) (h0 : Nat) (sa : Nat → Nat) (x1 : Int32) (H0 : Heap) {ar : Nat → Nat} {Ar : Nat → Prop} {sp : Option Nat} {ns : Nat} {np : Nat} {sd : Nat → Nat → Nat} {pd : Nat → Nat → Nat} {fd : Nat → Nat → Nat} {sums : Nat → Int64} {ad : Nat → Nat} {Af : Nat → Nat → Prop} {r : Dt} {nf : Nat} {fw : Nat → Dt} (hBr : Blk D tc Ar (shR (ad 0) sp ns np nf sd pd fd sums ar) ar r H0) (hBfs : ∀ k : Nat, k < nf → Blk D tc (Af k) (shFr (fd k)) (fd k) (fw k) H0) (hlf : l.stackTraces = false) {post : Nat → Prop} {xpost : Nat → Prop} (hw : wp_X8_frameAt post xpost r nf fw x1) : MX l yX8_frameAt cX8_frameAt 3 (Option.some (FieldType.object "Bandworld$Frame")) rm_X8_frameAt (fun _ => False) [.ref (ar 0), .int x1] D tc h0 sa H0 post (fun (u : Nat) (H1 : Heap) => H1 = H0 ∧ u < nf ∧ u = x1.toNatClampNeg) (fun u : Nat => some (.ref (fd u 0))) xpost := by
  have hA0 : ∀ q : Nat, (fun _ : Nat => False) q → h0 ≤ q := fun _ h => h.elim
  refine MX.of RX8 [(0, .ref (ar 0)), (1, .int x1)] (by decide +kernel) rfl (Nat.le_of_ble_eq_true rfl) rfl ?_
  intro p e s m below meth c ls X hr hnt hT hH hS hl
  subst hH
  have hx := X.1
  have hb := X.2.1
  have hown := X.2.2.2.1
  have hU := X.2.2.2.2.1.1
  unfold wp_X8_frameAt at hw
  refine lv_iload_n hx hb dX8_frameAt_0 rfl (lv_at hl 1 rfl) ?_
  refine lv_aload_n hx hb dX8_frameAt_1 rfl (lv_at hl 0 rfl) ?_
  refine g_get X dX8_frameAt_2 f_X8_269 hBr 0 (v := .int (r 0 8)) rfl rfl ?_
  refine lv_bipush (v := 6) hx hb dX8_frameAt_5 (by decide) ?_
  refine g_min X hl.1 dX8_frameAt_7 w_675 w_607 w_21 w_608 ⟨Nat.le_of_ble_eq_true rfl, Nat.le_of_ble_eq_true rfl, Nat.le_of_ble_eq_true rfl, Nat.le_of_ble_eq_true rfl⟩ ?_
  refine g_afterX (st0 := .int (if 6 < (r 0 8) then 6 else (r 0 8)) :: .int x1 :: []) (rest := []) (g_SX X m_X8_36 (c_X8_checkIndex l D tc h0 sa x1 (if 6 < (r 0 8) then 6 else (r 0 8)) _ hlf hw) hT hS hA0 dX8_frameAt_10 hl.1 rfl rfl ⟨Nat.le_of_ble_eq_true rfl, Nat.le_of_ble_eq_true rfl⟩ (Nat.le_of_ble_eq_true rfl) ⟨Nat.le_of_ble_eq_true rfl, Nat.le_of_ble_eq_true rfl⟩) hS (fun _ h => h.elim) (fun u => []) (fun _ => rfl) (fun k ce q9 H1 locs1 hx9 hz9 ho9 hS9 hce hcv hcl => ?_) (fun u H9 locs hw hP9 hz9 hk9 hS => ?_)
  · exact e_x X hnt ⟨hz9, ho9⟩ hce hcv hcl hx9 hS9 ⟨Nat.le_of_ble_eq_true rfl, Nat.le_of_ble_eq_true rfl⟩
  have e9 : H9 = _ := hP9
  rw [e9] at hS ⊢
  try dsimp only at hw
  refine lv_aload_n hx hb dX8_frameAt_13 rfl (lv_at hl 0 rfl) ?_
  refine g_get X dX8_frameAt_14 f_X8_32 hBr 0 (v := .ref (ar 4)) rfl rfl ?_
  refine lv_iload_n hx hb dX8_frameAt_17 rfl (lv_at hl 1 rfl) ?_
  obtain ⟨o1, hw⟩ := hw
  by_cases c2 : x1.toNatClampNeg < nf
  · have hw := hw.1 c2
    refine g_aaldQ X dX8_frameAt_18 hBr 4 rfl rfl o1 (v := .ref (fd x1.toNatClampNeg 0)) (by rw [if_pos c2]; rfl) ?_
    have hBf1 := hBfs _ c2
    refine lv_astore_n (lv' := [(2, .ref ((fd x1.toNatClampNeg) 0)), (0, .ref (ar 0)), (1, .int x1)]) hx hb dX8_frameAt_19 rfl hl (by decide) rfl (fun ls hl => ?_)
    refine lv_aload_n hx hb dX8_frameAt_20 rfl (lv_at hl 0 rfl) ?_
    refine lv_ifnonnull (tgt := 35) hx hb dX8_frameAt_21 (by decide) ?_
    refine lv_aload_n hx hb dX8_frameAt_35 rfl (lv_at hl 0 rfl) ?_
    refine W.widen (k := rm_X8_frameAt.cells) (n := rm_X8_frameAt.slots) (Nat.le_of_ble_eq_true rfl) (Nat.le_of_ble_eq_true rfl) ?_
    exact vx_ret (e_a X hr (Or.inl ⟨_, rfl⟩) (Or.inr ⟨_, rfl⟩) dX8_frameAt_36 hS x1.toNatClampNeg rfl hw ⟨rfl, c2, rfl⟩ ⟨Nat.le_refl _, Nat.le_refl _⟩)
  · have hw := hw.2 c2
    refine g_aaldQ X dX8_frameAt_18 hBr 4 rfl rfl o1 (v := .null) (by rw [if_neg c2]; rfl) ?_
    refine lv_astore_nN (lv' := [(2, .null), (0, .ref (ar 0)), (1, .int x1)]) hx hb dX8_frameAt_19 rfl hl (by decide) rfl (fun ls hl => ?_)
    refine lv_aload_nN hx hb dX8_frameAt_20 rfl (lv_at hl 0 rfl) ?_
    refine lv_ifnonnullN hx hb dX8_frameAt_21 ?_
    exact g_throwW X hlf tk0 (text := "there is no such frame") (by decide) hT hnt hA0 hS hl.1 dX8_frameAt_24 dX8_frameAt_27 dX8_frameAt_28 dX8_frameAt_31 dX8_frameAt_34 ⟨Nat.le_of_ble_eq_true rfl, Nat.le_of_ble_eq_true rfl, Nat.le_of_ble_eq_true rfl, Nat.le_of_ble_eq_true rfl, Nat.le_of_ble_eq_true rfl, Nat.le_of_ble_eq_true rfl⟩ hw
