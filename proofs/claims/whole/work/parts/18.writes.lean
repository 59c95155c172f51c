abbrev rm_X8_setTemperature : Room := { frames := 7, cells := 2, slots := 12, locals := 112 }
def wp_X8_setTemperature (post : Int32 → Dt → Prop) (xpost : Nat → Prop) (r : Dt) (w : Dt) (x1 : Int32) (x2 : Int32) : Prop := wp_X8_checkIndex (fun _u => wp_X8_checkRange (fun _u => wp_X1_tellTemperature (fun r1 w2 => post r1 w2) w x1 x2) xpost x2 50 999) xpost x1 10
set_option maxHeartbeats 4000000 in
set_option maxRecDepth 100000 in
theorem c_X8_setTemperature (l : Launch) (D : va_G) (tc : Nat → ClassId) (h0 : Nat) (sa : Nat → Nat) (x1 : Int32) (x2 : Int32) (H0 : Heap) {ar : Nat → Nat} {Ar : Nat → Prop} {sp : Option Nat} {ns : Nat} {np : Nat} {nf : Nat} {sd : Nat → Nat → Nat} {pd : Nat → Nat → Nat} {fd : Nat → Nat → Nat} {sums : Nat → Int64} {ad : Nat → Nat} {A : Nat → Prop} {r : Dt} {w : Dt} (hBr : Blk D tc Ar (shR (ad 0) sp ns np nf sd pd fd sums ar) ar r H0) (hBw : Blk D tc A (shW ad) ad w H0) (hDr : ∀ q, A q → ¬ Ar q) (hA0 : ∀ q, A q → h0 ≤ q) (hlf : l.stackTraces = false) {post : Int32 → Dt → Prop} {xpost : Nat → Prop} (hw : wp_X8_setTemperature post xpost r w x1 x2) : MX l yX8_setTemperature cX8_setTemperature 3 (Option.some FieldType.int) rm_X8_setTemperature A [.ref (ar 0), .int x1, .int x2] D tc h0 sa H0 (fun u : Int32 × Dt => post u.1 u.2) (fun (u : Int32 × Dt) (H1 : Heap) => Blk D tc A (shW ad) ad u.2 H1) (fun u : Int32 × Dt => some (.int u.1)) xpost := by
  refine MX.of RX8 [(0, .ref (ar 0)), (1, .int x1), (2, .int x2)] (by decide +kernel) rfl (Nat.le_of_ble_eq_true rfl) rfl ?_
  intro p e s m below meth c ls X hr hnt hT hH hS hl
  subst hH
  have hx := X.1
  have hb := X.2.1
  have hown := X.2.2.2.1
  have hU := X.2.2.2.2.1.1
  unfold wp_X8_setTemperature at hw
  refine lv_iload_n hx hb dX8_setTemperature_0 rfl (lv_at hl 1 rfl) ?_
  refine lv_bipush (v := 10) hx hb dX8_setTemperature_1 (by decide) ?_
  refine g_afterX (st0 := .int 10 :: .int x1 :: []) (rest := []) (g_SX X m_X8_36 (c_X8_checkIndex l D tc h0 sa x1 10 _ hlf hw) hT hS hA0 dX8_setTemperature_3 hl.1 rfl rfl ⟨Nat.le_of_ble_eq_true rfl, Nat.le_of_ble_eq_true rfl⟩ (Nat.le_of_ble_eq_true rfl) ⟨Nat.le_of_ble_eq_true rfl, Nat.le_of_ble_eq_true rfl⟩) hS (fun _ h => h.elim) (fun u => []) (fun _ => rfl) (fun k ce q9 H1 locs1 hx9 hz9 ho9 hS9 hce hcv hcl => ?_) (fun u H9 locs hw hP9 hz9 hk9 hS => ?_)
  · exact e_x X hnt ⟨hz9, ho9⟩ hce hcv hcl hx9 hS9 ⟨Nat.le_of_ble_eq_true rfl, Nat.le_of_ble_eq_true rfl⟩
  have e9 : H9 = _ := hP9
  rw [e9] at hS ⊢
  try dsimp only at hw
  refine lv_iload_n hx hb dX8_setTemperature_6 rfl (lv_at hl 2 rfl) ?_
  refine lv_bipush (v := 50) hx hb dX8_setTemperature_7 (by decide) ?_
  refine lv_sipush (v := 999) hx hb dX8_setTemperature_9 (by decide) ?_
  refine g_afterX (st0 := .int 999 :: .int 50 :: .int x2 :: []) (rest := []) (g_SX X m_X8_40 (c_X8_checkRange l D tc h0 sa x2 50 999 _ hlf hw) hT hS hA0 dX8_setTemperature_12 hl.1 rfl rfl ⟨Nat.le_of_ble_eq_true rfl, Nat.le_of_ble_eq_true rfl⟩ (Nat.le_of_ble_eq_true rfl) ⟨Nat.le_of_ble_eq_true rfl, Nat.le_of_ble_eq_true rfl⟩) hS (fun _ h => h.elim) (fun u => []) (fun _ => rfl) (fun k ce q9 H1 locs1 hx9 hz9 ho9 hS9 hce hcv hcl => ?_) (fun u H9 locs hw hP9 hz9 hk9 hS => ?_)
  · exact e_x X hnt ⟨hz9, ho9⟩ hce hcv hcl hx9 hS9 ⟨Nat.le_of_ble_eq_true rfl, Nat.le_of_ble_eq_true rfl⟩
  have e9 : H9 = _ := hP9
  rw [e9] at hS ⊢
  try dsimp only at hw
  refine lv_aload_n hx hb dX8_setTemperature_15 rfl (lv_at hl 0 rfl) ?_
  refine g_get X dX8_setTemperature_16 f_X8_12 hBr 0 (v := .ref (ad 0)) rfl rfl ?_
  refine g_get X dX8_setTemperature_19 f_X8_44 hBw 0 (v := .ref (ad 1)) rfl rfl ?_
  refine lv_iload_n hx hb dX8_setTemperature_22 rfl (lv_at hl 1 rfl) ?_
  refine lv_iload_n hx hb dX8_setTemperature_23 rfl (lv_at hl 2 rfl) ?_
  refine g_after (st0 := .int x2 :: .int x1 :: .ref (ad 1) :: []) (rest := []) (g_V X m_X8_48 (c_X1_tellTemperature l D tc h0 sa x1 x2 _ hBw hA0 hw) (hBw.recv X 1 rfl (q := (RX1, TX1, 8)) rfl) hT hS hA0 dX8_setTemperature_24 hl.1 rfl rfl ⟨Nat.le_of_ble_eq_true rfl, Nat.le_of_ble_eq_true rfl⟩ (Nat.le_of_ble_eq_true rfl) ⟨Nat.le_of_ble_eq_true rfl, Nat.le_of_ble_eq_true rfl⟩) hS (fun _ h => h) (fun u => .int u.1 :: []) (fun _ => rfl) (fun u H9 locs hw hP9 hz9 hk9 hS => ?_)
  obtain ⟨r1, w2⟩ := u
  have hBw : Blk D tc A (shW ad) ad w2 H9 := hP9
  have hBr := hBr.kept (fun q hq hA9 => hk9 q hq (fun z => hDr q z hA9))
  try dsimp only at hw
  refine W.widen (k := rm_X8_setTemperature.cells) (n := rm_X8_setTemperature.slots) (Nat.le_of_ble_eq_true rfl) (Nat.le_of_ble_eq_true rfl) ?_
  exact vx_ret (e_i X hr dX8_setTemperature_27 hS (r1, w2) rfl hw hBw ⟨Nat.le_refl _, Nat.le_refl _⟩)
abbrev rm_X8_setVapour : Room := { frames := 7, cells := 3, slots := 18, locals := 112 }
def wp_X8_setVapour (post : Int32 → Dt → Prop) (xpost : Nat → Prop) (r : Dt) (w : Dt) (x1 : Int32) (x2 : Int32) (x3 : Int32) : Prop := wp_X8_checkIndex (fun _u => wp_X8_checkIndex (fun _u => wp_X8_checkRange (fun _u => wp_X1_tellVapour (fun r1 w2 => post r1 w2) w x1 x2 x3) xpost x3 0 20000) xpost x2 3) xpost x1 10
set_option maxHeartbeats 4000000 in
set_option maxRecDepth 100000 in
theorem c_X8_setVapour (l : Launch) (D : va_G) (tc : Nat → ClassId) (h0 : Nat) (sa : Nat → Nat) (x1 : Int32) (x2 : Int32) (x3 : Int32) (H0 : Heap) {ar : Nat → Nat} {Ar : Nat → Prop} {sp : Option Nat} {ns : Nat} {np : Nat} {nf : Nat} {sd : Nat → Nat → Nat} {pd : Nat → Nat → Nat} {fd : Nat → Nat → Nat} {sums : Nat → Int64} {ad : Nat → Nat} {A : Nat → Prop} {r : Dt} {w : Dt} (hBr : Blk D tc Ar (shR (ad 0) sp ns np nf sd pd fd sums ar) ar r H0) (hBw : Blk D tc A (shW ad) ad w H0) (hDr : ∀ q, A q → ¬ Ar q) (hA0 : ∀ q, A q → h0 ≤ q) (hlf : l.stackTraces = false) {post : Int32 → Dt → Prop} {xpost : Nat → Prop} (hw : wp_X8_setVapour post xpost r w x1 x2 x3) : MX l yX8_setVapour cX8_setVapour 4 (Option.some FieldType.int) rm_X8_setVapour A [.ref (ar 0), .int x1, .int x2, .int x3] D tc h0 sa H0 (fun u : Int32 × Dt => post u.1 u.2) (fun (u : Int32 × Dt) (H1 : Heap) => Blk D tc A (shW ad) ad u.2 H1) (fun u : Int32 × Dt => some (.int u.1)) xpost := by
  refine MX.of RX8 [(0, .ref (ar 0)), (1, .int x1), (2, .int x2), (3, .int x3)] (by decide +kernel) rfl (Nat.le_of_ble_eq_true rfl) rfl ?_
  intro p e s m below meth c ls X hr hnt hT hH hS hl
  subst hH
  have hx := X.1
  have hb := X.2.1
  have hown := X.2.2.2.1
  have hU := X.2.2.2.2.1.1
  unfold wp_X8_setVapour at hw
  refine lv_iload_n hx hb dX8_setVapour_0 rfl (lv_at hl 1 rfl) ?_
  refine lv_bipush (v := 10) hx hb dX8_setVapour_1 (by decide) ?_
  refine g_afterX (st0 := .int 10 :: .int x1 :: []) (rest := []) (g_SX X m_X8_36 (c_X8_checkIndex l D tc h0 sa x1 10 _ hlf hw) hT hS hA0 dX8_setVapour_3 hl.1 rfl rfl ⟨Nat.le_of_ble_eq_true rfl, Nat.le_of_ble_eq_true rfl⟩ (Nat.le_of_ble_eq_true rfl) ⟨Nat.le_of_ble_eq_true rfl, Nat.le_of_ble_eq_true rfl⟩) hS (fun _ h => h.elim) (fun u => []) (fun _ => rfl) (fun k ce q9 H1 locs1 hx9 hz9 ho9 hS9 hce hcv hcl => ?_) (fun u H9 locs hw hP9 hz9 hk9 hS => ?_)
  · exact e_x X hnt ⟨hz9, ho9⟩ hce hcv hcl hx9 hS9 ⟨Nat.le_of_ble_eq_true rfl, Nat.le_of_ble_eq_true rfl⟩
  have e9 : H9 = _ := hP9
  rw [e9] at hS ⊢
  try dsimp only at hw
  refine lv_iload_n hx hb dX8_setVapour_6 rfl (lv_at hl 2 rfl) ?_
  refine lv_iconst (v := 3) hx hb dX8_setVapour_7 (by decide) ?_
  refine g_afterX (st0 := .int 3 :: .int x2 :: []) (rest := []) (g_SX X m_X8_36 (c_X8_checkIndex l D tc h0 sa x2 3 _ hlf hw) hT hS hA0 dX8_setVapour_8 hl.1 rfl rfl ⟨Nat.le_of_ble_eq_true rfl, Nat.le_of_ble_eq_true rfl⟩ (Nat.le_of_ble_eq_true rfl) ⟨Nat.le_of_ble_eq_true rfl, Nat.le_of_ble_eq_true rfl⟩) hS (fun _ h => h.elim) (fun u => []) (fun _ => rfl) (fun k ce q9 H1 locs1 hx9 hz9 ho9 hS9 hce hcv hcl => ?_) (fun u H9 locs hw hP9 hz9 hk9 hS => ?_)
  · exact e_x X hnt ⟨hz9, ho9⟩ hce hcv hcl hx9 hS9 ⟨Nat.le_of_ble_eq_true rfl, Nat.le_of_ble_eq_true rfl⟩
  have e9 : H9 = _ := hP9
  rw [e9] at hS ⊢
  try dsimp only at hw
  refine lv_iload_n hx hb dX8_setVapour_11 rfl (lv_at hl 3 rfl) ?_
  refine lv_iconst (v := 0) hx hb dX8_setVapour_12 (by decide) ?_
  refine lv_sipush (v := 20000) hx hb dX8_setVapour_13 (by decide) ?_
  refine g_afterX (st0 := .int 20000 :: .int 0 :: .int x3 :: []) (rest := []) (g_SX X m_X8_40 (c_X8_checkRange l D tc h0 sa x3 0 20000 _ hlf hw) hT hS hA0 dX8_setVapour_16 hl.1 rfl rfl ⟨Nat.le_of_ble_eq_true rfl, Nat.le_of_ble_eq_true rfl⟩ (Nat.le_of_ble_eq_true rfl) ⟨Nat.le_of_ble_eq_true rfl, Nat.le_of_ble_eq_true rfl⟩) hS (fun _ h => h.elim) (fun u => []) (fun _ => rfl) (fun k ce q9 H1 locs1 hx9 hz9 ho9 hS9 hce hcv hcl => ?_) (fun u H9 locs hw hP9 hz9 hk9 hS => ?_)
  · exact e_x X hnt ⟨hz9, ho9⟩ hce hcv hcl hx9 hS9 ⟨Nat.le_of_ble_eq_true rfl, Nat.le_of_ble_eq_true rfl⟩
  have e9 : H9 = _ := hP9
  rw [e9] at hS ⊢
  try dsimp only at hw
  refine lv_aload_n hx hb dX8_setVapour_19 rfl (lv_at hl 0 rfl) ?_
  refine g_get X dX8_setVapour_20 f_X8_12 hBr 0 (v := .ref (ad 0)) rfl rfl ?_
  refine g_get X dX8_setVapour_23 f_X8_44 hBw 0 (v := .ref (ad 1)) rfl rfl ?_
  refine lv_iload_n hx hb dX8_setVapour_26 rfl (lv_at hl 1 rfl) ?_
  refine lv_iload_n hx hb dX8_setVapour_27 rfl (lv_at hl 2 rfl) ?_
  refine lv_iload_n hx hb dX8_setVapour_28 rfl (lv_at hl 3 rfl) ?_
  refine g_after (st0 := .int x3 :: .int x2 :: .int x1 :: .ref (ad 1) :: []) (rest := []) (g_V X m_X8_58 (c_X1_tellVapour l D tc h0 sa x1 x2 x3 _ hBw hA0 hw) (hBw.recv X 1 rfl (q := (RX1, TX1, 8)) rfl) hT hS hA0 dX8_setVapour_29 hl.1 rfl rfl ⟨Nat.le_of_ble_eq_true rfl, Nat.le_of_ble_eq_true rfl⟩ (Nat.le_of_ble_eq_true rfl) ⟨Nat.le_of_ble_eq_true rfl, Nat.le_of_ble_eq_true rfl⟩) hS (fun _ h => h) (fun u => .int u.1 :: []) (fun _ => rfl) (fun u H9 locs hw hP9 hz9 hk9 hS => ?_)
  obtain ⟨r1, w2⟩ := u
  have hBw : Blk D tc A (shW ad) ad w2 H9 := hP9
  have hBr := hBr.kept (fun q hq hA9 => hk9 q hq (fun z => hDr q z hA9))
  try dsimp only at hw
  refine W.widen (k := rm_X8_setVapour.cells) (n := rm_X8_setVapour.slots) (Nat.le_of_ble_eq_true rfl) (Nat.le_of_ble_eq_true rfl) ?_
  exact vx_ret (e_i X hr dX8_setVapour_32 hS (r1, w2) rfl hw hBw ⟨Nat.le_refl _, Nat.le_refl _⟩)
abbrev rm_X8_setCore : Room := { frames := 7, cells := 1, slots := 6, locals := 112 }
def wp_X8_setCore (post : Int32 → Dt → Prop) (xpost : Nat → Prop) (r : Dt) (w : Dt) (x1 : Int32) : Prop := wp_X8_checkRange (fun _u => ∀ w1 : Dt, w1 = up2 w 1 3 x1 → (post (w 1 3) w1)) xpost x1 0 9
set_option maxHeartbeats 4000000 in
set_option maxRecDepth 100000 in
theorem c_X8_setCore (l : Launch) (D : va_G) (tc : Nat → ClassId) (h0 : Nat) (sa : Nat → Nat) (x1 : Int32) (H0 : Heap) {ar : Nat → Nat} {Ar : Nat → Prop} {sp : Option Nat} {ns : Nat} {np : Nat} {nf : Nat} {sd : Nat → Nat → Nat} {pd : Nat → Nat → Nat} {fd : Nat → Nat → Nat} {sums : Nat → Int64} {ad : Nat → Nat} {A : Nat → Prop} {r : Dt} {w : Dt} (hBr : Blk D tc Ar (shR (ad 0) sp ns np nf sd pd fd sums ar) ar r H0) (hBw : Blk D tc A (shW ad) ad w H0) (hDr : ∀ q, A q → ¬ Ar q) (hA0 : ∀ q, A q → h0 ≤ q) (hlf : l.stackTraces = false) {post : Int32 → Dt → Prop} {xpost : Nat → Prop} (hw : wp_X8_setCore post xpost r w x1) : MX l yX8_setCore cX8_setCore 3 (Option.some FieldType.int) rm_X8_setCore A [.ref (ar 0), .int x1] D tc h0 sa H0 (fun u : Int32 × Dt => post u.1 u.2) (fun (u : Int32 × Dt) (H1 : Heap) => Blk D tc A (shW ad) ad u.2 H1) (fun u : Int32 × Dt => some (.int u.1)) xpost := by
  refine MX.of RX8 [(0, .ref (ar 0)), (1, .int x1)] (by decide +kernel) rfl (Nat.le_of_ble_eq_true rfl) rfl ?_
  intro p e s m below meth c ls X hr hnt hT hH hS hl
  subst hH
  have hx := X.1
  have hb := X.2.1
  have hown := X.2.2.2.1
  have hU := X.2.2.2.2.1.1
  unfold wp_X8_setCore at hw
  refine lv_iload_n hx hb dX8_setCore_0 rfl (lv_at hl 1 rfl) ?_
  refine lv_iconst (v := 0) hx hb dX8_setCore_1 (by decide) ?_
  refine lv_bipush (v := 9) hx hb dX8_setCore_2 (by decide) ?_
  refine g_afterX (st0 := .int 9 :: .int 0 :: .int x1 :: []) (rest := []) (g_SX X m_X8_40 (c_X8_checkRange l D tc h0 sa x1 0 9 _ hlf hw) hT hS hA0 dX8_setCore_4 hl.1 rfl rfl ⟨Nat.le_of_ble_eq_true rfl, Nat.le_of_ble_eq_true rfl⟩ (Nat.le_of_ble_eq_true rfl) ⟨Nat.le_of_ble_eq_true rfl, Nat.le_of_ble_eq_true rfl⟩) hS (fun _ h => h.elim) (fun u => []) (fun _ => rfl) (fun k ce q9 H1 locs1 hx9 hz9 ho9 hS9 hce hcv hcl => ?_) (fun u H9 locs hw hP9 hz9 hk9 hS => ?_)
  · exact e_x X hnt ⟨hz9, ho9⟩ hce hcv hcl hx9 hS9 ⟨Nat.le_of_ble_eq_true rfl, Nat.le_of_ble_eq_true rfl⟩
  have e9 : H9 = _ := hP9
  rw [e9] at hS ⊢
  try dsimp only at hw
  refine lv_aload_n hx hb dX8_setCore_7 rfl (lv_at hl 0 rfl) ?_
  refine g_get X dX8_setCore_8 f_X8_12 hBr 0 (v := .ref (ad 0)) rfl rfl ?_
  refine g_get X dX8_setCore_11 f_X8_44 hBw 0 (v := .ref (ad 1)) rfl rfl ?_
  refine g_get X dX8_setCore_14 f_X8_80 hBw 1 (v := .int (w 1 3)) rfl rfl ?_
  refine lv_istore_n (lv' := [(2, .int (w 1 3)), (0, .ref (ar 0)), (1, .int x1)]) hx hb dX8_setCore_17 rfl hl (by decide) rfl (fun ls hl => ?_)
  refine lv_aload_n hx hb dX8_setCore_18 rfl (lv_at hl 1 rfl) ?_
  refine g_get X dX8_setCore_19 f_X8_12 hBr 0 (v := .ref (ad 0)) rfl rfl ?_
  refine g_get X dX8_setCore_22 f_X8_44 hBw 0 (v := .ref (ad 1)) rfl rfl ?_
  refine lv_iload_n hx hb dX8_setCore_25 rfl (lv_at hl 2 rfl) ?_
  refine g_puti X dX8_setCore_26 f_X8_80 hBw hS 1 rfl (x := x1) rfl rfl rfl (fun H locs hBw oq hS => ?_)
  have hBr := hBr.kept1 oq (hDr _ (hBw.in (i := 1) rfl))
  obtain ⟨w1, ew1⟩ : ∃ z : Dt, z = up2 w 1 3 x1 := ⟨_, rfl⟩
  rw [← ew1] at hBw
  have hw := hw w1 ew1
  refine lv_iload_n hx hb dX8_setCore_29 rfl (lv_at hl 0 rfl) ?_
  refine W.widen (k := rm_X8_setCore.cells) (n := rm_X8_setCore.slots) (Nat.le_of_ble_eq_true rfl) (Nat.le_of_ble_eq_true rfl) ?_
  exact vx_ret (e_i X hr dX8_setCore_30 hS ((w 1 3), w1) rfl hw hBw ⟨Nat.le_refl _, Nat.le_refl _⟩)
abbrev rm_X8_setTurning : Room := { frames := 7, cells := 2, slots := 12, locals := 112 }
def wp_X8_setTurning (post : Int32 → Dt → Prop) (xpost : Nat → Prop) (r : Dt) (w : Dt) (x1 : Int32) (x2 : Int32) : Prop := wp_X8_checkIndex (fun _u => wp_X8_checkRange (fun _u => wp_X0_tellTurning (fun r1 w2 => post r1 w2) w x1 x2) xpost x2 (-3000) 3000) xpost x1 12
set_option maxHeartbeats 4000000 in
set_option maxRecDepth 100000 in
theorem c_X8_setTurning (l : Launch) (D : va_G) (tc : Nat → ClassId) (h0 : Nat) (sa : Nat → Nat) (x1 : Int32) (x2 : Int32) (H0 : Heap) {ar : Nat → Nat} {Ar : Nat → Prop} {sp : Option Nat} {ns : Nat} {np : Nat} {nf : Nat} {sd : Nat → Nat → Nat} {pd : Nat → Nat → Nat} {fd : Nat → Nat → Nat} {sums : Nat → Int64} {ad : Nat → Nat} {A : Nat → Prop} {r : Dt} {w : Dt} (hBr : Blk D tc Ar (shR (ad 0) sp ns np nf sd pd fd sums ar) ar r H0) (hBw : Blk D tc A (shW ad) ad w H0) (hDr : ∀ q, A q → ¬ Ar q) (hA0 : ∀ q, A q → h0 ≤ q) (hlf : l.stackTraces = false) {post : Int32 → Dt → Prop} {xpost : Nat → Prop} (hw : wp_X8_setTurning post xpost r w x1 x2) : MX l yX8_setTurning cX8_setTurning 3 (Option.some FieldType.int) rm_X8_setTurning A [.ref (ar 0), .int x1, .int x2] D tc h0 sa H0 (fun u : Int32 × Dt => post u.1 u.2) (fun (u : Int32 × Dt) (H1 : Heap) => Blk D tc A (shW ad) ad u.2 H1) (fun u : Int32 × Dt => some (.int u.1)) xpost := by
  refine MX.of RX8 [(0, .ref (ar 0)), (1, .int x1), (2, .int x2)] (by decide +kernel) rfl (Nat.le_of_ble_eq_true rfl) rfl ?_
  intro p e s m below meth c ls X hr hnt hT hH hS hl
  subst hH
  have hx := X.1
  have hb := X.2.1
  have hown := X.2.2.2.1
  have hU := X.2.2.2.2.1.1
  unfold wp_X8_setTurning at hw
  refine lv_iload_n hx hb dX8_setTurning_0 rfl (lv_at hl 1 rfl) ?_
  refine lv_bipush (v := 12) hx hb dX8_setTurning_1 (by decide) ?_
  refine g_afterX (st0 := .int 12 :: .int x1 :: []) (rest := []) (g_SX X m_X8_36 (c_X8_checkIndex l D tc h0 sa x1 12 _ hlf hw) hT hS hA0 dX8_setTurning_3 hl.1 rfl rfl ⟨Nat.le_of_ble_eq_true rfl, Nat.le_of_ble_eq_true rfl⟩ (Nat.le_of_ble_eq_true rfl) ⟨Nat.le_of_ble_eq_true rfl, Nat.le_of_ble_eq_true rfl⟩) hS (fun _ h => h.elim) (fun u => []) (fun _ => rfl) (fun k ce q9 H1 locs1 hx9 hz9 ho9 hS9 hce hcv hcl => ?_) (fun u H9 locs hw hP9 hz9 hk9 hS => ?_)
  · exact e_x X hnt ⟨hz9, ho9⟩ hce hcv hcl hx9 hS9 ⟨Nat.le_of_ble_eq_true rfl, Nat.le_of_ble_eq_true rfl⟩
  have e9 : H9 = _ := hP9
  rw [e9] at hS ⊢
  try dsimp only at hw
  refine lv_iload_n hx hb dX8_setTurning_6 rfl (lv_at hl 2 rfl) ?_
  refine lv_sipush (v := (-3000)) hx hb dX8_setTurning_7 (by decide) ?_
  refine lv_sipush (v := 3000) hx hb dX8_setTurning_10 (by decide) ?_
  refine g_afterX (st0 := .int 3000 :: .int (-3000) :: .int x2 :: []) (rest := []) (g_SX X m_X8_40 (c_X8_checkRange l D tc h0 sa x2 (-3000) 3000 _ hlf hw) hT hS hA0 dX8_setTurning_13 hl.1 rfl rfl ⟨Nat.le_of_ble_eq_true rfl, Nat.le_of_ble_eq_true rfl⟩ (Nat.le_of_ble_eq_true rfl) ⟨Nat.le_of_ble_eq_true rfl, Nat.le_of_ble_eq_true rfl⟩) hS (fun _ h => h.elim) (fun u => []) (fun _ => rfl) (fun k ce q9 H1 locs1 hx9 hz9 ho9 hS9 hce hcv hcl => ?_) (fun u H9 locs hw hP9 hz9 hk9 hS => ?_)
  · exact e_x X hnt ⟨hz9, ho9⟩ hce hcv hcl hx9 hS9 ⟨Nat.le_of_ble_eq_true rfl, Nat.le_of_ble_eq_true rfl⟩
  have e9 : H9 = _ := hP9
  rw [e9] at hS ⊢
  try dsimp only at hw
  refine lv_aload_n hx hb dX8_setTurning_16 rfl (lv_at hl 0 rfl) ?_
  refine g_get X dX8_setTurning_17 f_X8_12 hBr 0 (v := .ref (ad 0)) rfl rfl ?_
  refine g_get X dX8_setTurning_20 f_X8_88 hBw 0 (v := .ref (ad 5)) rfl rfl ?_
  refine lv_iload_n hx hb dX8_setTurning_23 rfl (lv_at hl 1 rfl) ?_
  refine lv_iload_n hx hb dX8_setTurning_24 rfl (lv_at hl 2 rfl) ?_
  refine g_after (st0 := .int x2 :: .int x1 :: .ref (ad 5) :: []) (rest := []) (g_V X m_X8_92 (c_X0_tellTurning l D tc h0 sa x1 x2 _ hBw hA0 hw) (hBw.recv X 5 rfl (q := (RX0, TX0, 4)) rfl) hT hS hA0 dX8_setTurning_25 hl.1 rfl rfl ⟨Nat.le_of_ble_eq_true rfl, Nat.le_of_ble_eq_true rfl⟩ (Nat.le_of_ble_eq_true rfl) ⟨Nat.le_of_ble_eq_true rfl, Nat.le_of_ble_eq_true rfl⟩) hS (fun _ h => h) (fun u => .int u.1 :: []) (fun _ => rfl) (fun u H9 locs hw hP9 hz9 hk9 hS => ?_)
  obtain ⟨r1, w2⟩ := u
  have hBw : Blk D tc A (shW ad) ad w2 H9 := hP9
  have hBr := hBr.kept (fun q hq hA9 => hk9 q hq (fun z => hDr q z hA9))
  try dsimp only at hw
  refine W.widen (k := rm_X8_setTurning.cells) (n := rm_X8_setTurning.slots) (Nat.le_of_ble_eq_true rfl) (Nat.le_of_ble_eq_true rfl) ?_
  exact vx_ret (e_i X hr dX8_setTurning_28 hS (r1, w2) rfl hw hBw ⟨Nat.le_refl _, Nat.le_refl _⟩)
abbrev rm_X8_stir : Room := { frames := 7, cells := 3, slots := 18, locals := 112 }
def wp_X8_stir (post : Int32 → Dt → Prop) (xpost : Nat → Prop) (r : Dt) (w : Dt) (x1 : Int32) (x2 : Int32) (x3 : Int32) : Prop := wp_X8_checkIndex (fun _u => wp_X8_checkIndex (fun _u => ((if 0 ≤ (x1 - x2) then (x1 - x2) else 0 - (x1 - x2)) = 1 → wp_X8_checkRange (fun _u => vp_in x1 12 ∧ (∀ w3 : Dt, w3 = up2 w 6 x1.toNatClampNeg ((w 6 x1.toNatClampNeg) - x3) → (vp_in x2 12 ∧ (∀ w5 : Dt, w5 = up2 w3 6 x2.toNatClampNeg ((w3 6 x2.toNatClampNeg) + x3) → (post (w5 6 x2.toNatClampNeg) w5))))) xpost x3 1 3000) ∧ (¬ (if 0 ≤ (x1 - x2) then (x1 - x2) else 0 - (x1 - x2)) = 1 → xpost 1)) xpost x2 12) xpost x1 12
set_option maxHeartbeats 4000000 in
set_option maxRecDepth 100000 in
theorem c_X8_stir (l : Launch) (D : va_G) (tc : Nat → ClassId) (h0 : Nat) (sa : Nat → Nat) (x1 : Int32) (x2 : Int32) (x3 : Int32) (H0 : Heap) {ar : Nat → Nat} {Ar : Nat → Prop} {sp : Option Nat} {ns : Nat} {np : Nat} {nf : Nat} {sd : Nat → Nat → Nat} {pd : Nat → Nat → Nat} {fd : Nat → Nat → Nat} {sums : Nat → Int64} {ad : Nat → Nat} {A : Nat → Prop} {r : Dt} {w : Dt} (hBr : Blk D tc Ar (shR (ad 0) sp ns np nf sd pd fd sums ar) ar r H0) (hBw : Blk D tc A (shW ad) ad w H0) (hDr : ∀ q, A q → ¬ Ar q) (hA0 : ∀ q, A q → h0 ≤ q) (hlf : l.stackTraces = false) {post : Int32 → Dt → Prop} {xpost : Nat → Prop} (hw : wp_X8_stir post xpost r w x1 x2 x3) : MX l yX8_stir cX8_stir 4 (Option.some FieldType.int) rm_X8_stir A [.ref (ar 0), .int x1, .int x2, .int x3] D tc h0 sa H0 (fun u : Int32 × Dt => post u.1 u.2) (fun (u : Int32 × Dt) (H1 : Heap) => Blk D tc A (shW ad) ad u.2 H1) (fun u : Int32 × Dt => some (.int u.1)) xpost := by
  refine MX.of RX8 [(0, .ref (ar 0)), (1, .int x1), (2, .int x2), (3, .int x3)] (by decide +kernel) rfl (Nat.le_of_ble_eq_true rfl) rfl ?_
  intro p e s m below meth c ls X hr hnt hT hH hS hl
  subst hH
  have hx := X.1
  have hb := X.2.1
  have hown := X.2.2.2.1
  have hU := X.2.2.2.2.1.1
  unfold wp_X8_stir at hw
  refine lv_iload_n hx hb dX8_stir_0 rfl (lv_at hl 1 rfl) ?_
  refine lv_bipush (v := 12) hx hb dX8_stir_1 (by decide) ?_
  refine g_afterX (st0 := .int 12 :: .int x1 :: []) (rest := []) (g_SX X m_X8_36 (c_X8_checkIndex l D tc h0 sa x1 12 _ hlf hw) hT hS hA0 dX8_stir_3 hl.1 rfl rfl ⟨Nat.le_of_ble_eq_true rfl, Nat.le_of_ble_eq_true rfl⟩ (Nat.le_of_ble_eq_true rfl) ⟨Nat.le_of_ble_eq_true rfl, Nat.le_of_ble_eq_true rfl⟩) hS (fun _ h => h.elim) (fun u => []) (fun _ => rfl) (fun k ce q9 H1 locs1 hx9 hz9 ho9 hS9 hce hcv hcl => ?_) (fun u H9 locs hw hP9 hz9 hk9 hS => ?_)
  · exact e_x X hnt ⟨hz9, ho9⟩ hce hcv hcl hx9 hS9 ⟨Nat.le_of_ble_eq_true rfl, Nat.le_of_ble_eq_true rfl⟩
  have e9 : H9 = _ := hP9
  rw [e9] at hS ⊢
  try dsimp only at hw
  refine lv_iload_n hx hb dX8_stir_6 rfl (lv_at hl 2 rfl) ?_
  refine lv_bipush (v := 12) hx hb dX8_stir_7 (by decide) ?_
  refine g_afterX (st0 := .int 12 :: .int x2 :: []) (rest := []) (g_SX X m_X8_36 (c_X8_checkIndex l D tc h0 sa x2 12 _ hlf hw) hT hS hA0 dX8_stir_9 hl.1 rfl rfl ⟨Nat.le_of_ble_eq_true rfl, Nat.le_of_ble_eq_true rfl⟩ (Nat.le_of_ble_eq_true rfl) ⟨Nat.le_of_ble_eq_true rfl, Nat.le_of_ble_eq_true rfl⟩) hS (fun _ h => h.elim) (fun u => []) (fun _ => rfl) (fun k ce q9 H1 locs1 hx9 hz9 ho9 hS9 hce hcv hcl => ?_) (fun u H9 locs hw hP9 hz9 hk9 hS => ?_)
  · exact e_x X hnt ⟨hz9, ho9⟩ hce hcv hcl hx9 hS9 ⟨Nat.le_of_ble_eq_true rfl, Nat.le_of_ble_eq_true rfl⟩
  have e9 : H9 = _ := hP9
  rw [e9] at hS ⊢
  try dsimp only at hw
  refine lv_iload_n hx hb dX8_stir_12 rfl (lv_at hl 1 rfl) ?_
  refine lv_iload_n hx hb dX8_stir_13 rfl (lv_at hl 2 rfl) ?_
  refine lv_isub hx hb dX8_stir_14 ?_
  refine g_abs X hl.1 dX8_stir_15 w_620 w_611 w_21 w_612 ⟨Nat.le_of_ble_eq_true rfl, Nat.le_of_ble_eq_true rfl, Nat.le_of_ble_eq_true rfl, Nat.le_of_ble_eq_true rfl⟩ ?_
  refine lv_iconst (v := 1) hx hb dX8_stir_18 (by decide) ?_
  refine lv_icmp_eq (tgt := 32) hx hb dX8_stir_19 (by decide) (fun c1 => ?_) (fun c1 => ?_)
  · have hw := hw.1 c1
    refine lv_iload_n hx hb dX8_stir_32 rfl (lv_at hl 3 rfl) ?_
    refine lv_iconst (v := 1) hx hb dX8_stir_33 (by decide) ?_
    refine lv_sipush (v := 3000) hx hb dX8_stir_34 (by decide) ?_
    refine g_afterX (st0 := .int 3000 :: .int 1 :: .int x3 :: []) (rest := []) (g_SX X m_X8_40 (c_X8_checkRange l D tc h0 sa x3 1 3000 _ hlf hw) hT hS hA0 dX8_stir_37 hl.1 rfl rfl ⟨Nat.le_of_ble_eq_true rfl, Nat.le_of_ble_eq_true rfl⟩ (Nat.le_of_ble_eq_true rfl) ⟨Nat.le_of_ble_eq_true rfl, Nat.le_of_ble_eq_true rfl⟩) hS (fun _ h => h.elim) (fun u => []) (fun _ => rfl) (fun k ce q9 H1 locs1 hx9 hz9 ho9 hS9 hce hcv hcl => ?_) (fun u H9 locs hw hP9 hz9 hk9 hS => ?_)
    · exact e_x X hnt ⟨hz9, ho9⟩ hce hcv hcl hx9 hS9 ⟨Nat.le_of_ble_eq_true rfl, Nat.le_of_ble_eq_true rfl⟩
    have e9 : H9 = _ := hP9
    rw [e9] at hS ⊢
    try dsimp only at hw
    refine lv_aload_n hx hb dX8_stir_40 rfl (lv_at hl 0 rfl) ?_
    refine g_get X dX8_stir_41 f_X8_12 hBr 0 (v := .ref (ad 0)) rfl rfl ?_
    refine g_get X dX8_stir_44 f_X8_88 hBw 0 (v := .ref (ad 5)) rfl rfl ?_
    refine g_get X dX8_stir_47 f_X8_97 hBw 5 (v := .ref (ad 6)) rfl rfl ?_
    refine lv_iload_n hx hb dX8_stir_50 rfl (lv_at hl 1 rfl) ?_
    refine lv_dup2_11 hx hb dX8_stir_51 rfl rfl ?_
    obtain ⟨o2, hw⟩ := hw
    refine g_iald X dX8_stir_52 hBw 6 rfl o2 rfl ?_
    refine lv_iload_n hx hb dX8_stir_53 rfl (lv_at hl 3 rfl) ?_
    refine lv_isub hx hb dX8_stir_54 ?_
    refine g_iast X dX8_stir_55 hBw hS 6 rfl o2 rfl  (fun H locs hBw oq hS => ?_)
    have hBr := hBr.kept1 oq (hDr _ (hBw.in (i := 6) rfl))
    obtain ⟨w3, ew3⟩ : ∃ z : Dt, z = up2 w 6 x1.toNatClampNeg ((w 6 x1.toNatClampNeg) - x3) := ⟨_, rfl⟩
    rw [← ew3] at hBw
    have hw := hw w3 ew3
    refine lv_aload_n hx hb dX8_stir_56 rfl (lv_at hl 0 rfl) ?_
    refine g_get X dX8_stir_57 f_X8_12 hBr 0 (v := .ref (ad 0)) rfl rfl ?_
    refine g_get X dX8_stir_60 f_X8_88 hBw 0 (v := .ref (ad 5)) rfl rfl ?_
    refine g_get X dX8_stir_63 f_X8_97 hBw 5 (v := .ref (ad 6)) rfl rfl ?_
    refine lv_iload_n hx hb dX8_stir_66 rfl (lv_at hl 2 rfl) ?_
    refine lv_dup2_11 hx hb dX8_stir_67 rfl rfl ?_
    obtain ⟨o4, hw⟩ := hw
    refine g_iald X dX8_stir_68 hBw 6 rfl o4 rfl ?_
    refine lv_iload_n hx hb dX8_stir_69 rfl (lv_at hl 3 rfl) ?_
    refine lv_iadd hx hb dX8_stir_70 ?_
    refine g_iast X dX8_stir_71 hBw hS 6 rfl o4 rfl  (fun H locs hBw oq hS => ?_)
    have hBr := hBr.kept1 oq (hDr _ (hBw.in (i := 6) rfl))
    obtain ⟨w5, ew5⟩ : ∃ z : Dt, z = up2 w3 6 x2.toNatClampNeg ((w3 6 x2.toNatClampNeg) + x3) := ⟨_, rfl⟩
    rw [← ew5] at hBw
    have hw := hw w5 ew5
    refine lv_aload_n hx hb dX8_stir_72 rfl (lv_at hl 0 rfl) ?_
    refine g_get X dX8_stir_73 f_X8_12 hBr 0 (v := .ref (ad 0)) rfl rfl ?_
    refine g_get X dX8_stir_76 f_X8_88 hBw 0 (v := .ref (ad 5)) rfl rfl ?_
    refine g_get X dX8_stir_79 f_X8_97 hBw 5 (v := .ref (ad 6)) rfl rfl ?_
    refine lv_iload_n hx hb dX8_stir_82 rfl (lv_at hl 2 rfl) ?_
    refine g_iald X dX8_stir_83 hBw 6 rfl o4 rfl ?_
    refine W.widen (k := rm_X8_stir.cells) (n := rm_X8_stir.slots) (Nat.le_of_ble_eq_true rfl) (Nat.le_of_ble_eq_true rfl) ?_
    exact vx_ret (e_i X hr dX8_stir_84 hS ((w5 6 x2.toNatClampNeg), w5) rfl hw hBw ⟨Nat.le_refl _, Nat.le_refl _⟩)
  · have hw := hw.2 c1
    exact g_throw X hlf tk1 (text := "both belts are no neighbours") (by decide) hT hnt hA0 hS hl.1 dX8_stir_22 dX8_stir_25 dX8_stir_26 dX8_stir_28 dX8_stir_31 ⟨Nat.le_of_ble_eq_true rfl, Nat.le_of_ble_eq_true rfl, Nat.le_of_ble_eq_true rfl, Nat.le_of_ble_eq_true rfl, Nat.le_of_ble_eq_true rfl, Nat.le_of_ble_eq_true rfl⟩ hw
abbrev rm_X8_setDrag : Room := { frames := 7, cells := 1, slots := 6, locals := 112 }
def wp_X8_setDrag (post : Int32 → Dt → Prop) (xpost : Nat → Prop) (r : Dt) (w : Dt) (x1 : Int32) : Prop := wp_X8_checkRange (fun _u => ∀ w1 : Dt, w1 = up2 w 5 1 x1 → (post (w 5 1) w1)) xpost x1 0 50
set_option maxHeartbeats 4000000 in
set_option maxRecDepth 100000 in
theorem c_X8_setDrag (l : Launch) (D : va_G) (tc : Nat → ClassId) (h0 : Nat) (sa : Nat → Nat) (x1 : Int32) (H0 : Heap) {ar : Nat → Nat} {Ar : Nat → Prop} {sp : Option Nat} {ns : Nat} {np : Nat} {nf : Nat} {sd : Nat → Nat → Nat} {pd : Nat → Nat → Nat} {fd : Nat → Nat → Nat} {sums : Nat → Int64} {ad : Nat → Nat} {A : Nat → Prop} {r : Dt} {w : Dt} (hBr : Blk D tc Ar (shR (ad 0) sp ns np nf sd pd fd sums ar) ar r H0) (hBw : Blk D tc A (shW ad) ad w H0) (hDr : ∀ q, A q → ¬ Ar q) (hA0 : ∀ q, A q → h0 ≤ q) (hlf : l.stackTraces = false) {post : Int32 → Dt → Prop} {xpost : Nat → Prop} (hw : wp_X8_setDrag post xpost r w x1) : MX l yX8_setDrag cX8_setDrag 3 (Option.some FieldType.int) rm_X8_setDrag A [.ref (ar 0), .int x1] D tc h0 sa H0 (fun u : Int32 × Dt => post u.1 u.2) (fun (u : Int32 × Dt) (H1 : Heap) => Blk D tc A (shW ad) ad u.2 H1) (fun u : Int32 × Dt => some (.int u.1)) xpost := by
  refine MX.of RX8 [(0, .ref (ar 0)), (1, .int x1)] (by decide +kernel) rfl (Nat.le_of_ble_eq_true rfl) rfl ?_
  intro p e s m below meth c ls X hr hnt hT hH hS hl
  subst hH
  have hx := X.1
  have hb := X.2.1
  have hown := X.2.2.2.1
  have hU := X.2.2.2.2.1.1
  unfold wp_X8_setDrag at hw
  refine lv_iload_n hx hb dX8_setDrag_0 rfl (lv_at hl 1 rfl) ?_
  refine lv_iconst (v := 0) hx hb dX8_setDrag_1 (by decide) ?_
  refine lv_bipush (v := 50) hx hb dX8_setDrag_2 (by decide) ?_
  refine g_afterX (st0 := .int 50 :: .int 0 :: .int x1 :: []) (rest := []) (g_SX X m_X8_40 (c_X8_checkRange l D tc h0 sa x1 0 50 _ hlf hw) hT hS hA0 dX8_setDrag_4 hl.1 rfl rfl ⟨Nat.le_of_ble_eq_true rfl, Nat.le_of_ble_eq_true rfl⟩ (Nat.le_of_ble_eq_true rfl) ⟨Nat.le_of_ble_eq_true rfl, Nat.le_of_ble_eq_true rfl⟩) hS (fun _ h => h.elim) (fun u => []) (fun _ => rfl) (fun k ce q9 H1 locs1 hx9 hz9 ho9 hS9 hce hcv hcl => ?_) (fun u H9 locs hw hP9 hz9 hk9 hS => ?_)
  · exact e_x X hnt ⟨hz9, ho9⟩ hce hcv hcl hx9 hS9 ⟨Nat.le_of_ble_eq_true rfl, Nat.le_of_ble_eq_true rfl⟩
  have e9 : H9 = _ := hP9
  rw [e9] at hS ⊢
  try dsimp only at hw
  refine lv_aload_n hx hb dX8_setDrag_7 rfl (lv_at hl 0 rfl) ?_
  refine g_get X dX8_setDrag_8 f_X8_12 hBr 0 (v := .ref (ad 0)) rfl rfl ?_
  refine g_get X dX8_setDrag_11 f_X8_88 hBw 0 (v := .ref (ad 5)) rfl rfl ?_
  refine g_get X dX8_setDrag_14 f_X8_116 hBw 5 (v := .int (w 5 1)) rfl rfl ?_
  refine lv_istore_n (lv' := [(2, .int (w 5 1)), (0, .ref (ar 0)), (1, .int x1)]) hx hb dX8_setDrag_17 rfl hl (by decide) rfl (fun ls hl => ?_)
  refine lv_aload_n hx hb dX8_setDrag_18 rfl (lv_at hl 1 rfl) ?_
  refine g_get X dX8_setDrag_19 f_X8_12 hBr 0 (v := .ref (ad 0)) rfl rfl ?_
  refine g_get X dX8_setDrag_22 f_X8_88 hBw 0 (v := .ref (ad 5)) rfl rfl ?_
  refine lv_iload_n hx hb dX8_setDrag_25 rfl (lv_at hl 2 rfl) ?_
  refine g_puti X dX8_setDrag_26 f_X8_116 hBw hS 5 rfl (x := x1) rfl rfl rfl (fun H locs hBw oq hS => ?_)
  have hBr := hBr.kept1 oq (hDr _ (hBw.in (i := 5) rfl))
  obtain ⟨w1, ew1⟩ : ∃ z : Dt, z = up2 w 5 1 x1 := ⟨_, rfl⟩
  rw [← ew1] at hBw
  have hw := hw w1 ew1
  refine lv_iload_n hx hb dX8_setDrag_29 rfl (lv_at hl 0 rfl) ?_
  refine W.widen (k := rm_X8_setDrag.cells) (n := rm_X8_setDrag.slots) (Nat.le_of_ble_eq_true rfl) (Nat.le_of_ble_eq_true rfl) ?_
  exact vx_ret (e_i X hr dX8_setDrag_30 hS ((w 5 1), w1) rfl hw hBw ⟨Nat.le_refl _, Nat.le_refl _⟩)
abbrev rm_X8_addStorm : Room := { frames := 8, cells := 4, slots := 24, locals := 132 }
def wp_X8_addStorm (post : Int32 → Dt → Prop) (xpost : Nat → Prop) (r : Dt) (w : Dt) (x1 : Int32) (x2 : Int32) (x3 : Int32) : Prop := wp_X8_checkIndex (fun _u => wp_X8_checkLongitude (fun _u => wp_X8_checkRange (fun _u => wp_X8_checkRoom (fun _u => wp_X6_begin (fun r1 w2 => post r1 w2) w x1 x2 x3) xpost (w 7 0) 12) xpost x3 10 400) xpost x2) xpost x1 12
set_option maxHeartbeats 4000000 in
set_option maxRecDepth 100000 in
theorem c_X8_addStorm (l : Launch) (D : va_G) (tc : Nat → ClassId) (h0 : Nat) (sa : Nat → Nat) (x1 : Int32) (x2 : Int32) (x3 : Int32) (H0 : Heap) {ar : Nat → Nat} {Ar : Nat → Prop} {sp : Option Nat} {ns : Nat} {np : Nat} {nf : Nat} {sd : Nat → Nat → Nat} {pd : Nat → Nat → Nat} {fd : Nat → Nat → Nat} {sums : Nat → Int64} {ad : Nat → Nat} {A : Nat → Prop} {r : Dt} {w : Dt} (hBr : Blk D tc Ar (shR (ad 0) sp ns np nf sd pd fd sums ar) ar r H0) (hBw : Blk D tc A (shW ad) ad w H0) (hDr : ∀ q, A q → ¬ Ar q) (hA0 : ∀ q, A q → h0 ≤ q) (hlf : l.stackTraces = false) {post : Int32 → Dt → Prop} {xpost : Nat → Prop} (hw : wp_X8_addStorm post xpost r w x1 x2 x3) : MX l yX8_addStorm cX8_addStorm 4 (Option.some FieldType.int) rm_X8_addStorm A [.ref (ar 0), .int x1, .int x2, .int x3] D tc h0 sa H0 (fun u : Int32 × Dt => post u.1 u.2) (fun (u : Int32 × Dt) (H1 : Heap) => Blk D tc A (shW ad) ad u.2 H1) (fun u : Int32 × Dt => some (.int u.1)) xpost := by
  refine MX.of RX8 [(0, .ref (ar 0)), (1, .int x1), (2, .int x2), (3, .int x3)] (by decide +kernel) rfl (Nat.le_of_ble_eq_true rfl) rfl ?_
  intro p e s m below meth c ls X hr hnt hT hH hS hl
  subst hH
  have hx := X.1
  have hb := X.2.1
  have hown := X.2.2.2.1
  have hU := X.2.2.2.2.1.1
  unfold wp_X8_addStorm at hw
  refine lv_iload_n hx hb dX8_addStorm_0 rfl (lv_at hl 1 rfl) ?_
  refine lv_bipush (v := 12) hx hb dX8_addStorm_1 (by decide) ?_
  refine g_afterX (st0 := .int 12 :: .int x1 :: []) (rest := []) (g_SX X m_X8_36 (c_X8_checkIndex l D tc h0 sa x1 12 _ hlf hw) hT hS hA0 dX8_addStorm_3 hl.1 rfl rfl ⟨Nat.le_of_ble_eq_true rfl, Nat.le_of_ble_eq_true rfl⟩ (Nat.le_of_ble_eq_true rfl) ⟨Nat.le_of_ble_eq_true rfl, Nat.le_of_ble_eq_true rfl⟩) hS (fun _ h => h.elim) (fun u => []) (fun _ => rfl) (fun k ce q9 H1 locs1 hx9 hz9 ho9 hS9 hce hcv hcl => ?_) (fun u H9 locs hw hP9 hz9 hk9 hS => ?_)
  · exact e_x X hnt ⟨hz9, ho9⟩ hce hcv hcl hx9 hS9 ⟨Nat.le_of_ble_eq_true rfl, Nat.le_of_ble_eq_true rfl⟩
  have e9 : H9 = _ := hP9
  rw [e9] at hS ⊢
  try dsimp only at hw
  refine lv_iload_n hx hb dX8_addStorm_6 rfl (lv_at hl 2 rfl) ?_
  refine g_afterX (st0 := .int x2 :: []) (rest := []) (g_SX X m_X8_122 (c_X8_checkLongitude l D tc h0 sa x2 _ hlf hw) hT hS hA0 dX8_addStorm_7 hl.1 rfl rfl ⟨Nat.le_of_ble_eq_true rfl, Nat.le_of_ble_eq_true rfl⟩ (Nat.le_of_ble_eq_true rfl) ⟨Nat.le_of_ble_eq_true rfl, Nat.le_of_ble_eq_true rfl⟩) hS (fun _ h => h.elim) (fun u => []) (fun _ => rfl) (fun k ce q9 H1 locs1 hx9 hz9 ho9 hS9 hce hcv hcl => ?_) (fun u H9 locs hw hP9 hz9 hk9 hS => ?_)
  · exact e_x X hnt ⟨hz9, ho9⟩ hce hcv hcl hx9 hS9 ⟨Nat.le_of_ble_eq_true rfl, Nat.le_of_ble_eq_true rfl⟩
  have e9 : H9 = _ := hP9
  rw [e9] at hS ⊢
  try dsimp only at hw
  refine lv_iload_n hx hb dX8_addStorm_10 rfl (lv_at hl 3 rfl) ?_
  refine lv_bipush (v := 10) hx hb dX8_addStorm_11 (by decide) ?_
  refine lv_sipush (v := 400) hx hb dX8_addStorm_13 (by decide) ?_
  refine g_afterX (st0 := .int 400 :: .int 10 :: .int x3 :: []) (rest := []) (g_SX X m_X8_40 (c_X8_checkRange l D tc h0 sa x3 10 400 _ hlf hw) hT hS hA0 dX8_addStorm_16 hl.1 rfl rfl ⟨Nat.le_of_ble_eq_true rfl, Nat.le_of_ble_eq_true rfl⟩ (Nat.le_of_ble_eq_true rfl) ⟨Nat.le_of_ble_eq_true rfl, Nat.le_of_ble_eq_true rfl⟩) hS (fun _ h => h.elim) (fun u => []) (fun _ => rfl) (fun k ce q9 H1 locs1 hx9 hz9 ho9 hS9 hce hcv hcl => ?_) (fun u H9 locs hw hP9 hz9 hk9 hS => ?_)
  · exact e_x X hnt ⟨hz9, ho9⟩ hce hcv hcl hx9 hS9 ⟨Nat.le_of_ble_eq_true rfl, Nat.le_of_ble_eq_true rfl⟩
  have e9 : H9 = _ := hP9
  rw [e9] at hS ⊢
  try dsimp only at hw
  refine lv_aload_n hx hb dX8_addStorm_19 rfl (lv_at hl 0 rfl) ?_
  refine g_get X dX8_addStorm_20 f_X8_12 hBr 0 (v := .ref (ad 0)) rfl rfl ?_
  refine g_get X dX8_addStorm_23 f_X8_126 hBw 0 (v := .ref (ad 7)) rfl rfl ?_
  refine g_get X dX8_addStorm_26 f_X8_130 hBw 7 (v := .int (w 7 0)) rfl rfl ?_
  refine lv_bipush (v := 12) hx hb dX8_addStorm_29 (by decide) ?_
  refine g_afterX (st0 := .int 12 :: .int (w 7 0) :: []) (rest := []) (g_SX X m_X8_135 (c_X8_checkRoom l D tc h0 sa (w 7 0) 12 _ hlf hw) hT hS hA0 dX8_addStorm_31 hl.1 rfl rfl ⟨Nat.le_of_ble_eq_true rfl, Nat.le_of_ble_eq_true rfl⟩ (Nat.le_of_ble_eq_true rfl) ⟨Nat.le_of_ble_eq_true rfl, Nat.le_of_ble_eq_true rfl⟩) hS (fun _ h => h.elim) (fun u => []) (fun _ => rfl) (fun k ce q9 H1 locs1 hx9 hz9 ho9 hS9 hce hcv hcl => ?_) (fun u H9 locs hw hP9 hz9 hk9 hS => ?_)
  · exact e_x X hnt ⟨hz9, ho9⟩ hce hcv hcl hx9 hS9 ⟨Nat.le_of_ble_eq_true rfl, Nat.le_of_ble_eq_true rfl⟩
  have e9 : H9 = _ := hP9
  rw [e9] at hS ⊢
  try dsimp only at hw
  refine lv_aload_n hx hb dX8_addStorm_34 rfl (lv_at hl 0 rfl) ?_
  refine g_get X dX8_addStorm_35 f_X8_12 hBr 0 (v := .ref (ad 0)) rfl rfl ?_
  refine g_get X dX8_addStorm_38 f_X8_126 hBw 0 (v := .ref (ad 7)) rfl rfl ?_
  refine lv_iload_n hx hb dX8_addStorm_41 rfl (lv_at hl 1 rfl) ?_
  refine lv_iload_n hx hb dX8_addStorm_42 rfl (lv_at hl 2 rfl) ?_
  refine lv_iload_n hx hb dX8_addStorm_43 rfl (lv_at hl 3 rfl) ?_
  refine g_after (st0 := .int x3 :: .int x2 :: .int x1 :: .ref (ad 7) :: []) (rest := []) (g_V X m_X8_138 (c_X6_begin l D tc h0 sa x1 x2 x3 _ hBw hA0 hw) (hBw.recv X 7 rfl (q := (RX6, TX6, 8)) rfl) hT hS hA0 dX8_addStorm_44 hl.1 rfl rfl ⟨Nat.le_of_ble_eq_true rfl, Nat.le_of_ble_eq_true rfl⟩ (Nat.le_of_ble_eq_true rfl) ⟨Nat.le_of_ble_eq_true rfl, Nat.le_of_ble_eq_true rfl⟩) hS (fun _ h => h) (fun u => .int u.1 :: []) (fun _ => rfl) (fun u H9 locs hw hP9 hz9 hk9 hS => ?_)
  obtain ⟨r1, w2⟩ := u
  have hBw : Blk D tc A (shW ad) ad w2 H9 := hP9
  have hBr := hBr.kept (fun q hq hA9 => hk9 q hq (fun z => hDr q z hA9))
  try dsimp only at hw
  refine W.widen (k := rm_X8_addStorm.cells) (n := rm_X8_addStorm.slots) (Nat.le_of_ble_eq_true rfl) (Nat.le_of_ble_eq_true rfl) ?_
  exact vx_ret (e_i X hr dX8_addStorm_47 hS (r1, w2) rfl hw hBw ⟨Nat.le_refl _, Nat.le_refl _⟩)
abbrev rm_X8_nameStorm : Room := { frames := 8, cells := 3, slots := 18, locals := 132 }
def wp_X8_nameStorm_45 (post : Int32 → Dt → Prop) (xpost : Nat → Prop)   (r : Dt) (w : Dt) : Prop := xpost 3
set_option maxHeartbeats 4000000 in
set_option maxRecDepth 100000 in
theorem t_X8_nameStorm_45 {p : Program} {l : Launch} {e : Env} {s : State} {m : MethodId} {args : Array Value} {below : List Frame} {meth : Method} {c : Code} {D : va_G} {tc : Nat → ClassId} {h0 : Nat} {sa : Nat → Nat}  {ar : Nat → Nat} {Ar : Nat → Prop} {sp : Option Nat} {ns : Nat} {np : Nat} {nf : Nat} {sd : Nat → Nat → Nat} {pd : Nat → Nat → Nat} {fd : Nat → Nat → Nat} {sums : Nat → Int64} {ad : Nat → Nat} {A : Nat → Prop} {post : Int32 → Dt → Prop} {xpost : Nat → Prop}  (X : Cx p c s m meth cX8_nameStorm 5 RX8 D tc) (hr : meth.sig.returnType = (Option.some FieldType.char)) (hT : ST h0 sa s s.heap) (hA0 : ∀ q, A q → h0 ≤ q) (hDr : ∀ q, A q → ¬ Ar q) (hlf : l.stackTraces = false) (hnt : ∀ x ∈ c.exceptionTable.toList, False)  : ∀ (r : Dt) (w : Dt) (locs : List Loc) (ls : Array Slot), wp_X8_nameStorm_45 post xpost   r w → (Blk D tc Ar (shR (ad 0) sp ns np nf sd pd fd sums ar) ar r s.heap) → (Blk D tc A (shW ad) ad w s.heap) → va_S A s.heap s.heap locs → lv_has ls 5 [] → W p l e rm_X8_nameStorm s m args below meth c s.heap locs 2 12 (vx_MQ below (QB (fun u : Int32 × Dt => post u.1 u.2) (fun (u : Int32 × Dt) (H1 : Heap) => Blk D tc A (shW ad) ad u.2 H1) (fun u : Int32 × Dt => some (.int u.1)) A) (XB xpost) args s rm_X8_nameStorm.cells rm_X8_nameStorm.slots A) (F0 m 45 ls []) := by
  have hx := X.1
  have hb := X.2.1
  have hown := X.2.2.2.1
  have hU := X.2.2.2.2.1.1
  intro r w  locs ls hw hBr hBw hS hl
  unfold wp_X8_nameStorm_45 at hw
  exact g_throw X hlf tk3 (text := "the storm is gone, or another one has the name") (by decide) hT hnt hA0 hS hl.1 dX8_nameStorm_45 dX8_nameStorm_48 dX8_nameStorm_49 dX8_nameStorm_51 dX8_nameStorm_54 ⟨Nat.le_of_ble_eq_true rfl, Nat.le_of_ble_eq_true rfl, Nat.le_of_ble_eq_true rfl, Nat.le_of_ble_eq_true rfl, Nat.le_of_ble_eq_true rfl, Nat.le_of_ble_eq_true rfl⟩ hw
def wp_X8_nameStorm_55 (post : Int32 → Dt → Prop) (xpost : Nat → Prop)   (y1 : Int32) (y2 : Int32) (r : Dt) (w : Dt) : Prop := vp_in y1 12 ∧ (narrow .char (.int y2) = .int y2 ∧ (∀ w7 : Dt, w7 = up2 w 12 y1.toNatClampNeg y2 → (narrow .char (.int (w 12 y1.toNatClampNeg)) = .int (w 12 y1.toNatClampNeg) ∧ (post (w 12 y1.toNatClampNeg) w7))))
set_option maxHeartbeats 4000000 in
set_option maxRecDepth 100000 in
theorem t_X8_nameStorm_55 {p : Program} {l : Launch} {e : Env} {s : State} {m : MethodId} {args : Array Value} {below : List Frame} {meth : Method} {c : Code} {D : va_G} {tc : Nat → ClassId} {h0 : Nat} {sa : Nat → Nat}  {ar : Nat → Nat} {Ar : Nat → Prop} {sp : Option Nat} {ns : Nat} {np : Nat} {nf : Nat} {sd : Nat → Nat → Nat} {pd : Nat → Nat → Nat} {fd : Nat → Nat → Nat} {sums : Nat → Int64} {ad : Nat → Nat} {A : Nat → Prop} {post : Int32 → Dt → Prop} {xpost : Nat → Prop}  (X : Cx p c s m meth cX8_nameStorm 5 RX8 D tc) (hr : meth.sig.returnType = (Option.some FieldType.char)) (hT : ST h0 sa s s.heap) (hA0 : ∀ q, A q → h0 ≤ q) (hDr : ∀ q, A q → ¬ Ar q) (hlf : l.stackTraces = false) (hnt : ∀ x ∈ c.exceptionTable.toList, False)  : ∀ (y1 : Int32) (y2 : Int32) (r : Dt) (w : Dt) (locs : List Loc) (ls : Array Slot), wp_X8_nameStorm_55 post xpost   y1 y2 r w → (Blk D tc Ar (shR (ad 0) sp ns np nf sd pd fd sums ar) ar r s.heap) → (Blk D tc A (shW ad) ad w s.heap) → va_S A s.heap s.heap locs → lv_has ls 5 [(0, .ref (ar 0)), (1, .int y1), (2, .int y2)] → W p l e rm_X8_nameStorm s m args below meth c s.heap locs 2 12 (vx_MQ below (QB (fun u : Int32 × Dt => post u.1 u.2) (fun (u : Int32 × Dt) (H1 : Heap) => Blk D tc A (shW ad) ad u.2 H1) (fun u : Int32 × Dt => some (.int u.1)) A) (XB xpost) args s rm_X8_nameStorm.cells rm_X8_nameStorm.slots A) (F0 m 55 ls []) := by
  have hx := X.1
  have hb := X.2.1
  have hown := X.2.2.2.1
  have hU := X.2.2.2.2.1.1
  intro y1 y2 r w  locs ls hw hBr hBw hS hl
  unfold wp_X8_nameStorm_55 at hw
  refine lv_aload_n hx hb dX8_nameStorm_55 rfl (lv_at hl 0 rfl) ?_
  refine g_get X dX8_nameStorm_56 f_X8_12 hBr 0 (v := .ref (ad 0)) rfl rfl ?_
  refine g_get X dX8_nameStorm_59 f_X8_126 hBw 0 (v := .ref (ad 7)) rfl rfl ?_
  refine g_get X dX8_nameStorm_62 f_X8_161 hBw 7 (v := .ref (ad 12)) rfl rfl ?_
  refine lv_iload_n hx hb dX8_nameStorm_65 rfl (lv_at hl 1 rfl) ?_
  obtain ⟨o5, hw⟩ := hw
  refine g_cald X dX8_nameStorm_66 hBw 12 rfl o5 rfl ?_
  refine lv_istore (lv' := [(4, .int (w 12 y1.toNatClampNeg)), (0, .ref (ar 0)), (1, .int y1), (2, .int y2)]) hx hb dX8_nameStorm_67 hl (by decide) rfl (fun ls hl => ?_)
  refine lv_aload_n hx hb dX8_nameStorm_69 rfl (lv_at hl 1 rfl) ?_
  refine g_get X dX8_nameStorm_70 f_X8_12 hBr 0 (v := .ref (ad 0)) rfl rfl ?_
  refine g_get X dX8_nameStorm_73 f_X8_126 hBw 0 (v := .ref (ad 7)) rfl rfl ?_
  refine g_get X dX8_nameStorm_76 f_X8_161 hBw 7 (v := .ref (ad 12)) rfl rfl ?_
  refine lv_iload_n hx hb dX8_nameStorm_79 rfl (lv_at hl 2 rfl) ?_
  refine lv_iload_n hx hb dX8_nameStorm_80 rfl (lv_at hl 3 rfl) ?_
  obtain ⟨o6, hw⟩ := hw
  refine g_cast X dX8_nameStorm_81 hBw hS 12 rfl o5 rfl o6 (fun H locs hBw oq hS => ?_)
  have hBr := hBr.kept1 oq (hDr _ (hBw.in (i := 12) rfl))
  obtain ⟨w7, ew7⟩ : ∃ z : Dt, z = up2 w 12 y1.toNatClampNeg y2 := ⟨_, rfl⟩
  rw [← ew7] at hBw
  have hw := hw w7 ew7
  refine lv_iload hx hb dX8_nameStorm_82 (lv_at hl 0 rfl) ?_
  refine W.widen (k := rm_X8_nameStorm.cells) (n := rm_X8_nameStorm.slots) (Nat.le_of_ble_eq_true rfl) (Nat.le_of_ble_eq_true rfl) ?_
  obtain ⟨o8, hw⟩ := hw
  exact vx_ret (e_z X hr o8 dX8_nameStorm_84 hS ((w 12 y1.toNatClampNeg), w7) rfl hw hBw ⟨Nat.le_refl _, Nat.le_refl _⟩)
def wp_X8_nameStorm (post : Int32 → Dt → Prop) (xpost : Nat → Prop) (r : Dt) (w : Dt) (x1 : Int32) (x2 : Int32) : Prop := wp_X8_checkStorm (fun _u => wp_X8_checkName (fun _u => wp_X6_bearerOf (fun r1 => vp_in x1 12 ∧ (((w 13 x1.toNatClampNeg) = 0 → wp_X8_nameStorm_45 post xpost   r w) ∧ (¬ (w 13 x1.toNatClampNeg) = 0 → (r1 < 0 → wp_X8_nameStorm_55 post xpost   x1 x2 r w) ∧ (¬ r1 < 0 → (r1 = x1 → wp_X8_nameStorm_55 post xpost   x1 x2 r w) ∧ (¬ r1 = x1 → wp_X8_nameStorm_45 post xpost   r w))))) w x2) xpost x2) xpost r w x1
set_option maxHeartbeats 4000000 in
set_option maxRecDepth 100000 in
theorem c_X8_nameStorm (l : Launch) (D : va_G) (tc : Nat → ClassId) (h0 : Nat) (sa : Nat → Nat) (x1 : Int32) (x2 : Int32) (H0 : Heap) {ar : Nat → Nat} {Ar : Nat → Prop} {sp : Option Nat} {ns : Nat} {np : Nat} {nf : Nat} {sd : Nat → Nat → Nat} {pd : Nat → Nat → Nat} {fd : Nat → Nat → Nat} {sums : Nat → Int64} {ad : Nat → Nat} {A : Nat → Prop} {r : Dt} {w : Dt} (hBr : Blk D tc Ar (shR (ad 0) sp ns np nf sd pd fd sums ar) ar r H0) (hBw : Blk D tc A (shW ad) ad w H0) (hDr : ∀ q, A q → ¬ Ar q) (hA0 : ∀ q, A q → h0 ≤ q) (hlf : l.stackTraces = false) {post : Int32 → Dt → Prop} {xpost : Nat → Prop} (hw : wp_X8_nameStorm post xpost r w x1 x2) : MX l yX8_nameStorm cX8_nameStorm 5 (Option.some FieldType.char) rm_X8_nameStorm A [.ref (ar 0), .int x1, .int x2] D tc h0 sa H0 (fun u : Int32 × Dt => post u.1 u.2) (fun (u : Int32 × Dt) (H1 : Heap) => Blk D tc A (shW ad) ad u.2 H1) (fun u : Int32 × Dt => some (.int u.1)) xpost := by
  refine MX.of RX8 [(0, .ref (ar 0)), (1, .int x1), (2, .int x2)] (by decide +kernel) rfl (Nat.le_of_ble_eq_true rfl) rfl ?_
  intro p e s m below meth c ls X hr hnt hT hH hS hl
  subst hH
  have hx := X.1
  have hb := X.2.1
  have hown := X.2.2.2.1
  have hU := X.2.2.2.2.1.1
  unfold wp_X8_nameStorm at hw
  refine lv_aload_n hx hb dX8_nameStorm_0 rfl (lv_at hl 0 rfl) ?_
  refine lv_iload_n hx hb dX8_nameStorm_1 rfl (lv_at hl 1 rfl) ?_
  refine g_afterX (st0 := .int x1 :: .ref (ar 0) :: []) (rest := []) (g_VX X m_X8_141 (c_X8_checkStorm l D tc h0 sa x1 _ hBr hBw hlf hw) (hBr.recv X 0 rfl (q := (RX8, TX8, 9)) rfl) hT hS hA0 dX8_nameStorm_2 hl.1 rfl rfl ⟨Nat.le_of_ble_eq_true rfl, Nat.le_of_ble_eq_true rfl⟩ (Nat.le_of_ble_eq_true rfl) ⟨Nat.le_of_ble_eq_true rfl, Nat.le_of_ble_eq_true rfl⟩) hS (fun _ h => h.elim) (fun u => []) (fun _ => rfl) (fun k ce q9 H1 locs1 hx9 hz9 ho9 hS9 hce hcv hcl => ?_) (fun u H9 locs hw hP9 hz9 hk9 hS => ?_)
  · exact e_x X hnt ⟨hz9, ho9⟩ hce hcv hcl hx9 hS9 ⟨Nat.le_of_ble_eq_true rfl, Nat.le_of_ble_eq_true rfl⟩
  have e9 : H9 = _ := hP9
  rw [e9] at hS ⊢
  try dsimp only at hw
  refine lv_iload_n hx hb dX8_nameStorm_5 rfl (lv_at hl 2 rfl) ?_
  refine g_afterX (st0 := .int x2 :: []) (rest := []) (g_SX X m_X8_144 (c_X8_checkName l D tc h0 sa x2 _ hlf hw) hT hS hA0 dX8_nameStorm_6 hl.1 rfl rfl ⟨Nat.le_of_ble_eq_true rfl, Nat.le_of_ble_eq_true rfl⟩ (Nat.le_of_ble_eq_true rfl) ⟨Nat.le_of_ble_eq_true rfl, Nat.le_of_ble_eq_true rfl⟩) hS (fun _ h => h.elim) (fun u => []) (fun _ => rfl) (fun k ce q9 H1 locs1 hx9 hz9 ho9 hS9 hce hcv hcl => ?_) (fun u H9 locs hw hP9 hz9 hk9 hS => ?_)
  · exact e_x X hnt ⟨hz9, ho9⟩ hce hcv hcl hx9 hS9 ⟨Nat.le_of_ble_eq_true rfl, Nat.le_of_ble_eq_true rfl⟩
  have e9 : H9 = _ := hP9
  rw [e9] at hS ⊢
  try dsimp only at hw
  refine lv_aload_n hx hb dX8_nameStorm_9 rfl (lv_at hl 0 rfl) ?_
  refine g_get X dX8_nameStorm_10 f_X8_12 hBr 0 (v := .ref (ad 0)) rfl rfl ?_
  refine g_get X dX8_nameStorm_13 f_X8_126 hBw 0 (v := .ref (ad 7)) rfl rfl ?_
  refine lv_iload_n hx hb dX8_nameStorm_16 rfl (lv_at hl 2 rfl) ?_
  refine g_after (st0 := .int x2 :: .ref (ad 7) :: []) (rest := []) (g_V X m_X8_148 (c_X6_bearerOf l D tc h0 sa x2 _ hBw hw) (hBw.recv X 7 rfl (q := (RX6, TX6, 8)) rfl) hT hS hA0 dX8_nameStorm_17 hl.1 rfl rfl ⟨Nat.le_of_ble_eq_true rfl, Nat.le_of_ble_eq_true rfl⟩ (Nat.le_of_ble_eq_true rfl) ⟨Nat.le_of_ble_eq_true rfl, Nat.le_of_ble_eq_true rfl⟩) hS (fun _ h => h.elim) (fun u => .int u :: []) (fun _ => rfl) (fun u H9 locs hw hP9 hz9 hk9 hS => ?_)
  have e9 : H9 = _ := hP9
  rw [e9] at hS ⊢
  obtain ⟨r1, rfl⟩ : ∃ z, z = u := ⟨_, rfl⟩
  try dsimp only at hw
  refine lv_istore_n (lv' := [(3, .int r1), (0, .ref (ar 0)), (1, .int x1), (2, .int x2)]) hx hb dX8_nameStorm_20 rfl hl (by decide) rfl (fun ls hl => ?_)
  refine lv_aload_n hx hb dX8_nameStorm_21 rfl (lv_at hl 1 rfl) ?_
  refine g_get X dX8_nameStorm_22 f_X8_12 hBr 0 (v := .ref (ad 0)) rfl rfl ?_
  refine g_get X dX8_nameStorm_25 f_X8_126 hBw 0 (v := .ref (ad 7)) rfl rfl ?_
  refine g_get X dX8_nameStorm_28 f_X8_152 hBw 7 (v := .ref (ad 13)) rfl rfl ?_
  refine lv_iload_n hx hb dX8_nameStorm_31 rfl (lv_at hl 2 rfl) ?_
  obtain ⟨o2, hw⟩ := hw
  refine g_zald X dX8_nameStorm_32 hBw 13 rfl o2 rfl ?_
  refine lv_if_eq (tgt := 45) hx hb dX8_nameStorm_33 (by decide) (fun c3 => ?_) (fun c3 => ?_)
  · have hw := hw.1 c3
    refine W.widen (k := 2) (n := 12) (Nat.le_of_ble_eq_true rfl) (Nat.le_of_ble_eq_true rfl) ?_
    exact t_X8_nameStorm_45 X hr hT hA0 hDr hlf hnt  _ _ _ _ hw hBr hBw hS (lv_sub hl [] rfl)
  · have hw := hw.2 c3
    refine lv_iload_n hx hb dX8_nameStorm_36 rfl (lv_at hl 0 rfl) ?_
    refine lv_if_lt (tgt := 55) hx hb dX8_nameStorm_37 (by decide) (fun c4 => ?_) (fun c4 => ?_)
    · have hw := hw.1 c4
      refine W.widen (k := 2) (n := 12) (Nat.le_of_ble_eq_true rfl) (Nat.le_of_ble_eq_true rfl) ?_
      exact t_X8_nameStorm_55 X hr hT hA0 hDr hlf hnt  _ _ _ _ _ _ hw hBr hBw hS (lv_sub hl [1, 2, 3] rfl)
    · have hw := hw.2 c4
      refine lv_iload_n hx hb dX8_nameStorm_40 rfl (lv_at hl 0 rfl) ?_
      refine lv_iload_n hx hb dX8_nameStorm_41 rfl (lv_at hl 2 rfl) ?_
      refine lv_icmp_eq (tgt := 55) hx hb dX8_nameStorm_42 (by decide) (fun c9 => ?_) (fun c9 => ?_)
      · have hw := hw.1 c9
        refine W.widen (k := 2) (n := 12) (Nat.le_of_ble_eq_true rfl) (Nat.le_of_ble_eq_true rfl) ?_
        exact t_X8_nameStorm_55 X hr hT hA0 hDr hlf hnt  _ _ _ _ _ _ hw hBr hBw hS (lv_sub hl [1, 2, 3] rfl)
      · have hw := hw.2 c9
        refine W.widen (k := 2) (n := 12) (Nat.le_of_ble_eq_true rfl) (Nat.le_of_ble_eq_true rfl) ?_
        exact t_X8_nameStorm_45 X hr hT hA0 hDr hlf hnt  _ _ _ _ hw hBr hBw hS (lv_sub hl [] rfl)
abbrev rm_X8_burst : Room := { frames := 8, cells := 3, slots := 18, locals := 132 }
def wp_X8_burst (post : Int32 → Dt → Prop) (xpost : Nat → Prop) (r : Dt) (w : Dt) (x1 : Int32) (x2 : Int32) : Prop := wp_X8_checkIndex (fun _u => wp_X8_checkLongitude (fun _u => wp_X1_isWarmForPlume (fun r1 => (¬ r1 = 0 → wp_X8_checkRoom (fun _u => wp_X1_liftPlume (fun w3 => wp_X6_begin (fun r4 w5 => wp_X3_write (fun w6 => post r4 w6) w5 112 r4) w3 x1 x2 60) w) xpost (w 7 0) 12) ∧ (r1 = 0 → xpost 3)) w) xpost x2) xpost x1 12
set_option maxHeartbeats 4000000 in
set_option maxRecDepth 100000 in
theorem c_X8_burst (l : Launch) (D : va_G) (tc : Nat → ClassId) (h0 : Nat) (sa : Nat → Nat) (x1 : Int32) (x2 : Int32) (H0 : Heap) {ar : Nat → Nat} {Ar : Nat → Prop} {sp : Option Nat} {ns : Nat} {np : Nat} {nf : Nat} {sd : Nat → Nat → Nat} {pd : Nat → Nat → Nat} {fd : Nat → Nat → Nat} {sums : Nat → Int64} {ad : Nat → Nat} {A : Nat → Prop} {r : Dt} {w : Dt} (hBr : Blk D tc Ar (shR (ad 0) sp ns np nf sd pd fd sums ar) ar r H0) (hBw : Blk D tc A (shW ad) ad w H0) (hDr : ∀ q, A q → ¬ Ar q) (hA0 : ∀ q, A q → h0 ≤ q) (hlf : l.stackTraces = false) {post : Int32 → Dt → Prop} {xpost : Nat → Prop} (hw : wp_X8_burst post xpost r w x1 x2) : MX l yX8_burst cX8_burst 4 (Option.some FieldType.int) rm_X8_burst A [.ref (ar 0), .int x1, .int x2] D tc h0 sa H0 (fun u : Int32 × Dt => post u.1 u.2) (fun (u : Int32 × Dt) (H1 : Heap) => Blk D tc A (shW ad) ad u.2 H1) (fun u : Int32 × Dt => some (.int u.1)) xpost := by
  refine MX.of RX8 [(0, .ref (ar 0)), (1, .int x1), (2, .int x2)] (by decide +kernel) rfl (Nat.le_of_ble_eq_true rfl) rfl ?_
  intro p e s m below meth c ls X hr hnt hT hH hS hl
  subst hH
  have hx := X.1
  have hb := X.2.1
  have hown := X.2.2.2.1
  have hU := X.2.2.2.2.1.1
  unfold wp_X8_burst at hw
  refine lv_iload_n hx hb dX8_burst_0 rfl (lv_at hl 1 rfl) ?_
  refine lv_bipush (v := 12) hx hb dX8_burst_1 (by decide) ?_
  refine g_afterX (st0 := .int 12 :: .int x1 :: []) (rest := []) (g_SX X m_X8_36 (c_X8_checkIndex l D tc h0 sa x1 12 _ hlf hw) hT hS hA0 dX8_burst_3 hl.1 rfl rfl ⟨Nat.le_of_ble_eq_true rfl, Nat.le_of_ble_eq_true rfl⟩ (Nat.le_of_ble_eq_true rfl) ⟨Nat.le_of_ble_eq_true rfl, Nat.le_of_ble_eq_true rfl⟩) hS (fun _ h => h.elim) (fun u => []) (fun _ => rfl) (fun k ce q9 H1 locs1 hx9 hz9 ho9 hS9 hce hcv hcl => ?_) (fun u H9 locs hw hP9 hz9 hk9 hS => ?_)
  · exact e_x X hnt ⟨hz9, ho9⟩ hce hcv hcl hx9 hS9 ⟨Nat.le_of_ble_eq_true rfl, Nat.le_of_ble_eq_true rfl⟩
  have e9 : H9 = _ := hP9
  rw [e9] at hS ⊢
  try dsimp only at hw
  refine lv_iload_n hx hb dX8_burst_6 rfl (lv_at hl 2 rfl) ?_
  refine g_afterX (st0 := .int x2 :: []) (rest := []) (g_SX X m_X8_122 (c_X8_checkLongitude l D tc h0 sa x2 _ hlf hw) hT hS hA0 dX8_burst_7 hl.1 rfl rfl ⟨Nat.le_of_ble_eq_true rfl, Nat.le_of_ble_eq_true rfl⟩ (Nat.le_of_ble_eq_true rfl) ⟨Nat.le_of_ble_eq_true rfl, Nat.le_of_ble_eq_true rfl⟩) hS (fun _ h => h.elim) (fun u => []) (fun _ => rfl) (fun k ce q9 H1 locs1 hx9 hz9 ho9 hS9 hce hcv hcl => ?_) (fun u H9 locs hw hP9 hz9 hk9 hS => ?_)
  · exact e_x X hnt ⟨hz9, ho9⟩ hce hcv hcl hx9 hS9 ⟨Nat.le_of_ble_eq_true rfl, Nat.le_of_ble_eq_true rfl⟩
  have e9 : H9 = _ := hP9
  rw [e9] at hS ⊢
  try dsimp only at hw
  refine lv_aload_n hx hb dX8_burst_10 rfl (lv_at hl 0 rfl) ?_
  refine g_get X dX8_burst_11 f_X8_12 hBr 0 (v := .ref (ad 0)) rfl rfl ?_
  refine g_get X dX8_burst_14 f_X8_44 hBw 0 (v := .ref (ad 1)) rfl rfl ?_
  refine g_after (st0 := .ref (ad 1) :: []) (rest := []) (g_V X m_X8_184 (c_X1_isWarmForPlume l D tc h0 sa  _ hBw hw) (hBw.recv X 1 rfl (q := (RX1, TX1, 8)) rfl) hT hS hA0 dX8_burst_17 hl.1 rfl rfl ⟨Nat.le_of_ble_eq_true rfl, Nat.le_of_ble_eq_true rfl⟩ (Nat.le_of_ble_eq_true rfl) ⟨Nat.le_of_ble_eq_true rfl, Nat.le_of_ble_eq_true rfl⟩) hS (fun _ h => h.elim) (fun u => .int u :: []) (fun _ => rfl) (fun u H9 locs hw hP9 hz9 hk9 hS => ?_)
  have e9 : H9 = _ := hP9
  rw [e9] at hS ⊢
  obtain ⟨r1, rfl⟩ : ∃ z, z = u := ⟨_, rfl⟩
  try dsimp only at hw
  refine lv_if_ne (tgt := 33) hx hb dX8_burst_20 (by decide) (fun c2 => ?_) (fun c2 => ?_)
  · have hw := hw.1 c2
    refine lv_aload_n hx hb dX8_burst_33 rfl (lv_at hl 0 rfl) ?_
    refine g_get X dX8_burst_34 f_X8_12 hBr 0 (v := .ref (ad 0)) rfl rfl ?_
    refine g_get X dX8_burst_37 f_X8_126 hBw 0 (v := .ref (ad 7)) rfl rfl ?_
    refine g_get X dX8_burst_40 f_X8_130 hBw 7 (v := .int (w 7 0)) rfl rfl ?_
    refine lv_bipush (v := 12) hx hb dX8_burst_43 (by decide) ?_
    refine g_afterX (st0 := .int 12 :: .int (w 7 0) :: []) (rest := []) (g_SX X m_X8_135 (c_X8_checkRoom l D tc h0 sa (w 7 0) 12 _ hlf hw) hT hS hA0 dX8_burst_45 hl.1 rfl rfl ⟨Nat.le_of_ble_eq_true rfl, Nat.le_of_ble_eq_true rfl⟩ (Nat.le_of_ble_eq_true rfl) ⟨Nat.le_of_ble_eq_true rfl, Nat.le_of_ble_eq_true rfl⟩) hS (fun _ h => h.elim) (fun u => []) (fun _ => rfl) (fun k ce q9 H1 locs1 hx9 hz9 ho9 hS9 hce hcv hcl => ?_) (fun u H9 locs hw hP9 hz9 hk9 hS => ?_)
    · exact e_x X hnt ⟨hz9, ho9⟩ hce hcv hcl hx9 hS9 ⟨Nat.le_of_ble_eq_true rfl, Nat.le_of_ble_eq_true rfl⟩
    have e9 : H9 = _ := hP9
    rw [e9] at hS ⊢
    try dsimp only at hw
    refine lv_aload_n hx hb dX8_burst_48 rfl (lv_at hl 0 rfl) ?_
    refine g_get X dX8_burst_49 f_X8_12 hBr 0 (v := .ref (ad 0)) rfl rfl ?_
    refine g_get X dX8_burst_52 f_X8_44 hBw 0 (v := .ref (ad 1)) rfl rfl ?_
    refine g_after (st0 := .ref (ad 1) :: []) (rest := []) (g_V X m_X8_190 (c_X1_liftPlume l D tc h0 sa  _ hBw hA0 hw) (hBw.recv X 1 rfl (q := (RX1, TX1, 8)) rfl) hT hS hA0 dX8_burst_55 hl.1 rfl rfl ⟨Nat.le_of_ble_eq_true rfl, Nat.le_of_ble_eq_true rfl⟩ (Nat.le_of_ble_eq_true rfl) ⟨Nat.le_of_ble_eq_true rfl, Nat.le_of_ble_eq_true rfl⟩) hS (fun _ h => h) (fun u => []) (fun _ => rfl) (fun u H9 locs hw hP9 hz9 hk9 hS => ?_)
    obtain ⟨w3, rfl⟩ : ∃ z, z = u := ⟨_, rfl⟩
    have hBw : Blk D tc A (shW ad) ad w3 H9 := hP9
    have hBr := hBr.kept (fun q hq hA9 => hk9 q hq (fun z => hDr q z hA9))
    try dsimp only at hw
    refine lv_aload_n hx hb dX8_burst_58 rfl (lv_at hl 0 rfl) ?_
    refine g_get X dX8_burst_59 f_X8_12 hBr 0 (v := .ref (ad 0)) rfl rfl ?_
    refine g_get X dX8_burst_62 f_X8_126 hBw 0 (v := .ref (ad 7)) rfl rfl ?_
    refine lv_iload_n hx hb dX8_burst_65 rfl (lv_at hl 1 rfl) ?_
    refine lv_iload_n hx hb dX8_burst_66 rfl (lv_at hl 2 rfl) ?_
    refine lv_bipush (v := 60) hx hb dX8_burst_67 (by decide) ?_
    refine g_after (st0 := .int 60 :: .int x2 :: .int x1 :: .ref (ad 7) :: []) (rest := []) (g_V X m_X8_138 (c_X6_begin l D tc h0 sa x1 x2 60 _ hBw hA0 hw) (hBw.recv X 7 rfl (q := (RX6, TX6, 8)) rfl) hT hS hA0 dX8_burst_69 hl.1 rfl rfl ⟨Nat.le_of_ble_eq_true rfl, Nat.le_of_ble_eq_true rfl⟩ (Nat.le_of_ble_eq_true rfl) ⟨Nat.le_of_ble_eq_true rfl, Nat.le_of_ble_eq_true rfl⟩) hS (fun _ h => h) (fun u => .int u.1 :: []) (fun _ => rfl) (fun u H9 locs hw hP9 hz9 hk9 hS => ?_)
    obtain ⟨r4, w5⟩ := u
    have hBw : Blk D tc A (shW ad) ad w5 H9 := hP9
    have hBr := hBr.kept (fun q hq hA9 => hk9 q hq (fun z => hDr q z hA9))
    try dsimp only at hw
    refine lv_istore_n (lv' := [(3, .int r4), (0, .ref (ar 0)), (1, .int x1), (2, .int x2)]) hx hb dX8_burst_72 rfl hl (by decide) rfl (fun ls hl => ?_)
    refine lv_aload_n hx hb dX8_burst_73 rfl (lv_at hl 1 rfl) ?_
    refine g_get X dX8_burst_74 f_X8_12 hBr 0 (v := .ref (ad 0)) rfl rfl ?_
    refine g_get X dX8_burst_77 f_X8_193 hBw 0 (v := .ref (ad 19)) rfl rfl ?_
    refine lv_bipush (v := 112) hx hb dX8_burst_80 (by decide) ?_
    refine lv_iload_n hx hb dX8_burst_82 rfl (lv_at hl 0 rfl) ?_
    refine g_after (st0 := .int r4 :: .int 112 :: .ref (ad 19) :: []) (rest := []) (g_V X m_X8_197 (c_X3_write l D tc h0 sa 112 r4 _ hBw hA0 hw) (hBw.recv X 19 rfl (q := (RX3, TX3, 3)) rfl) hT hS hA0 dX8_burst_83 hl.1 rfl rfl ⟨Nat.le_of_ble_eq_true rfl, Nat.le_of_ble_eq_true rfl⟩ (Nat.le_of_ble_eq_true rfl) ⟨Nat.le_of_ble_eq_true rfl, Nat.le_of_ble_eq_true rfl⟩) hS (fun _ h => h) (fun u => []) (fun _ => rfl) (fun u H9 locs hw hP9 hz9 hk9 hS => ?_)
    obtain ⟨w6, rfl⟩ : ∃ z, z = u := ⟨_, rfl⟩
    have hBw : Blk D tc A (shW ad) ad w6 H9 := hP9
    have hBr := hBr.kept (fun q hq hA9 => hk9 q hq (fun z => hDr q z hA9))
    try dsimp only at hw
    refine lv_iload_n hx hb dX8_burst_86 rfl (lv_at hl 0 rfl) ?_
    refine W.widen (k := rm_X8_burst.cells) (n := rm_X8_burst.slots) (Nat.le_of_ble_eq_true rfl) (Nat.le_of_ble_eq_true rfl) ?_
    exact vx_ret (e_i X hr dX8_burst_87 hS (r4, w6) rfl hw hBw ⟨Nat.le_refl _, Nat.le_refl _⟩)
  · have hw := hw.2 c2
    exact g_throw X hlf tk3 (text := "the column is not warm enough") (by decide) hT hnt hA0 hS hl.1 dX8_burst_23 dX8_burst_26 dX8_burst_27 dX8_burst_29 dX8_burst_32 ⟨Nat.le_of_ble_eq_true rfl, Nat.le_of_ble_eq_true rfl, Nat.le_of_ble_eq_true rfl, Nat.le_of_ble_eq_true rfl, Nat.le_of_ble_eq_true rfl, Nat.le_of_ble_eq_true rfl⟩ hw
abbrev rm_X8_strike : Room := { frames := 8, cells := 4, slots := 24, locals := 132 }
def wp_X8_strike (post : Int32 → Dt → Prop) (xpost : Nat → Prop) (r : Dt) (w : Dt) (x1 : Int32) (x2 : Int32) (x3 : Int32) : Prop := wp_X8_checkIndex (fun _u => wp_X8_checkLongitude (fun _u => wp_X8_checkRange (fun _u => wp_X8_checkRoom (fun _u => wp_X5_begin (fun r1 w2 => wp_X3_write (fun w3 => post r1 w3) w2 107 r1) w x1 x3) xpost (w 15 0) 8) xpost x3 1 100) xpost x2) xpost x1 12
set_option maxHeartbeats 4000000 in
set_option maxRecDepth 100000 in
theorem c_X8_strike (l : Launch) (D : va_G) (tc : Nat → ClassId) (h0 : Nat) (sa : Nat → Nat) (x1 : Int32) (x2 : Int32) (x3 : Int32) (H0 : Heap) {ar : Nat → Nat} {Ar : Nat → Prop} {sp : Option Nat} {ns : Nat} {np : Nat} {nf : Nat} {sd : Nat → Nat → Nat} {pd : Nat → Nat → Nat} {fd : Nat → Nat → Nat} {sums : Nat → Int64} {ad : Nat → Nat} {A : Nat → Prop} {r : Dt} {w : Dt} (hBr : Blk D tc Ar (shR (ad 0) sp ns np nf sd pd fd sums ar) ar r H0) (hBw : Blk D tc A (shW ad) ad w H0) (hDr : ∀ q, A q → ¬ Ar q) (hA0 : ∀ q, A q → h0 ≤ q) (hlf : l.stackTraces = false) {post : Int32 → Dt → Prop} {xpost : Nat → Prop} (hw : wp_X8_strike post xpost r w x1 x2 x3) : MX l yX8_strike cX8_strike 5 (Option.some FieldType.int) rm_X8_strike A [.ref (ar 0), .int x1, .int x2, .int x3] D tc h0 sa H0 (fun u : Int32 × Dt => post u.1 u.2) (fun (u : Int32 × Dt) (H1 : Heap) => Blk D tc A (shW ad) ad u.2 H1) (fun u : Int32 × Dt => some (.int u.1)) xpost := by
  refine MX.of RX8 [(0, .ref (ar 0)), (1, .int x1), (2, .int x2), (3, .int x3)] (by decide +kernel) rfl (Nat.le_of_ble_eq_true rfl) rfl ?_
  intro p e s m below meth c ls X hr hnt hT hH hS hl
  subst hH
  have hx := X.1
  have hb := X.2.1
  have hown := X.2.2.2.1
  have hU := X.2.2.2.2.1.1
  unfold wp_X8_strike at hw
  refine lv_iload_n hx hb dX8_strike_0 rfl (lv_at hl 1 rfl) ?_
  refine lv_bipush (v := 12) hx hb dX8_strike_1 (by decide) ?_
  refine g_afterX (st0 := .int 12 :: .int x1 :: []) (rest := []) (g_SX X m_X8_36 (c_X8_checkIndex l D tc h0 sa x1 12 _ hlf hw) hT hS hA0 dX8_strike_3 hl.1 rfl rfl ⟨Nat.le_of_ble_eq_true rfl, Nat.le_of_ble_eq_true rfl⟩ (Nat.le_of_ble_eq_true rfl) ⟨Nat.le_of_ble_eq_true rfl, Nat.le_of_ble_eq_true rfl⟩) hS (fun _ h => h.elim) (fun u => []) (fun _ => rfl) (fun k ce q9 H1 locs1 hx9 hz9 ho9 hS9 hce hcv hcl => ?_) (fun u H9 locs hw hP9 hz9 hk9 hS => ?_)
  · exact e_x X hnt ⟨hz9, ho9⟩ hce hcv hcl hx9 hS9 ⟨Nat.le_of_ble_eq_true rfl, Nat.le_of_ble_eq_true rfl⟩
  have e9 : H9 = _ := hP9
  rw [e9] at hS ⊢
  try dsimp only at hw
  refine lv_iload_n hx hb dX8_strike_6 rfl (lv_at hl 2 rfl) ?_
  refine g_afterX (st0 := .int x2 :: []) (rest := []) (g_SX X m_X8_122 (c_X8_checkLongitude l D tc h0 sa x2 _ hlf hw) hT hS hA0 dX8_strike_7 hl.1 rfl rfl ⟨Nat.le_of_ble_eq_true rfl, Nat.le_of_ble_eq_true rfl⟩ (Nat.le_of_ble_eq_true rfl) ⟨Nat.le_of_ble_eq_true rfl, Nat.le_of_ble_eq_true rfl⟩) hS (fun _ h => h.elim) (fun u => []) (fun _ => rfl) (fun k ce q9 H1 locs1 hx9 hz9 ho9 hS9 hce hcv hcl => ?_) (fun u H9 locs hw hP9 hz9 hk9 hS => ?_)
  · exact e_x X hnt ⟨hz9, ho9⟩ hce hcv hcl hx9 hS9 ⟨Nat.le_of_ble_eq_true rfl, Nat.le_of_ble_eq_true rfl⟩
  have e9 : H9 = _ := hP9
  rw [e9] at hS ⊢
  try dsimp only at hw
  refine lv_iload_n hx hb dX8_strike_10 rfl (lv_at hl 3 rfl) ?_
  refine lv_iconst (v := 1) hx hb dX8_strike_11 (by decide) ?_
  refine lv_bipush (v := 100) hx hb dX8_strike_12 (by decide) ?_
  refine g_afterX (st0 := .int 100 :: .int 1 :: .int x3 :: []) (rest := []) (g_SX X m_X8_40 (c_X8_checkRange l D tc h0 sa x3 1 100 _ hlf hw) hT hS hA0 dX8_strike_14 hl.1 rfl rfl ⟨Nat.le_of_ble_eq_true rfl, Nat.le_of_ble_eq_true rfl⟩ (Nat.le_of_ble_eq_true rfl) ⟨Nat.le_of_ble_eq_true rfl, Nat.le_of_ble_eq_true rfl⟩) hS (fun _ h => h.elim) (fun u => []) (fun _ => rfl) (fun k ce q9 H1 locs1 hx9 hz9 ho9 hS9 hce hcv hcl => ?_) (fun u H9 locs hw hP9 hz9 hk9 hS => ?_)
  · exact e_x X hnt ⟨hz9, ho9⟩ hce hcv hcl hx9 hS9 ⟨Nat.le_of_ble_eq_true rfl, Nat.le_of_ble_eq_true rfl⟩
  have e9 : H9 = _ := hP9
  rw [e9] at hS ⊢
  try dsimp only at hw
  refine lv_aload_n hx hb dX8_strike_17 rfl (lv_at hl 0 rfl) ?_
  refine g_get X dX8_strike_18 f_X8_12 hBr 0 (v := .ref (ad 0)) rfl rfl ?_
  refine g_get X dX8_strike_21 f_X8_203 hBw 0 (v := .ref (ad 15)) rfl rfl ?_
  refine g_get X dX8_strike_24 f_X8_207 hBw 15 (v := .int (w 15 0)) rfl rfl ?_
  refine lv_bipush (v := 8) hx hb dX8_strike_27 (by decide) ?_
  refine g_afterX (st0 := .int 8 :: .int (w 15 0) :: []) (rest := []) (g_SX X m_X8_135 (c_X8_checkRoom l D tc h0 sa (w 15 0) 8 _ hlf hw) hT hS hA0 dX8_strike_29 hl.1 rfl rfl ⟨Nat.le_of_ble_eq_true rfl, Nat.le_of_ble_eq_true rfl⟩ (Nat.le_of_ble_eq_true rfl) ⟨Nat.le_of_ble_eq_true rfl, Nat.le_of_ble_eq_true rfl⟩) hS (fun _ h => h.elim) (fun u => []) (fun _ => rfl) (fun k ce q9 H1 locs1 hx9 hz9 ho9 hS9 hce hcv hcl => ?_) (fun u H9 locs hw hP9 hz9 hk9 hS => ?_)
  · exact e_x X hnt ⟨hz9, ho9⟩ hce hcv hcl hx9 hS9 ⟨Nat.le_of_ble_eq_true rfl, Nat.le_of_ble_eq_true rfl⟩
  have e9 : H9 = _ := hP9
  rw [e9] at hS ⊢
  try dsimp only at hw
  refine lv_aload_n hx hb dX8_strike_32 rfl (lv_at hl 0 rfl) ?_
  refine g_get X dX8_strike_33 f_X8_12 hBr 0 (v := .ref (ad 0)) rfl rfl ?_
  refine g_get X dX8_strike_36 f_X8_203 hBw 0 (v := .ref (ad 15)) rfl rfl ?_
  refine lv_iload_n hx hb dX8_strike_39 rfl (lv_at hl 1 rfl) ?_
  refine lv_iload_n hx hb dX8_strike_40 rfl (lv_at hl 3 rfl) ?_
  refine g_after (st0 := .int x3 :: .int x1 :: .ref (ad 15) :: []) (rest := []) (g_V X m_X8_210 (c_X5_begin l D tc h0 sa x1 x3 _ hBw hA0 hw) (hBw.recv X 15 rfl (q := (RX5, TX5, 4)) rfl) hT hS hA0 dX8_strike_41 hl.1 rfl rfl ⟨Nat.le_of_ble_eq_true rfl, Nat.le_of_ble_eq_true rfl⟩ (Nat.le_of_ble_eq_true rfl) ⟨Nat.le_of_ble_eq_true rfl, Nat.le_of_ble_eq_true rfl⟩) hS (fun _ h => h) (fun u => .int u.1 :: []) (fun _ => rfl) (fun u H9 locs hw hP9 hz9 hk9 hS => ?_)
  obtain ⟨r1, w2⟩ := u
  have hBw : Blk D tc A (shW ad) ad w2 H9 := hP9
  have hBr := hBr.kept (fun q hq hA9 => hk9 q hq (fun z => hDr q z hA9))
  try dsimp only at hw
  refine lv_istore (lv' := [(4, .int r1), (0, .ref (ar 0)), (1, .int x1), (2, .int x2), (3, .int x3)]) hx hb dX8_strike_44 hl (by decide) rfl (fun ls hl => ?_)
  refine lv_aload_n hx hb dX8_strike_46 rfl (lv_at hl 1 rfl) ?_
  refine g_get X dX8_strike_47 f_X8_12 hBr 0 (v := .ref (ad 0)) rfl rfl ?_
  refine g_get X dX8_strike_50 f_X8_193 hBw 0 (v := .ref (ad 19)) rfl rfl ?_
  refine lv_bipush (v := 107) hx hb dX8_strike_53 (by decide) ?_
  refine lv_iload hx hb dX8_strike_55 (lv_at hl 0 rfl) ?_
  refine g_after (st0 := .int r1 :: .int 107 :: .ref (ad 19) :: []) (rest := []) (g_V X m_X8_197 (c_X3_write l D tc h0 sa 107 r1 _ hBw hA0 hw) (hBw.recv X 19 rfl (q := (RX3, TX3, 3)) rfl) hT hS hA0 dX8_strike_57 hl.1 rfl rfl ⟨Nat.le_of_ble_eq_true rfl, Nat.le_of_ble_eq_true rfl⟩ (Nat.le_of_ble_eq_true rfl) ⟨Nat.le_of_ble_eq_true rfl, Nat.le_of_ble_eq_true rfl⟩) hS (fun _ h => h) (fun u => []) (fun _ => rfl) (fun u H9 locs hw hP9 hz9 hk9 hS => ?_)
  obtain ⟨w3, rfl⟩ : ∃ z, z = u := ⟨_, rfl⟩
  have hBw : Blk D tc A (shW ad) ad w3 H9 := hP9
  have hBr := hBr.kept (fun q hq hA9 => hk9 q hq (fun z => hDr q z hA9))
  try dsimp only at hw
  refine lv_iload hx hb dX8_strike_60 (lv_at hl 0 rfl) ?_
  refine W.widen (k := rm_X8_strike.cells) (n := rm_X8_strike.slots) (Nat.le_of_ble_eq_true rfl) (Nat.le_of_ble_eq_true rfl) ?_
  exact vx_ret (e_i X hr dX8_strike_62 hS (r1, w3) rfl hw hBw ⟨Nat.le_refl _, Nat.le_refl _⟩)
abbrev rm_X8_turn : Room := { frames := 7, cells := 1, slots := 6, locals := 134 }
def wp_X8_turn_10 (post : Int32 → Dt → Prop) (xpost : Nat → Prop)   : Nat → Int32 → Int32 → Dt → Dt → Prop
  | 0, _, _, _, _ => False
  | n9 + 1, y1, y2, r, w => (y1 ≤ y2 → post (w 0 5) w) ∧ (¬ y1 ≤ y2 → wp_X7_goOn (fun w2 => wp_X8_turn_10 post xpost   n9 y1 (y2 + 1) r w2) w)
set_option maxHeartbeats 4000000 in
set_option maxRecDepth 100000 in
theorem t_X8_turn_10 {p : Program} {l : Launch} {e : Env} {s : State} {m : MethodId} {args : Array Value} {below : List Frame} {meth : Method} {c : Code} {D : va_G} {tc : Nat → ClassId} {h0 : Nat} {sa : Nat → Nat}  {ar : Nat → Nat} {Ar : Nat → Prop} {sp : Option Nat} {ns : Nat} {np : Nat} {nf : Nat} {sd : Nat → Nat → Nat} {pd : Nat → Nat → Nat} {fd : Nat → Nat → Nat} {sums : Nat → Int64} {ad : Nat → Nat} {A : Nat → Prop} {post : Int32 → Dt → Prop} {xpost : Nat → Prop}  (X : Cx p c s m meth cX8_turn 3 RX8 D tc) (hr : meth.sig.returnType = (Option.some FieldType.int)) (hT : ST h0 sa s s.heap) (hA0 : ∀ q, A q → h0 ≤ q) (hDr : ∀ q, A q → ¬ Ar q) (hlf : l.stackTraces = false) (hnt : ∀ x ∈ c.exceptionTable.toList, False)  : ∀ (n9 : Nat) (y1 : Int32) (y2 : Int32) (r : Dt) (w : Dt) (H : Heap) (locs : List Loc) (ls : Array Slot), wp_X8_turn_10 post xpost   n9 y1 y2 r w → (Blk D tc Ar (shR (ad 0) sp ns np nf sd pd fd sums ar) ar r H) → (Blk D tc A (shW ad) ad w H) → va_S A s.heap H locs → lv_has ls 3 [(0, .ref (ar 0)), (1, .int y1), (2, .int y2)] → W p l e rm_X8_turn s m args below meth c H locs 1 6 (vx_MQ below (QB (fun u : Int32 × Dt => post u.1 u.2) (fun (u : Int32 × Dt) (H1 : Heap) => Blk D tc A (shW ad) ad u.2 H1) (fun u : Int32 × Dt => some (.int u.1)) A) (XB xpost) args s rm_X8_turn.cells rm_X8_turn.slots A) (F0 m 10 ls []) := by
  have hx := X.1
  have hb := X.2.1
  have hown := X.2.2.2.1
  have hU := X.2.2.2.2.1.1
  intro n9
  induction n9 with
  | zero =>
    intro y1 y2 r w H locs ls hw
    exact hw.elim
  | succ n9 ih =>
    intro y1 y2 r w H locs ls hw hBr hBw hS hl
    unfold wp_X8_turn_10 at hw
    refine lv_iload_n hx hb dX8_turn_10 rfl (lv_at hl 2 rfl) ?_
    refine lv_iload_n hx hb dX8_turn_11 rfl (lv_at hl 1 rfl) ?_
    refine lv_icmp_ge (tgt := 28) hx hb dX8_turn_12 (by decide) (fun c1 => ?_) (fun c1 => ?_)
    · have hw := hw.1 c1
      refine lv_aload_n hx hb dX8_turn_28 rfl (lv_at hl 0 rfl) ?_
      refine g_get X dX8_turn_29 f_X8_12 hBr 0 (v := .ref (ad 0)) rfl rfl ?_
      refine g_get X dX8_turn_32 f_X8_225 hBw 0 (v := .int (w 0 5)) rfl rfl ?_
      refine W.widen (k := rm_X8_turn.cells) (n := rm_X8_turn.slots) (Nat.le_of_ble_eq_true rfl) (Nat.le_of_ble_eq_true rfl) ?_
      exact vx_ret (e_i X hr dX8_turn_35 hS ((w 0 5), w) rfl hw hBw ⟨Nat.le_refl _, Nat.le_refl _⟩)
    · have hw := hw.2 c1
      refine lv_aload_n hx hb dX8_turn_15 rfl (lv_at hl 0 rfl) ?_
      refine g_get X dX8_turn_16 f_X8_12 hBr 0 (v := .ref (ad 0)) rfl rfl ?_
      refine g_after (st0 := .ref (ad 0) :: []) (rest := []) (g_V X m_X8_222 (c_X7_goOn l D tc h0 sa  _ hBw hA0 hw) (hBw.recv X 0 rfl (q := (RX7, TX7, 6)) rfl) hT hS hA0 dX8_turn_19 hl.1 rfl rfl ⟨Nat.le_of_ble_eq_true rfl, Nat.le_of_ble_eq_true rfl⟩ (Nat.le_of_ble_eq_true rfl) ⟨Nat.le_of_ble_eq_true rfl, Nat.le_of_ble_eq_true rfl⟩) hS (fun _ h => h) (fun u => []) (fun _ => rfl) (fun u H9 locs hw hP9 hz9 hk9 hS => ?_)
      obtain ⟨w2, rfl⟩ : ∃ z, z = u := ⟨_, rfl⟩
      have hBw : Blk D tc A (shW ad) ad w2 H9 := hP9
      have hBr := hBr.kept (fun q hq hA9 => hk9 q hq (fun z => hDr q z hA9))
      try dsimp only at hw
      refine lv_iinc (lv' := [(2, .int (y2 + 1)), (0, .ref (ar 0)), (1, .int y1)]) hx hb dX8_turn_22 hl (k := 2) rfl (by rfl) (by decide) rfl (fun ls hl => ?_)
      refine lv_goto (tgt := 10) hx hb dX8_turn_25 (by decide) ?_
      refine W.widen (k := 1) (n := 6) (Nat.le_of_ble_eq_true rfl) (Nat.le_of_ble_eq_true rfl) ?_
      exact ih _ _ _ _ _ _ _ hw hBr hBw hS (lv_sub hl [1, 2, 0] rfl)
def wp_X8_turn (post : Int32 → Dt → Prop) (xpost : Nat → Prop) (r : Dt) (w : Dt) (x1 : Int32) : Prop := wp_X8_checkRange (fun _u => ∃ k9 : Nat, wp_X8_turn_10 post xpost   k9 x1 0 r w) xpost x1 1 200
set_option maxHeartbeats 4000000 in
set_option maxRecDepth 100000 in
theorem c_X8_turn (l : Launch) (D : va_G) (tc : Nat → ClassId) (h0 : Nat) (sa : Nat → Nat) (x1 : Int32) (H0 : Heap) {ar : Nat → Nat} {Ar : Nat → Prop} {sp : Option Nat} {ns : Nat} {np : Nat} {nf : Nat} {sd : Nat → Nat → Nat} {pd : Nat → Nat → Nat} {fd : Nat → Nat → Nat} {sums : Nat → Int64} {ad : Nat → Nat} {A : Nat → Prop} {r : Dt} {w : Dt} (hBr : Blk D tc Ar (shR (ad 0) sp ns np nf sd pd fd sums ar) ar r H0) (hBw : Blk D tc A (shW ad) ad w H0) (hDr : ∀ q, A q → ¬ Ar q) (hA0 : ∀ q, A q → h0 ≤ q) (hlf : l.stackTraces = false) {post : Int32 → Dt → Prop} {xpost : Nat → Prop} (hw : wp_X8_turn post xpost r w x1) : MX l yX8_turn cX8_turn 3 (Option.some FieldType.int) rm_X8_turn A [.ref (ar 0), .int x1] D tc h0 sa H0 (fun u : Int32 × Dt => post u.1 u.2) (fun (u : Int32 × Dt) (H1 : Heap) => Blk D tc A (shW ad) ad u.2 H1) (fun u : Int32 × Dt => some (.int u.1)) xpost := by
  refine MX.of RX8 [(0, .ref (ar 0)), (1, .int x1)] (by decide +kernel) rfl (Nat.le_of_ble_eq_true rfl) rfl ?_
  intro p e s m below meth c ls X hr hnt hT hH hS hl
  subst hH
  have hx := X.1
  have hb := X.2.1
  have hown := X.2.2.2.1
  have hU := X.2.2.2.2.1.1
  unfold wp_X8_turn at hw
  refine lv_iload_n hx hb dX8_turn_0 rfl (lv_at hl 1 rfl) ?_
  refine lv_iconst (v := 1) hx hb dX8_turn_1 (by decide) ?_
  refine lv_sipush (v := 200) hx hb dX8_turn_2 (by decide) ?_
  refine g_afterX (st0 := .int 200 :: .int 1 :: .int x1 :: []) (rest := []) (g_SX X m_X8_40 (c_X8_checkRange l D tc h0 sa x1 1 200 _ hlf hw) hT hS hA0 dX8_turn_5 hl.1 rfl rfl ⟨Nat.le_of_ble_eq_true rfl, Nat.le_of_ble_eq_true rfl⟩ (Nat.le_of_ble_eq_true rfl) ⟨Nat.le_of_ble_eq_true rfl, Nat.le_of_ble_eq_true rfl⟩) hS (fun _ h => h.elim) (fun u => []) (fun _ => rfl) (fun k ce q9 H1 locs1 hx9 hz9 ho9 hS9 hce hcv hcl => ?_) (fun u H9 locs hw hP9 hz9 hk9 hS => ?_)
  · exact e_x X hnt ⟨hz9, ho9⟩ hce hcv hcl hx9 hS9 ⟨Nat.le_of_ble_eq_true rfl, Nat.le_of_ble_eq_true rfl⟩
  have e9 : H9 = _ := hP9
  rw [e9] at hS ⊢
  try dsimp only at hw
  refine lv_iconst (v := 0) hx hb dX8_turn_8 (by decide) ?_
  refine lv_istore_n (lv' := [(2, .int 0), (0, .ref (ar 0)), (1, .int x1)]) hx hb dX8_turn_9 rfl hl (by decide) rfl (fun ls hl => ?_)
  refine W.widen (k := 1) (n := 6) (Nat.le_of_ble_eq_true rfl) (Nat.le_of_ble_eq_true rfl) ?_
  obtain ⟨k9, hw⟩ := hw
  exact t_X8_turn_10 X hr hT hA0 hDr hlf hnt  k9 _ _ _ _ _ _ _ hw hBr hBw hS (lv_sub hl [1, 2, 0] rfl)
