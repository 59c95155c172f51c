abbrev rm_X8_getTemperature : Room := { frames := 7, cells := 1, slots := 6, locals := 111 }
def wp_X8_getTemperature (post : Int32 → Prop) (xpost : Nat → Prop) (r : Dt) (w : Dt) (x1 : Int32) : Prop := wp_X8_checkIndex (fun _u => vp_in x1 10 ∧ (post (w 2 x1.toNatClampNeg))) xpost x1 10
set_option maxHeartbeats 4000000 in
set_option maxRecDepth 100000 in
theorem c_X8_getTemperature (l : Launch) (D : va_G) (tc : Nat → ClassId) (h0 : Nat) (sa : Nat → Nat) (x1 : Int32) (H0 : Heap) {ar : Nat → Nat} {Ar : Nat → Prop} {sp : Option Nat} {ns : Nat} {np : Nat} {nf : Nat} {sd : Nat → Nat → Nat} {pd : Nat → Nat → Nat} {fd : Nat → Nat → Nat} {sums : Nat → Int64} {ad : Nat → Nat} {A : Nat → Prop} {r : Dt} {w : Dt} (hBr : Blk D tc Ar (shR (ad 0) sp ns np nf sd pd fd sums ar) ar r H0) (hBw : Blk D tc A (shW ad) ad w H0) (hlf : l.stackTraces = false) {post : Int32 → Prop} {xpost : Nat → Prop} (hw : wp_X8_getTemperature post xpost r w x1) : MX l yX8_getTemperature cX8_getTemperature 2 (Option.some FieldType.int) rm_X8_getTemperature (fun _ => False) [.ref (ar 0), .int x1] D tc h0 sa H0 post (fun (_ : Int32) (H1 : Heap) => H1 = H0) (fun u : Int32 => some (.int u)) xpost := by
  have hA0 : ∀ q : Nat, (fun _ : Nat => False) q → h0 ≤ q := fun _ h => h.elim
  refine MX.of RX8 [(0, .ref (ar 0)), (1, .int x1)] (by decide +kernel) rfl (Nat.le_of_ble_eq_true rfl) rfl ?_
  intro p e s m below meth c ls X hr hnt hT hH hS hl
  subst hH
  have hx := X.1
  have hb := X.2.1
  have hown := X.2.2.2.1
  have hU := X.2.2.2.2.1.1
  unfold wp_X8_getTemperature at hw
  refine lv_iload_n hx hb dX8_getTemperature_0 rfl (lv_at hl 1 rfl) ?_
  refine lv_bipush (v := 10) hx hb dX8_getTemperature_1 (by decide) ?_
  refine g_afterX (st0 := .int 10 :: .int x1 :: []) (rest := []) (g_SX X m_X8_36 (c_X8_checkIndex l D tc h0 sa x1 10 _ hlf hw) hT hS hA0 dX8_getTemperature_3 hl.1 rfl rfl ⟨Nat.le_of_ble_eq_true rfl, Nat.le_of_ble_eq_true rfl⟩ (Nat.le_of_ble_eq_true rfl) ⟨Nat.le_of_ble_eq_true rfl, Nat.le_of_ble_eq_true rfl⟩) hS (fun _ h => h.elim) (fun u => []) (fun _ => rfl) (fun k ce q9 H1 locs1 hx9 hz9 ho9 hS9 hce hcv hcl => ?_) (fun u H9 locs hw hP9 hz9 hk9 hS => ?_)
  · exact e_x X hnt ⟨hz9, ho9⟩ hce hcv hcl hx9 hS9 ⟨Nat.le_of_ble_eq_true rfl, Nat.le_of_ble_eq_true rfl⟩
  have e9 : H9 = _ := hP9
  rw [e9] at hS ⊢
  try dsimp only at hw
  refine lv_aload_n hx hb dX8_getTemperature_6 rfl (lv_at hl 0 rfl) ?_
  refine g_get X dX8_getTemperature_7 f_X8_12 hBr 0 (v := .ref (ad 0)) rfl rfl ?_
  refine g_get X dX8_getTemperature_10 f_X8_44 hBw 0 (v := .ref (ad 1)) rfl rfl ?_
  refine g_get X dX8_getTemperature_13 f_X8_54 hBw 1 (v := .ref (ad 2)) rfl rfl ?_
  refine lv_iload_n hx hb dX8_getTemperature_16 rfl (lv_at hl 1 rfl) ?_
  obtain ⟨o1, hw⟩ := hw
  refine g_iald X dX8_getTemperature_17 hBw 2 rfl o1 rfl ?_
  refine W.widen (k := rm_X8_getTemperature.cells) (n := rm_X8_getTemperature.slots) (Nat.le_of_ble_eq_true rfl) (Nat.le_of_ble_eq_true rfl) ?_
  exact vx_ret (e_i X hr dX8_getTemperature_18 hS ((w 2 x1.toNatClampNeg)) rfl hw rfl ⟨Nat.le_refl _, Nat.le_refl _⟩)
abbrev rm_X8_getVapour : Room := { frames := 7, cells := 2, slots := 12, locals := 111 }
def wp_X8_getVapour (post : Int32 → Prop) (xpost : Nat → Prop) (r : Dt) (w : Dt) (x1 : Int32) (x2 : Int32) : Prop := wp_X8_checkIndex (fun _u => wp_X8_checkIndex (fun _u => vp_in x1 10 ∧ (vp_in x2 3 ∧ (post (w (x1.toNatClampNeg + 22) x2.toNatClampNeg)))) xpost x2 3) xpost x1 10
set_option maxHeartbeats 4000000 in
set_option maxRecDepth 100000 in
theorem c_X8_getVapour (l : Launch) (D : va_G) (tc : Nat → ClassId) (h0 : Nat) (sa : Nat → Nat) (x1 : Int32) (x2 : Int32) (H0 : Heap) {ar : Nat → Nat} {Ar : Nat → Prop} {sp : Option Nat} {ns : Nat} {np : Nat} {nf : Nat} {sd : Nat → Nat → Nat} {pd : Nat → Nat → Nat} {fd : Nat → Nat → Nat} {sums : Nat → Int64} {ad : Nat → Nat} {A : Nat → Prop} {r : Dt} {w : Dt} (hBr : Blk D tc Ar (shR (ad 0) sp ns np nf sd pd fd sums ar) ar r H0) (hBw : Blk D tc A (shW ad) ad w H0) (hlf : l.stackTraces = false) {post : Int32 → Prop} {xpost : Nat → Prop} (hw : wp_X8_getVapour post xpost r w x1 x2) : MX l yX8_getVapour cX8_getVapour 3 (Option.some FieldType.int) rm_X8_getVapour (fun _ => False) [.ref (ar 0), .int x1, .int x2] D tc h0 sa H0 post (fun (_ : Int32) (H1 : Heap) => H1 = H0) (fun u : Int32 => some (.int u)) xpost := by
  have hA0 : ∀ q : Nat, (fun _ : Nat => False) q → h0 ≤ q := fun _ h => h.elim
  refine MX.of RX8 [(0, .ref (ar 0)), (1, .int x1), (2, .int x2)] (by decide +kernel) rfl (Nat.le_of_ble_eq_true rfl) rfl ?_
  intro p e s m below meth c ls X hr hnt hT hH hS hl
  subst hH
  have hx := X.1
  have hb := X.2.1
  have hown := X.2.2.2.1
  have hU := X.2.2.2.2.1.1
  unfold wp_X8_getVapour at hw
  refine lv_iload_n hx hb dX8_getVapour_0 rfl (lv_at hl 1 rfl) ?_
  refine lv_bipush (v := 10) hx hb dX8_getVapour_1 (by decide) ?_
  refine g_afterX (st0 := .int 10 :: .int x1 :: []) (rest := []) (g_SX X m_X8_36 (c_X8_checkIndex l D tc h0 sa x1 10 _ hlf hw) hT hS hA0 dX8_getVapour_3 hl.1 rfl rfl ⟨Nat.le_of_ble_eq_true rfl, Nat.le_of_ble_eq_true rfl⟩ (Nat.le_of_ble_eq_true rfl) ⟨Nat.le_of_ble_eq_true rfl, Nat.le_of_ble_eq_true rfl⟩) hS (fun _ h => h.elim) (fun u => []) (fun _ => rfl) (fun k ce q9 H1 locs1 hx9 hz9 ho9 hS9 hce hcv hcl => ?_) (fun u H9 locs hw hP9 hz9 hk9 hS => ?_)
  · exact e_x X hnt ⟨hz9, ho9⟩ hce hcv hcl hx9 hS9 ⟨Nat.le_of_ble_eq_true rfl, Nat.le_of_ble_eq_true rfl⟩
  have e9 : H9 = _ := hP9
  rw [e9] at hS ⊢
  try dsimp only at hw
  refine lv_iload_n hx hb dX8_getVapour_6 rfl (lv_at hl 2 rfl) ?_
  refine lv_iconst (v := 3) hx hb dX8_getVapour_7 (by decide) ?_
  refine g_afterX (st0 := .int 3 :: .int x2 :: []) (rest := []) (g_SX X m_X8_36 (c_X8_checkIndex l D tc h0 sa x2 3 _ hlf hw) hT hS hA0 dX8_getVapour_8 hl.1 rfl rfl ⟨Nat.le_of_ble_eq_true rfl, Nat.le_of_ble_eq_true rfl⟩ (Nat.le_of_ble_eq_true rfl) ⟨Nat.le_of_ble_eq_true rfl, Nat.le_of_ble_eq_true rfl⟩) hS (fun _ h => h.elim) (fun u => []) (fun _ => rfl) (fun k ce q9 H1 locs1 hx9 hz9 ho9 hS9 hce hcv hcl => ?_) (fun u H9 locs hw hP9 hz9 hk9 hS => ?_)
  · exact e_x X hnt ⟨hz9, ho9⟩ hce hcv hcl hx9 hS9 ⟨Nat.le_of_ble_eq_true rfl, Nat.le_of_ble_eq_true rfl⟩
  have e9 : H9 = _ := hP9
  rw [e9] at hS ⊢
  try dsimp only at hw
  refine lv_aload_n hx hb dX8_getVapour_11 rfl (lv_at hl 0 rfl) ?_
  refine g_get X dX8_getVapour_12 f_X8_12 hBr 0 (v := .ref (ad 0)) rfl rfl ?_
  refine g_get X dX8_getVapour_15 f_X8_44 hBw 0 (v := .ref (ad 1)) rfl rfl ?_
  refine g_get X dX8_getVapour_18 f_X8_62 hBw 1 (v := .ref (ad 3)) rfl rfl ?_
  refine lv_iload_n hx hb dX8_getVapour_21 rfl (lv_at hl 1 rfl) ?_
  obtain ⟨o1, hw⟩ := hw
  refine g_aaldA X dX8_getVapour_22 hBw 3 rfl o1 (v := .ref (ad (x1.toNatClampNeg + 22))) (rows_at o1) ?_
  refine lv_iload_n hx hb dX8_getVapour_23 rfl (lv_at hl 2 rfl) ?_
  obtain ⟨o2, hw⟩ := hw
  refine g_iald X dX8_getVapour_24 hBw (x1.toNatClampNeg + 22) (cw_row22 o1) o2 rfl ?_
  refine W.widen (k := rm_X8_getVapour.cells) (n := rm_X8_getVapour.slots) (Nat.le_of_ble_eq_true rfl) (Nat.le_of_ble_eq_true rfl) ?_
  exact vx_ret (e_i X hr dX8_getVapour_25 hS ((w (x1.toNatClampNeg + 22) x2.toNatClampNeg)) rfl hw rfl ⟨Nat.le_refl _, Nat.le_refl _⟩)
abbrev rm_X8_getIce : Room := { frames := 7, cells := 2, slots := 12, locals := 111 }
def wp_X8_getIce (post : Int32 → Prop) (xpost : Nat → Prop) (r : Dt) (w : Dt) (x1 : Int32) (x2 : Int32) : Prop := wp_X8_checkIndex (fun _u => wp_X8_checkIndex (fun _u => vp_in x1 10 ∧ (vp_in x2 3 ∧ (post (w (x1.toNatClampNeg + 32) x2.toNatClampNeg)))) xpost x2 3) xpost x1 10
set_option maxHeartbeats 4000000 in
set_option maxRecDepth 100000 in
theorem c_X8_getIce (l : Launch) (D : va_G) (tc : Nat → ClassId) (h0 : Nat) (sa : Nat → Nat) (x1 : Int32) (x2 : Int32) (H0 : Heap) {ar : Nat → Nat} {Ar : Nat → Prop} {sp : Option Nat} {ns : Nat} {np : Nat} {nf : Nat} {sd : Nat → Nat → Nat} {pd : Nat → Nat → Nat} {fd : Nat → Nat → Nat} {sums : Nat → Int64} {ad : Nat → Nat} {A : Nat → Prop} {r : Dt} {w : Dt} (hBr : Blk D tc Ar (shR (ad 0) sp ns np nf sd pd fd sums ar) ar r H0) (hBw : Blk D tc A (shW ad) ad w H0) (hlf : l.stackTraces = false) {post : Int32 → Prop} {xpost : Nat → Prop} (hw : wp_X8_getIce post xpost r w x1 x2) : MX l yX8_getIce cX8_getIce 3 (Option.some FieldType.int) rm_X8_getIce (fun _ => False) [.ref (ar 0), .int x1, .int x2] D tc h0 sa H0 post (fun (_ : Int32) (H1 : Heap) => H1 = H0) (fun u : Int32 => some (.int u)) xpost := by
  have hA0 : ∀ q : Nat, (fun _ : Nat => False) q → h0 ≤ q := fun _ h => h.elim
  refine MX.of RX8 [(0, .ref (ar 0)), (1, .int x1), (2, .int x2)] (by decide +kernel) rfl (Nat.le_of_ble_eq_true rfl) rfl ?_
  intro p e s m below meth c ls X hr hnt hT hH hS hl
  subst hH
  have hx := X.1
  have hb := X.2.1
  have hown := X.2.2.2.1
  have hU := X.2.2.2.2.1.1
  unfold wp_X8_getIce at hw
  refine lv_iload_n hx hb dX8_getIce_0 rfl (lv_at hl 1 rfl) ?_
  refine lv_bipush (v := 10) hx hb dX8_getIce_1 (by decide) ?_
  refine g_afterX (st0 := .int 10 :: .int x1 :: []) (rest := []) (g_SX X m_X8_36 (c_X8_checkIndex l D tc h0 sa x1 10 _ hlf hw) hT hS hA0 dX8_getIce_3 hl.1 rfl rfl ⟨Nat.le_of_ble_eq_true rfl, Nat.le_of_ble_eq_true rfl⟩ (Nat.le_of_ble_eq_true rfl) ⟨Nat.le_of_ble_eq_true rfl, Nat.le_of_ble_eq_true rfl⟩) hS (fun _ h => h.elim) (fun u => []) (fun _ => rfl) (fun k ce q9 H1 locs1 hx9 hz9 ho9 hS9 hce hcv hcl => ?_) (fun u H9 locs hw hP9 hz9 hk9 hS => ?_)
  · exact e_x X hnt ⟨hz9, ho9⟩ hce hcv hcl hx9 hS9 ⟨Nat.le_of_ble_eq_true rfl, Nat.le_of_ble_eq_true rfl⟩
  have e9 : H9 = _ := hP9
  rw [e9] at hS ⊢
  try dsimp only at hw
  refine lv_iload_n hx hb dX8_getIce_6 rfl (lv_at hl 2 rfl) ?_
  refine lv_iconst (v := 3) hx hb dX8_getIce_7 (by decide) ?_
  refine g_afterX (st0 := .int 3 :: .int x2 :: []) (rest := []) (g_SX X m_X8_36 (c_X8_checkIndex l D tc h0 sa x2 3 _ hlf hw) hT hS hA0 dX8_getIce_8 hl.1 rfl rfl ⟨Nat.le_of_ble_eq_true rfl, Nat.le_of_ble_eq_true rfl⟩ (Nat.le_of_ble_eq_true rfl) ⟨Nat.le_of_ble_eq_true rfl, Nat.le_of_ble_eq_true rfl⟩) hS (fun _ h => h.elim) (fun u => []) (fun _ => rfl) (fun k ce q9 H1 locs1 hx9 hz9 ho9 hS9 hce hcv hcl => ?_) (fun u H9 locs hw hP9 hz9 hk9 hS => ?_)
  · exact e_x X hnt ⟨hz9, ho9⟩ hce hcv hcl hx9 hS9 ⟨Nat.le_of_ble_eq_true rfl, Nat.le_of_ble_eq_true rfl⟩
  have e9 : H9 = _ := hP9
  rw [e9] at hS ⊢
  try dsimp only at hw
  refine lv_aload_n hx hb dX8_getIce_11 rfl (lv_at hl 0 rfl) ?_
  refine g_get X dX8_getIce_12 f_X8_12 hBr 0 (v := .ref (ad 0)) rfl rfl ?_
  refine g_get X dX8_getIce_15 f_X8_44 hBw 0 (v := .ref (ad 1)) rfl rfl ?_
  refine g_get X dX8_getIce_18 f_X8_66 hBw 1 (v := .ref (ad 4)) rfl rfl ?_
  refine lv_iload_n hx hb dX8_getIce_21 rfl (lv_at hl 1 rfl) ?_
  obtain ⟨o1, hw⟩ := hw
  refine g_aaldA X dX8_getIce_22 hBw 4 rfl o1 (v := .ref (ad (x1.toNatClampNeg + 32))) (rows_at o1) ?_
  refine lv_iload_n hx hb dX8_getIce_23 rfl (lv_at hl 2 rfl) ?_
  obtain ⟨o2, hw⟩ := hw
  refine g_iald X dX8_getIce_24 hBw (x1.toNatClampNeg + 32) (cw_row32 o1) o2 rfl ?_
  refine W.widen (k := rm_X8_getIce.cells) (n := rm_X8_getIce.slots) (Nat.le_of_ble_eq_true rfl) (Nat.le_of_ble_eq_true rfl) ?_
  exact vx_ret (e_i X hr dX8_getIce_25 hS ((w (x1.toNatClampNeg + 32) x2.toNatClampNeg)) rfl hw rfl ⟨Nat.le_refl _, Nat.le_refl _⟩)
abbrev rm_X8_deck : Room := { frames := 7, cells := 2, slots := 12, locals := 111 }
def wp_X8_deck (post : Int32 → Prop) (xpost : Nat → Prop) (r : Dt) (w : Dt) (x1 : Int32) : Prop := wp_X8_checkIndex (fun _u => wp_X1_iciestLevel (fun r1 => (0 ≤ r1 → post r1) ∧ (¬ 0 ≤ r1 → xpost 4)) w x1) xpost x1 3
set_option maxHeartbeats 4000000 in
set_option maxRecDepth 100000 in
theorem c_X8_deck (l : Launch) (D : va_G) (tc : Nat → ClassId) (h0 : Nat) (sa : Nat → Nat) (x1 : Int32) (H0 : Heap) {ar : Nat → Nat} {Ar : Nat → Prop} {sp : Option Nat} {ns : Nat} {np : Nat} {nf : Nat} {sd : Nat → Nat → Nat} {pd : Nat → Nat → Nat} {fd : Nat → Nat → Nat} {sums : Nat → Int64} {ad : Nat → Nat} {A : Nat → Prop} {r : Dt} {w : Dt} (hBr : Blk D tc Ar (shR (ad 0) sp ns np nf sd pd fd sums ar) ar r H0) (hBw : Blk D tc A (shW ad) ad w H0) (hlf : l.stackTraces = false) {post : Int32 → Prop} {xpost : Nat → Prop} (hw : wp_X8_deck post xpost r w x1) : MX l yX8_deck cX8_deck 3 (Option.some FieldType.int) rm_X8_deck (fun _ => False) [.ref (ar 0), .int x1] D tc h0 sa H0 post (fun (_ : Int32) (H1 : Heap) => H1 = H0) (fun u : Int32 => some (.int u)) xpost := by
  have hA0 : ∀ q : Nat, (fun _ : Nat => False) q → h0 ≤ q := fun _ h => h.elim
  refine MX.of RX8 [(0, .ref (ar 0)), (1, .int x1)] (by decide +kernel) rfl (Nat.le_of_ble_eq_true rfl) rfl ?_
  intro p e s m below meth c ls X hr hnt hT hH hS hl
  subst hH
  have hx := X.1
  have hb := X.2.1
  have hown := X.2.2.2.1
  have hU := X.2.2.2.2.1.1
  unfold wp_X8_deck at hw
  refine lv_iload_n hx hb dX8_deck_0 rfl (lv_at hl 1 rfl) ?_
  refine lv_iconst (v := 3) hx hb dX8_deck_1 (by decide) ?_
  refine g_afterX (st0 := .int 3 :: .int x1 :: []) (rest := []) (g_SX X m_X8_36 (c_X8_checkIndex l D tc h0 sa x1 3 _ hlf hw) hT hS hA0 dX8_deck_2 hl.1 rfl rfl ⟨Nat.le_of_ble_eq_true rfl, Nat.le_of_ble_eq_true rfl⟩ (Nat.le_of_ble_eq_true rfl) ⟨Nat.le_of_ble_eq_true rfl, Nat.le_of_ble_eq_true rfl⟩) hS (fun _ h => h.elim) (fun u => []) (fun _ => rfl) (fun k ce q9 H1 locs1 hx9 hz9 ho9 hS9 hce hcv hcl => ?_) (fun u H9 locs hw hP9 hz9 hk9 hS => ?_)
  · exact e_x X hnt ⟨hz9, ho9⟩ hce hcv hcl hx9 hS9 ⟨Nat.le_of_ble_eq_true rfl, Nat.le_of_ble_eq_true rfl⟩
  have e9 : H9 = _ := hP9
  rw [e9] at hS ⊢
  try dsimp only at hw
  refine lv_aload_n hx hb dX8_deck_5 rfl (lv_at hl 0 rfl) ?_
  refine g_get X dX8_deck_6 f_X8_12 hBr 0 (v := .ref (ad 0)) rfl rfl ?_
  refine g_get X dX8_deck_9 f_X8_44 hBw 0 (v := .ref (ad 1)) rfl rfl ?_
  refine lv_iload_n hx hb dX8_deck_12 rfl (lv_at hl 1 rfl) ?_
  refine g_after (st0 := .int x1 :: .ref (ad 1) :: []) (rest := []) (g_V X m_X8_69 (c_X1_iciestLevel l D tc h0 sa x1 _ hBw hw) (hBw.recv X 1 rfl (q := (RX1, TX1, 8)) rfl) hT hS hA0 dX8_deck_13 hl.1 rfl rfl ⟨Nat.le_of_ble_eq_true rfl, Nat.le_of_ble_eq_true rfl⟩ (Nat.le_of_ble_eq_true rfl) ⟨Nat.le_of_ble_eq_true rfl, Nat.le_of_ble_eq_true rfl⟩) hS (fun _ h => h.elim) (fun u => .int u :: []) (fun _ => rfl) (fun u H9 locs hw hP9 hz9 hk9 hS => ?_)
  have e9 : H9 = _ := hP9
  rw [e9] at hS ⊢
  obtain ⟨r1, rfl⟩ : ∃ z, z = u := ⟨_, rfl⟩
  try dsimp only at hw
  refine lv_istore_n (lv' := [(2, .int r1), (0, .ref (ar 0)), (1, .int x1)]) hx hb dX8_deck_16 rfl hl (by decide) rfl (fun ls hl => ?_)
  refine lv_iload_n hx hb dX8_deck_17 rfl (lv_at hl 0 rfl) ?_
  refine lv_if_ge (tgt := 31) hx hb dX8_deck_18 (by decide) (fun c2 => ?_) (fun c2 => ?_)
  · have hw := hw.1 c2
    refine lv_iload_n hx hb dX8_deck_31 rfl (lv_at hl 0 rfl) ?_
    refine W.widen (k := rm_X8_deck.cells) (n := rm_X8_deck.slots) (Nat.le_of_ble_eq_true rfl) (Nat.le_of_ble_eq_true rfl) ?_
    exact vx_ret (e_i X hr dX8_deck_32 hS (r1) rfl hw rfl ⟨Nat.le_refl _, Nat.le_refl _⟩)
  · have hw := hw.2 c2
    exact g_throw X hlf tk4 (text := "there is no ice of this vapour") (by decide) hT hnt hA0 hS hl.1 dX8_deck_21 dX8_deck_24 dX8_deck_25 dX8_deck_27 dX8_deck_30 ⟨Nat.le_of_ble_eq_true rfl, Nat.le_of_ble_eq_true rfl, Nat.le_of_ble_eq_true rfl, Nat.le_of_ble_eq_true rfl, Nat.le_of_ble_eq_true rfl, Nat.le_of_ble_eq_true rfl⟩ hw
abbrev rm_X8_pressure : Room := { frames := 7, cells := 1, slots := 6, locals := 111 }
def wp_X8_pressure_11 (post : UInt32 → Prop) (xpost : Nat → Prop)   : Nat → Int32 → UInt32 → Int32 → Dt → Dt → Prop
  | 0, _, _, _, _, _ => False
  | n9 + 1, y1, y2, y3, r, w => (y1 ≤ y3 → post y2) ∧ (¬ y1 ≤ y3 → vf_n32 (FP.fmul y2 0x40000000) ∧ (wp_X8_pressure_11 post xpost   n9 y1 (FP.fmul y2 0x40000000) (y3 + 1) r w))
set_option maxHeartbeats 4000000 in
set_option maxRecDepth 100000 in
theorem t_X8_pressure_11 {p : Program} {l : Launch} {e : Env} {s : State} {m : MethodId} {args : Array Value} {below : List Frame} {meth : Method} {c : Code} {D : va_G} {tc : Nat → ClassId} {h0 : Nat} {sa : Nat → Nat}  {ar : Nat → Nat} {Ar : Nat → Prop} {sp : Option Nat} {ns : Nat} {np : Nat} {nf : Nat} {sd : Nat → Nat → Nat} {pd : Nat → Nat → Nat} {fd : Nat → Nat → Nat} {sums : Nat → Int64} {ad : Nat → Nat} {A : Nat → Prop} {post : UInt32 → Prop} {xpost : Nat → Prop}  (X : Cx p c s m meth cX8_pressure 4 RX8 D tc) (hr : meth.sig.returnType = (Option.some FieldType.float)) (hT : ST h0 sa s s.heap) (hA0 : ∀ q, (fun _ => False) q → h0 ≤ q) (hlf : l.stackTraces = false) (hnt : ∀ x ∈ c.exceptionTable.toList, False)  : ∀ (n9 : Nat) (y1 : Int32) (y2 : UInt32) (y3 : Int32) (r : Dt) (w : Dt) (locs : List Loc) (ls : Array Slot), wp_X8_pressure_11 post xpost   n9 y1 y2 y3 r w → (Blk D tc Ar (shR (ad 0) sp ns np nf sd pd fd sums ar) ar r s.heap) → (Blk D tc A (shW ad) ad w s.heap) → va_S (fun _ => False) s.heap s.heap locs → lv_has ls 4 [(1, .int y1), (2, .float y2), (3, .int y3)] → W p l e rm_X8_pressure s m args below meth c s.heap locs 1 6 (vx_MQ below (QB post (fun (_ : UInt32) (H1 : Heap) => H1 = s.heap) (fun u : UInt32 => some (.float u)) (fun _ => False)) (XB xpost) args s rm_X8_pressure.cells rm_X8_pressure.slots (fun _ => False)) (F0 m 11 ls []) := by
  have hx := X.1
  have hb := X.2.1
  have hown := X.2.2.2.1
  have hU := X.2.2.2.2.1.1
  intro n9
  induction n9 with
  | zero =>
    intro y1 y2 y3 r w  locs ls hw
    exact hw.elim
  | succ n9 ih =>
    intro y1 y2 y3 r w  locs ls hw hBr hBw hS hl
    unfold wp_X8_pressure_11 at hw
    refine lv_iload_n hx hb dX8_pressure_11 rfl (lv_at hl 2 rfl) ?_
    refine lv_iload_n hx hb dX8_pressure_12 rfl (lv_at hl 0 rfl) ?_
    refine lv_icmp_ge (tgt := 26) hx hb dX8_pressure_13 (by decide) (fun c1 => ?_) (fun c1 => ?_)
    · have hw := hw.1 c1
      refine lv_fload_n hx hb dX8_pressure_26 rfl (lv_at hl 1 rfl) ?_
      refine W.widen (k := rm_X8_pressure.cells) (n := rm_X8_pressure.slots) (Nat.le_of_ble_eq_true rfl) (Nat.le_of_ble_eq_true rfl) ?_
      exact vx_ret (e_f X hr dX8_pressure_27 hS (y2) rfl hw rfl ⟨Nat.le_refl _, Nat.le_refl _⟩)
    · have hw := hw.2 c1
      refine lv_fload_n hx hb dX8_pressure_16 rfl (lv_at hl 1 rfl) ?_
      refine lv_fconst2 hx hb dX8_pressure_17 ?_
      obtain ⟨o2, hw⟩ := hw
      refine lv_fmul hx hb dX8_pressure_18 o2 ?_
      refine lv_fstore_n (lv' := [(2, .float (FP.fmul y2 0x40000000)), (1, .int y1), (3, .int y3)]) hx hb dX8_pressure_19 rfl hl (by decide) rfl (fun ls hl => ?_)
      refine lv_iinc (lv' := [(3, .int (y3 + 1)), (2, .float (FP.fmul y2 0x40000000)), (1, .int y1)]) hx hb dX8_pressure_20 hl (k := 2) rfl (by rfl) (by decide) rfl (fun ls hl => ?_)
      refine lv_goto (tgt := 11) hx hb dX8_pressure_23 (by decide) ?_
      refine W.widen (k := 1) (n := 6) (Nat.le_of_ble_eq_true rfl) (Nat.le_of_ble_eq_true rfl) ?_
      exact ih _ _ _ _ _ _ _ hw hBr hBw hS (lv_sub hl [2, 1, 0] rfl)
def wp_X8_pressure (post : UInt32 → Prop) (xpost : Nat → Prop) (r : Dt) (w : Dt) (x1 : Int32) : Prop := wp_X8_checkIndex (fun _u => ∃ k9 : Nat, wp_X8_pressure_11 post xpost   k9 x1 1036831949 0 r w) xpost x1 10
set_option maxHeartbeats 4000000 in
set_option maxRecDepth 100000 in
theorem c_X8_pressure (l : Launch) (D : va_G) (tc : Nat → ClassId) (h0 : Nat) (sa : Nat → Nat) (x1 : Int32) (H0 : Heap) {ar : Nat → Nat} {Ar : Nat → Prop} {sp : Option Nat} {ns : Nat} {np : Nat} {nf : Nat} {sd : Nat → Nat → Nat} {pd : Nat → Nat → Nat} {fd : Nat → Nat → Nat} {sums : Nat → Int64} {ad : Nat → Nat} {A : Nat → Prop} {r : Dt} {w : Dt} (hBr : Blk D tc Ar (shR (ad 0) sp ns np nf sd pd fd sums ar) ar r H0) (hBw : Blk D tc A (shW ad) ad w H0) (hlf : l.stackTraces = false) {post : UInt32 → Prop} {xpost : Nat → Prop} (hw : wp_X8_pressure post xpost r w x1) : MX l yX8_pressure cX8_pressure 4 (Option.some FieldType.float) rm_X8_pressure (fun _ => False) [.ref (ar 0), .int x1] D tc h0 sa H0 post (fun (_ : UInt32) (H1 : Heap) => H1 = H0) (fun u : UInt32 => some (.float u)) xpost := by
  have hA0 : ∀ q : Nat, (fun _ : Nat => False) q → h0 ≤ q := fun _ h => h.elim
  refine MX.of RX8 [(0, .ref (ar 0)), (1, .int x1)] (by decide +kernel) rfl (Nat.le_of_ble_eq_true rfl) rfl ?_
  intro p e s m below meth c ls X hr hnt hT hH hS hl
  subst hH
  have hx := X.1
  have hb := X.2.1
  have hown := X.2.2.2.1
  have hU := X.2.2.2.2.1.1
  unfold wp_X8_pressure at hw
  refine lv_iload_n hx hb dX8_pressure_0 rfl (lv_at hl 1 rfl) ?_
  refine lv_bipush (v := 10) hx hb dX8_pressure_1 (by decide) ?_
  refine g_afterX (st0 := .int 10 :: .int x1 :: []) (rest := []) (g_SX X m_X8_36 (c_X8_checkIndex l D tc h0 sa x1 10 _ hlf hw) hT hS hA0 dX8_pressure_3 hl.1 rfl rfl ⟨Nat.le_of_ble_eq_true rfl, Nat.le_of_ble_eq_true rfl⟩ (Nat.le_of_ble_eq_true rfl) ⟨Nat.le_of_ble_eq_true rfl, Nat.le_of_ble_eq_true rfl⟩) hS (fun _ h => h.elim) (fun u => []) (fun _ => rfl) (fun k ce q9 H1 locs1 hx9 hz9 ho9 hS9 hce hcv hcl => ?_) (fun u H9 locs hw hP9 hz9 hk9 hS => ?_)
  · exact e_x X hnt ⟨hz9, ho9⟩ hce hcv hcl hx9 hS9 ⟨Nat.le_of_ble_eq_true rfl, Nat.le_of_ble_eq_true rfl⟩
  have e9 : H9 = _ := hP9
  rw [e9] at hS ⊢
  try dsimp only at hw
  refine lv_ldcf (v := 1036831949) hx hb hown (hU.use w_566) dX8_pressure_6 ?_
  refine lv_fstore_n (lv' := [(2, .float 1036831949), (0, .ref (ar 0)), (1, .int x1)]) hx hb dX8_pressure_8 rfl hl (by decide) rfl (fun ls hl => ?_)
  refine lv_iconst (v := 0) hx hb dX8_pressure_9 (by decide) ?_
  refine lv_istore_n (lv' := [(3, .int 0), (2, .float 1036831949), (0, .ref (ar 0)), (1, .int x1)]) hx hb dX8_pressure_10 rfl hl (by decide) rfl (fun ls hl => ?_)
  refine W.widen (k := 1) (n := 6) (Nat.le_of_ble_eq_true rfl) (Nat.le_of_ble_eq_true rfl) ?_
  obtain ⟨k9, hw⟩ := hw
  exact t_X8_pressure_11 X hr hT hA0 hlf hnt  k9 _ _ _ _ _ _ _ hw hBr hBw hS (lv_sub hl [3, 1, 0] rfl)
abbrev rm_X8_getTurning : Room := { frames := 7, cells := 1, slots := 6, locals := 111 }
def wp_X8_getTurning (post : Int32 → Prop) (xpost : Nat → Prop) (r : Dt) (w : Dt) (x1 : Int32) : Prop := wp_X8_checkIndex (fun _u => vp_in x1 12 ∧ (post (w 6 x1.toNatClampNeg))) xpost x1 12
set_option maxHeartbeats 4000000 in
set_option maxRecDepth 100000 in
theorem c_X8_getTurning (l : Launch) (D : va_G) (tc : Nat → ClassId) (h0 : Nat) (sa : Nat → Nat) (x1 : Int32) (H0 : Heap) {ar : Nat → Nat} {Ar : Nat → Prop} {sp : Option Nat} {ns : Nat} {np : Nat} {nf : Nat} {sd : Nat → Nat → Nat} {pd : Nat → Nat → Nat} {fd : Nat → Nat → Nat} {sums : Nat → Int64} {ad : Nat → Nat} {A : Nat → Prop} {r : Dt} {w : Dt} (hBr : Blk D tc Ar (shR (ad 0) sp ns np nf sd pd fd sums ar) ar r H0) (hBw : Blk D tc A (shW ad) ad w H0) (hlf : l.stackTraces = false) {post : Int32 → Prop} {xpost : Nat → Prop} (hw : wp_X8_getTurning post xpost r w x1) : MX l yX8_getTurning cX8_getTurning 2 (Option.some FieldType.int) rm_X8_getTurning (fun _ => False) [.ref (ar 0), .int x1] D tc h0 sa H0 post (fun (_ : Int32) (H1 : Heap) => H1 = H0) (fun u : Int32 => some (.int u)) xpost := by
  have hA0 : ∀ q : Nat, (fun _ : Nat => False) q → h0 ≤ q := fun _ h => h.elim
  refine MX.of RX8 [(0, .ref (ar 0)), (1, .int x1)] (by decide +kernel) rfl (Nat.le_of_ble_eq_true rfl) rfl ?_
  intro p e s m below meth c ls X hr hnt hT hH hS hl
  subst hH
  have hx := X.1
  have hb := X.2.1
  have hown := X.2.2.2.1
  have hU := X.2.2.2.2.1.1
  unfold wp_X8_getTurning at hw
  refine lv_iload_n hx hb dX8_getTurning_0 rfl (lv_at hl 1 rfl) ?_
  refine lv_bipush (v := 12) hx hb dX8_getTurning_1 (by decide) ?_
  refine g_afterX (st0 := .int 12 :: .int x1 :: []) (rest := []) (g_SX X m_X8_36 (c_X8_checkIndex l D tc h0 sa x1 12 _ hlf hw) hT hS hA0 dX8_getTurning_3 hl.1 rfl rfl ⟨Nat.le_of_ble_eq_true rfl, Nat.le_of_ble_eq_true rfl⟩ (Nat.le_of_ble_eq_true rfl) ⟨Nat.le_of_ble_eq_true rfl, Nat.le_of_ble_eq_true rfl⟩) hS (fun _ h => h.elim) (fun u => []) (fun _ => rfl) (fun k ce q9 H1 locs1 hx9 hz9 ho9 hS9 hce hcv hcl => ?_) (fun u H9 locs hw hP9 hz9 hk9 hS => ?_)
  · exact e_x X hnt ⟨hz9, ho9⟩ hce hcv hcl hx9 hS9 ⟨Nat.le_of_ble_eq_true rfl, Nat.le_of_ble_eq_true rfl⟩
  have e9 : H9 = _ := hP9
  rw [e9] at hS ⊢
  try dsimp only at hw
  refine lv_aload_n hx hb dX8_getTurning_6 rfl (lv_at hl 0 rfl) ?_
  refine g_get X dX8_getTurning_7 f_X8_12 hBr 0 (v := .ref (ad 0)) rfl rfl ?_
  refine g_get X dX8_getTurning_10 f_X8_88 hBw 0 (v := .ref (ad 5)) rfl rfl ?_
  refine g_get X dX8_getTurning_13 f_X8_97 hBw 5 (v := .ref (ad 6)) rfl rfl ?_
  refine lv_iload_n hx hb dX8_getTurning_16 rfl (lv_at hl 1 rfl) ?_
  obtain ⟨o1, hw⟩ := hw
  refine g_iald X dX8_getTurning_17 hBw 6 rfl o1 rfl ?_
  refine W.widen (k := rm_X8_getTurning.cells) (n := rm_X8_getTurning.slots) (Nat.le_of_ble_eq_true rfl) (Nat.le_of_ble_eq_true rfl) ?_
  exact vx_ret (e_i X hr dX8_getTurning_18 hS ((w 6 x1.toNatClampNeg)) rfl hw rfl ⟨Nat.le_refl _, Nat.le_refl _⟩)
abbrev rm_X8_getWind : Room := { frames := 7, cells := 1, slots := 6, locals := 111 }
def wp_X8_getWind (post : Int32 → Prop) (xpost : Nat → Prop) (r : Dt) (w : Dt) (x1 : Int32) : Prop := wp_X8_checkIndex (fun _u => wp_X0_windOf (fun r1 => post r1) w x1) xpost x1 12
set_option maxHeartbeats 4000000 in
set_option maxRecDepth 100000 in
theorem c_X8_getWind (l : Launch) (D : va_G) (tc : Nat → ClassId) (h0 : Nat) (sa : Nat → Nat) (x1 : Int32) (H0 : Heap) {ar : Nat → Nat} {Ar : Nat → Prop} {sp : Option Nat} {ns : Nat} {np : Nat} {nf : Nat} {sd : Nat → Nat → Nat} {pd : Nat → Nat → Nat} {fd : Nat → Nat → Nat} {sums : Nat → Int64} {ad : Nat → Nat} {A : Nat → Prop} {r : Dt} {w : Dt} (hBr : Blk D tc Ar (shR (ad 0) sp ns np nf sd pd fd sums ar) ar r H0) (hBw : Blk D tc A (shW ad) ad w H0) (hlf : l.stackTraces = false) {post : Int32 → Prop} {xpost : Nat → Prop} (hw : wp_X8_getWind post xpost r w x1) : MX l yX8_getWind cX8_getWind 2 (Option.some FieldType.int) rm_X8_getWind (fun _ => False) [.ref (ar 0), .int x1] D tc h0 sa H0 post (fun (_ : Int32) (H1 : Heap) => H1 = H0) (fun u : Int32 => some (.int u)) xpost := by
  have hA0 : ∀ q : Nat, (fun _ : Nat => False) q → h0 ≤ q := fun _ h => h.elim
  refine MX.of RX8 [(0, .ref (ar 0)), (1, .int x1)] (by decide +kernel) rfl (Nat.le_of_ble_eq_true rfl) rfl ?_
  intro p e s m below meth c ls X hr hnt hT hH hS hl
  subst hH
  have hx := X.1
  have hb := X.2.1
  have hown := X.2.2.2.1
  have hU := X.2.2.2.2.1.1
  unfold wp_X8_getWind at hw
  refine lv_iload_n hx hb dX8_getWind_0 rfl (lv_at hl 1 rfl) ?_
  refine lv_bipush (v := 12) hx hb dX8_getWind_1 (by decide) ?_
  refine g_afterX (st0 := .int 12 :: .int x1 :: []) (rest := []) (g_SX X m_X8_36 (c_X8_checkIndex l D tc h0 sa x1 12 _ hlf hw) hT hS hA0 dX8_getWind_3 hl.1 rfl rfl ⟨Nat.le_of_ble_eq_true rfl, Nat.le_of_ble_eq_true rfl⟩ (Nat.le_of_ble_eq_true rfl) ⟨Nat.le_of_ble_eq_true rfl, Nat.le_of_ble_eq_true rfl⟩) hS (fun _ h => h.elim) (fun u => []) (fun _ => rfl) (fun k ce q9 H1 locs1 hx9 hz9 ho9 hS9 hce hcv hcl => ?_) (fun u H9 locs hw hP9 hz9 hk9 hS => ?_)
  · exact e_x X hnt ⟨hz9, ho9⟩ hce hcv hcl hx9 hS9 ⟨Nat.le_of_ble_eq_true rfl, Nat.le_of_ble_eq_true rfl⟩
  have e9 : H9 = _ := hP9
  rw [e9] at hS ⊢
  try dsimp only at hw
  refine lv_aload_n hx hb dX8_getWind_6 rfl (lv_at hl 0 rfl) ?_
  refine g_get X dX8_getWind_7 f_X8_12 hBr 0 (v := .ref (ad 0)) rfl rfl ?_
  refine g_get X dX8_getWind_10 f_X8_88 hBw 0 (v := .ref (ad 5)) rfl rfl ?_
  refine lv_iload_n hx hb dX8_getWind_13 rfl (lv_at hl 1 rfl) ?_
  refine g_after (st0 := .int x1 :: .ref (ad 5) :: []) (rest := []) (g_V X m_X8_100 (c_X0_windOf l D tc h0 sa x1 _ hBw hw) (hBw.recv X 5 rfl (q := (RX0, TX0, 4)) rfl) hT hS hA0 dX8_getWind_14 hl.1 rfl rfl ⟨Nat.le_of_ble_eq_true rfl, Nat.le_of_ble_eq_true rfl⟩ (Nat.le_of_ble_eq_true rfl) ⟨Nat.le_of_ble_eq_true rfl, Nat.le_of_ble_eq_true rfl⟩) hS (fun _ h => h.elim) (fun u => .int u :: []) (fun _ => rfl) (fun u H9 locs hw hP9 hz9 hk9 hS => ?_)
  have e9 : H9 = _ := hP9
  rw [e9] at hS ⊢
  obtain ⟨r1, rfl⟩ : ∃ z, z = u := ⟨_, rfl⟩
  try dsimp only at hw
  refine W.widen (k := rm_X8_getWind.cells) (n := rm_X8_getWind.slots) (Nat.le_of_ble_eq_true rfl) (Nat.le_of_ble_eq_true rfl) ?_
  exact vx_ret (e_i X hr dX8_getWind_17 hS (r1) rfl hw rfl ⟨Nat.le_refl _, Nat.le_refl _⟩)
abbrev rm_X8_getShear : Room := { frames := 7, cells := 1, slots := 6, locals := 111 }
def wp_X8_getShear (post : Int32 → Prop) (xpost : Nat → Prop) (r : Dt) (w : Dt) (x1 : Int32) : Prop := wp_X8_checkIndex (fun _u => wp_X0_shearOf (fun r1 => post r1) w x1) xpost x1 12
set_option maxHeartbeats 4000000 in
set_option maxRecDepth 100000 in
theorem c_X8_getShear (l : Launch) (D : va_G) (tc : Nat → ClassId) (h0 : Nat) (sa : Nat → Nat) (x1 : Int32) (H0 : Heap) {ar : Nat → Nat} {Ar : Nat → Prop} {sp : Option Nat} {ns : Nat} {np : Nat} {nf : Nat} {sd : Nat → Nat → Nat} {pd : Nat → Nat → Nat} {fd : Nat → Nat → Nat} {sums : Nat → Int64} {ad : Nat → Nat} {A : Nat → Prop} {r : Dt} {w : Dt} (hBr : Blk D tc Ar (shR (ad 0) sp ns np nf sd pd fd sums ar) ar r H0) (hBw : Blk D tc A (shW ad) ad w H0) (hlf : l.stackTraces = false) {post : Int32 → Prop} {xpost : Nat → Prop} (hw : wp_X8_getShear post xpost r w x1) : MX l yX8_getShear cX8_getShear 2 (Option.some FieldType.int) rm_X8_getShear (fun _ => False) [.ref (ar 0), .int x1] D tc h0 sa H0 post (fun (_ : Int32) (H1 : Heap) => H1 = H0) (fun u : Int32 => some (.int u)) xpost := by
  have hA0 : ∀ q : Nat, (fun _ : Nat => False) q → h0 ≤ q := fun _ h => h.elim
  refine MX.of RX8 [(0, .ref (ar 0)), (1, .int x1)] (by decide +kernel) rfl (Nat.le_of_ble_eq_true rfl) rfl ?_
  intro p e s m below meth c ls X hr hnt hT hH hS hl
  subst hH
  have hx := X.1
  have hb := X.2.1
  have hown := X.2.2.2.1
  have hU := X.2.2.2.2.1.1
  unfold wp_X8_getShear at hw
  refine lv_iload_n hx hb dX8_getShear_0 rfl (lv_at hl 1 rfl) ?_
  refine lv_bipush (v := 12) hx hb dX8_getShear_1 (by decide) ?_
  refine g_afterX (st0 := .int 12 :: .int x1 :: []) (rest := []) (g_SX X m_X8_36 (c_X8_checkIndex l D tc h0 sa x1 12 _ hlf hw) hT hS hA0 dX8_getShear_3 hl.1 rfl rfl ⟨Nat.le_of_ble_eq_true rfl, Nat.le_of_ble_eq_true rfl⟩ (Nat.le_of_ble_eq_true rfl) ⟨Nat.le_of_ble_eq_true rfl, Nat.le_of_ble_eq_true rfl⟩) hS (fun _ h => h.elim) (fun u => []) (fun _ => rfl) (fun k ce q9 H1 locs1 hx9 hz9 ho9 hS9 hce hcv hcl => ?_) (fun u H9 locs hw hP9 hz9 hk9 hS => ?_)
  · exact e_x X hnt ⟨hz9, ho9⟩ hce hcv hcl hx9 hS9 ⟨Nat.le_of_ble_eq_true rfl, Nat.le_of_ble_eq_true rfl⟩
  have e9 : H9 = _ := hP9
  rw [e9] at hS ⊢
  try dsimp only at hw
  refine lv_aload_n hx hb dX8_getShear_6 rfl (lv_at hl 0 rfl) ?_
  refine g_get X dX8_getShear_7 f_X8_12 hBr 0 (v := .ref (ad 0)) rfl rfl ?_
  refine g_get X dX8_getShear_10 f_X8_88 hBw 0 (v := .ref (ad 5)) rfl rfl ?_
  refine lv_iload_n hx hb dX8_getShear_13 rfl (lv_at hl 1 rfl) ?_
  refine g_after (st0 := .int x1 :: .ref (ad 5) :: []) (rest := []) (g_V X m_X8_103 (c_X0_shearOf l D tc h0 sa x1 _ hBw hw) (hBw.recv X 5 rfl (q := (RX0, TX0, 4)) rfl) hT hS hA0 dX8_getShear_14 hl.1 rfl rfl ⟨Nat.le_of_ble_eq_true rfl, Nat.le_of_ble_eq_true rfl⟩ (Nat.le_of_ble_eq_true rfl) ⟨Nat.le_of_ble_eq_true rfl, Nat.le_of_ble_eq_true rfl⟩) hS (fun _ h => h.elim) (fun u => .int u :: []) (fun _ => rfl) (fun u H9 locs hw hP9 hz9 hk9 hS => ?_)
  have e9 : H9 = _ := hP9
  rw [e9] at hS ⊢
  obtain ⟨r1, rfl⟩ : ∃ z, z = u := ⟨_, rfl⟩
  try dsimp only at hw
  refine W.widen (k := rm_X8_getShear.cells) (n := rm_X8_getShear.slots) (Nat.le_of_ble_eq_true rfl) (Nat.le_of_ble_eq_true rfl) ?_
  exact vx_ret (e_i X hr dX8_getShear_17 hS (r1) rfl hw rfl ⟨Nat.le_refl _, Nat.le_refl _⟩)
abbrev rm_X8_findName : Room := { frames := 7, cells := 2, slots := 12, locals := 110 }
def wp_X8_findName (post : Int32 → Prop) (xpost : Nat → Prop) (r : Dt) (w : Dt) (x1 : Int32) : Prop := wp_X8_checkName (fun _u => wp_X6_bearerOf (fun r1 => (0 ≤ r1 → post r1) ∧ (¬ 0 ≤ r1 → xpost 4)) w x1) xpost x1
set_option maxHeartbeats 4000000 in
set_option maxRecDepth 100000 in
theorem c_X8_findName (l : Launch) (D : va_G) (tc : Nat → ClassId) (h0 : Nat) (sa : Nat → Nat) (x1 : Int32) (H0 : Heap) {ar : Nat → Nat} {Ar : Nat → Prop} {sp : Option Nat} {ns : Nat} {np : Nat} {nf : Nat} {sd : Nat → Nat → Nat} {pd : Nat → Nat → Nat} {fd : Nat → Nat → Nat} {sums : Nat → Int64} {ad : Nat → Nat} {A : Nat → Prop} {r : Dt} {w : Dt} (hBr : Blk D tc Ar (shR (ad 0) sp ns np nf sd pd fd sums ar) ar r H0) (hBw : Blk D tc A (shW ad) ad w H0) (hlf : l.stackTraces = false) {post : Int32 → Prop} {xpost : Nat → Prop} (hw : wp_X8_findName post xpost r w x1) : MX l yX8_findName cX8_findName 3 (Option.some FieldType.int) rm_X8_findName (fun _ => False) [.ref (ar 0), .int x1] D tc h0 sa H0 post (fun (_ : Int32) (H1 : Heap) => H1 = H0) (fun u : Int32 => some (.int u)) xpost := by
  have hA0 : ∀ q : Nat, (fun _ : Nat => False) q → h0 ≤ q := fun _ h => h.elim
  refine MX.of RX8 [(0, .ref (ar 0)), (1, .int x1)] (by decide +kernel) rfl (Nat.le_of_ble_eq_true rfl) rfl ?_
  intro p e s m below meth c ls X hr hnt hT hH hS hl
  subst hH
  have hx := X.1
  have hb := X.2.1
  have hown := X.2.2.2.1
  have hU := X.2.2.2.2.1.1
  unfold wp_X8_findName at hw
  refine lv_iload_n hx hb dX8_findName_0 rfl (lv_at hl 1 rfl) ?_
  refine g_afterX (st0 := .int x1 :: []) (rest := []) (g_SX X m_X8_144 (c_X8_checkName l D tc h0 sa x1 _ hlf hw) hT hS hA0 dX8_findName_1 hl.1 rfl rfl ⟨Nat.le_of_ble_eq_true rfl, Nat.le_of_ble_eq_true rfl⟩ (Nat.le_of_ble_eq_true rfl) ⟨Nat.le_of_ble_eq_true rfl, Nat.le_of_ble_eq_true rfl⟩) hS (fun _ h => h.elim) (fun u => []) (fun _ => rfl) (fun k ce q9 H1 locs1 hx9 hz9 ho9 hS9 hce hcv hcl => ?_) (fun u H9 locs hw hP9 hz9 hk9 hS => ?_)
  · exact e_x X hnt ⟨hz9, ho9⟩ hce hcv hcl hx9 hS9 ⟨Nat.le_of_ble_eq_true rfl, Nat.le_of_ble_eq_true rfl⟩
  have e9 : H9 = _ := hP9
  rw [e9] at hS ⊢
  try dsimp only at hw
  refine lv_aload_n hx hb dX8_findName_4 rfl (lv_at hl 0 rfl) ?_
  refine g_get X dX8_findName_5 f_X8_12 hBr 0 (v := .ref (ad 0)) rfl rfl ?_
  refine g_get X dX8_findName_8 f_X8_126 hBw 0 (v := .ref (ad 7)) rfl rfl ?_
  refine lv_iload_n hx hb dX8_findName_11 rfl (lv_at hl 1 rfl) ?_
  refine g_after (st0 := .int x1 :: .ref (ad 7) :: []) (rest := []) (g_V X m_X8_148 (c_X6_bearerOf l D tc h0 sa x1 _ hBw hw) (hBw.recv X 7 rfl (q := (RX6, TX6, 8)) rfl) hT hS hA0 dX8_findName_12 hl.1 rfl rfl ⟨Nat.le_of_ble_eq_true rfl, Nat.le_of_ble_eq_true rfl⟩ (Nat.le_of_ble_eq_true rfl) ⟨Nat.le_of_ble_eq_true rfl, Nat.le_of_ble_eq_true rfl⟩) hS (fun _ h => h.elim) (fun u => .int u :: []) (fun _ => rfl) (fun u H9 locs hw hP9 hz9 hk9 hS => ?_)
  have e9 : H9 = _ := hP9
  rw [e9] at hS ⊢
  obtain ⟨r1, rfl⟩ : ∃ z, z = u := ⟨_, rfl⟩
  try dsimp only at hw
  refine lv_istore_n (lv' := [(2, .int r1), (0, .ref (ar 0)), (1, .int x1)]) hx hb dX8_findName_15 rfl hl (by decide) rfl (fun ls hl => ?_)
  refine lv_iload_n hx hb dX8_findName_16 rfl (lv_at hl 0 rfl) ?_
  refine lv_if_ge (tgt := 30) hx hb dX8_findName_17 (by decide) (fun c2 => ?_) (fun c2 => ?_)
  · have hw := hw.1 c2
    refine lv_iload_n hx hb dX8_findName_30 rfl (lv_at hl 0 rfl) ?_
    refine W.widen (k := rm_X8_findName.cells) (n := rm_X8_findName.slots) (Nat.le_of_ble_eq_true rfl) (Nat.le_of_ble_eq_true rfl) ?_
    exact vx_ret (e_i X hr dX8_findName_31 hS (r1) rfl hw rfl ⟨Nat.le_refl _, Nat.le_refl _⟩)
  · have hw := hw.2 c2
    exact g_throw X hlf tk4 (text := "no storm that is there has the name") (by decide) hT hnt hA0 hS hl.1 dX8_findName_20 dX8_findName_23 dX8_findName_24 dX8_findName_26 dX8_findName_29 ⟨Nat.le_of_ble_eq_true rfl, Nat.le_of_ble_eq_true rfl, Nat.le_of_ble_eq_true rfl, Nat.le_of_ble_eq_true rfl, Nat.le_of_ble_eq_true rfl, Nat.le_of_ble_eq_true rfl⟩ hw
abbrev rm_X8_getLongitude : Room := { frames := 8, cells := 2, slots := 12, locals := 132 }
def wp_X8_getLongitude (post : Int32 → Prop) (xpost : Nat → Prop) (r : Dt) (w : Dt) (x1 : Int32) : Prop := wp_X8_checkStorm (fun _u => wp_X8_checkIsThere (fun _u => vp_in x1 12 ∧ (post (w 9 x1.toNatClampNeg))) xpost r w x1) xpost r w x1
set_option maxHeartbeats 4000000 in
set_option maxRecDepth 100000 in
theorem c_X8_getLongitude (l : Launch) (D : va_G) (tc : Nat → ClassId) (h0 : Nat) (sa : Nat → Nat) (x1 : Int32) (H0 : Heap) {ar : Nat → Nat} {Ar : Nat → Prop} {sp : Option Nat} {ns : Nat} {np : Nat} {nf : Nat} {sd : Nat → Nat → Nat} {pd : Nat → Nat → Nat} {fd : Nat → Nat → Nat} {sums : Nat → Int64} {ad : Nat → Nat} {A : Nat → Prop} {r : Dt} {w : Dt} (hBr : Blk D tc Ar (shR (ad 0) sp ns np nf sd pd fd sums ar) ar r H0) (hBw : Blk D tc A (shW ad) ad w H0) (hlf : l.stackTraces = false) {post : Int32 → Prop} {xpost : Nat → Prop} (hw : wp_X8_getLongitude post xpost r w x1) : MX l yX8_getLongitude cX8_getLongitude 2 (Option.some FieldType.int) rm_X8_getLongitude (fun _ => False) [.ref (ar 0), .int x1] D tc h0 sa H0 post (fun (_ : Int32) (H1 : Heap) => H1 = H0) (fun u : Int32 => some (.int u)) xpost := by
  have hA0 : ∀ q : Nat, (fun _ : Nat => False) q → h0 ≤ q := fun _ h => h.elim
  refine MX.of RX8 [(0, .ref (ar 0)), (1, .int x1)] (by decide +kernel) rfl (Nat.le_of_ble_eq_true rfl) rfl ?_
  intro p e s m below meth c ls X hr hnt hT hH hS hl
  subst hH
  have hx := X.1
  have hb := X.2.1
  have hown := X.2.2.2.1
  have hU := X.2.2.2.2.1.1
  unfold wp_X8_getLongitude at hw
  refine lv_aload_n hx hb dX8_getLongitude_0 rfl (lv_at hl 0 rfl) ?_
  refine lv_iload_n hx hb dX8_getLongitude_1 rfl (lv_at hl 1 rfl) ?_
  refine g_afterX (st0 := .int x1 :: .ref (ar 0) :: []) (rest := []) (g_VX X m_X8_141 (c_X8_checkStorm l D tc h0 sa x1 _ hBr hBw hlf hw) (hBr.recv X 0 rfl (q := (RX8, TX8, 9)) rfl) hT hS hA0 dX8_getLongitude_2 hl.1 rfl rfl ⟨Nat.le_of_ble_eq_true rfl, Nat.le_of_ble_eq_true rfl⟩ (Nat.le_of_ble_eq_true rfl) ⟨Nat.le_of_ble_eq_true rfl, Nat.le_of_ble_eq_true rfl⟩) hS (fun _ h => h.elim) (fun u => []) (fun _ => rfl) (fun k ce q9 H1 locs1 hx9 hz9 ho9 hS9 hce hcv hcl => ?_) (fun u H9 locs hw hP9 hz9 hk9 hS => ?_)
  · exact e_x X hnt ⟨hz9, ho9⟩ hce hcv hcl hx9 hS9 ⟨Nat.le_of_ble_eq_true rfl, Nat.le_of_ble_eq_true rfl⟩
  have e9 : H9 = _ := hP9
  rw [e9] at hS ⊢
  try dsimp only at hw
  refine lv_aload_n hx hb dX8_getLongitude_5 rfl (lv_at hl 0 rfl) ?_
  refine lv_iload_n hx hb dX8_getLongitude_6 rfl (lv_at hl 1 rfl) ?_
  refine g_afterX (st0 := .int x1 :: .ref (ar 0) :: []) (rest := []) (g_VX X m_X8_167 (c_X8_checkIsThere l D tc h0 sa x1 _ hBr hBw hlf hw) (hBr.recv X 0 rfl (q := (RX8, TX8, 9)) rfl) hT hS hA0 dX8_getLongitude_7 hl.1 rfl rfl ⟨Nat.le_of_ble_eq_true rfl, Nat.le_of_ble_eq_true rfl⟩ (Nat.le_of_ble_eq_true rfl) ⟨Nat.le_of_ble_eq_true rfl, Nat.le_of_ble_eq_true rfl⟩) hS (fun _ h => h.elim) (fun u => []) (fun _ => rfl) (fun k ce q9 H1 locs1 hx9 hz9 ho9 hS9 hce hcv hcl => ?_) (fun u H9 locs hw hP9 hz9 hk9 hS => ?_)
  · exact e_x X hnt ⟨hz9, ho9⟩ hce hcv hcl hx9 hS9 ⟨Nat.le_of_ble_eq_true rfl, Nat.le_of_ble_eq_true rfl⟩
  have e9 : H9 = _ := hP9
  rw [e9] at hS ⊢
  try dsimp only at hw
  refine lv_aload_n hx hb dX8_getLongitude_10 rfl (lv_at hl 0 rfl) ?_
  refine g_get X dX8_getLongitude_11 f_X8_12 hBr 0 (v := .ref (ad 0)) rfl rfl ?_
  refine g_get X dX8_getLongitude_14 f_X8_126 hBw 0 (v := .ref (ad 7)) rfl rfl ?_
  refine g_get X dX8_getLongitude_17 f_X8_170 hBw 7 (v := .ref (ad 9)) rfl rfl ?_
  refine lv_iload_n hx hb dX8_getLongitude_20 rfl (lv_at hl 1 rfl) ?_
  obtain ⟨o1, hw⟩ := hw
  refine g_iald X dX8_getLongitude_21 hBw 9 rfl o1 rfl ?_
  refine W.widen (k := rm_X8_getLongitude.cells) (n := rm_X8_getLongitude.slots) (Nat.le_of_ble_eq_true rfl) (Nat.le_of_ble_eq_true rfl) ?_
  exact vx_ret (e_i X hr dX8_getLongitude_22 hS ((w 9 x1.toNatClampNeg)) rfl hw rfl ⟨Nat.le_refl _, Nat.le_refl _⟩)
abbrev rm_X8_getSize : Room := { frames := 8, cells := 2, slots := 12, locals := 132 }
def wp_X8_getSize (post : Int32 → Prop) (xpost : Nat → Prop) (r : Dt) (w : Dt) (x1 : Int32) : Prop := wp_X8_checkStorm (fun _u => wp_X8_checkIsThere (fun _u => vp_in x1 12 ∧ (post (w 10 x1.toNatClampNeg))) xpost r w x1) xpost r w x1
set_option maxHeartbeats 4000000 in
set_option maxRecDepth 100000 in
theorem c_X8_getSize (l : Launch) (D : va_G) (tc : Nat → ClassId) (h0 : Nat) (sa : Nat → Nat) (x1 : Int32) (H0 : Heap) {ar : Nat → Nat} {Ar : Nat → Prop} {sp : Option Nat} {ns : Nat} {np : Nat} {nf : Nat} {sd : Nat → Nat → Nat} {pd : Nat → Nat → Nat} {fd : Nat → Nat → Nat} {sums : Nat → Int64} {ad : Nat → Nat} {A : Nat → Prop} {r : Dt} {w : Dt} (hBr : Blk D tc Ar (shR (ad 0) sp ns np nf sd pd fd sums ar) ar r H0) (hBw : Blk D tc A (shW ad) ad w H0) (hlf : l.stackTraces = false) {post : Int32 → Prop} {xpost : Nat → Prop} (hw : wp_X8_getSize post xpost r w x1) : MX l yX8_getSize cX8_getSize 2 (Option.some FieldType.int) rm_X8_getSize (fun _ => False) [.ref (ar 0), .int x1] D tc h0 sa H0 post (fun (_ : Int32) (H1 : Heap) => H1 = H0) (fun u : Int32 => some (.int u)) xpost := by
  have hA0 : ∀ q : Nat, (fun _ : Nat => False) q → h0 ≤ q := fun _ h => h.elim
  refine MX.of RX8 [(0, .ref (ar 0)), (1, .int x1)] (by decide +kernel) rfl (Nat.le_of_ble_eq_true rfl) rfl ?_
  intro p e s m below meth c ls X hr hnt hT hH hS hl
  subst hH
  have hx := X.1
  have hb := X.2.1
  have hown := X.2.2.2.1
  have hU := X.2.2.2.2.1.1
  unfold wp_X8_getSize at hw
  refine lv_aload_n hx hb dX8_getSize_0 rfl (lv_at hl 0 rfl) ?_
  refine lv_iload_n hx hb dX8_getSize_1 rfl (lv_at hl 1 rfl) ?_
  refine g_afterX (st0 := .int x1 :: .ref (ar 0) :: []) (rest := []) (g_VX X m_X8_141 (c_X8_checkStorm l D tc h0 sa x1 _ hBr hBw hlf hw) (hBr.recv X 0 rfl (q := (RX8, TX8, 9)) rfl) hT hS hA0 dX8_getSize_2 hl.1 rfl rfl ⟨Nat.le_of_ble_eq_true rfl, Nat.le_of_ble_eq_true rfl⟩ (Nat.le_of_ble_eq_true rfl) ⟨Nat.le_of_ble_eq_true rfl, Nat.le_of_ble_eq_true rfl⟩) hS (fun _ h => h.elim) (fun u => []) (fun _ => rfl) (fun k ce q9 H1 locs1 hx9 hz9 ho9 hS9 hce hcv hcl => ?_) (fun u H9 locs hw hP9 hz9 hk9 hS => ?_)
  · exact e_x X hnt ⟨hz9, ho9⟩ hce hcv hcl hx9 hS9 ⟨Nat.le_of_ble_eq_true rfl, Nat.le_of_ble_eq_true rfl⟩
  have e9 : H9 = _ := hP9
  rw [e9] at hS ⊢
  try dsimp only at hw
  refine lv_aload_n hx hb dX8_getSize_5 rfl (lv_at hl 0 rfl) ?_
  refine lv_iload_n hx hb dX8_getSize_6 rfl (lv_at hl 1 rfl) ?_
  refine g_afterX (st0 := .int x1 :: .ref (ar 0) :: []) (rest := []) (g_VX X m_X8_167 (c_X8_checkIsThere l D tc h0 sa x1 _ hBr hBw hlf hw) (hBr.recv X 0 rfl (q := (RX8, TX8, 9)) rfl) hT hS hA0 dX8_getSize_7 hl.1 rfl rfl ⟨Nat.le_of_ble_eq_true rfl, Nat.le_of_ble_eq_true rfl⟩ (Nat.le_of_ble_eq_true rfl) ⟨Nat.le_of_ble_eq_true rfl, Nat.le_of_ble_eq_true rfl⟩) hS (fun _ h => h.elim) (fun u => []) (fun _ => rfl) (fun k ce q9 H1 locs1 hx9 hz9 ho9 hS9 hce hcv hcl => ?_) (fun u H9 locs hw hP9 hz9 hk9 hS => ?_)
  · exact e_x X hnt ⟨hz9, ho9⟩ hce hcv hcl hx9 hS9 ⟨Nat.le_of_ble_eq_true rfl, Nat.le_of_ble_eq_true rfl⟩
  have e9 : H9 = _ := hP9
  rw [e9] at hS ⊢
  try dsimp only at hw
  refine lv_aload_n hx hb dX8_getSize_10 rfl (lv_at hl 0 rfl) ?_
  refine g_get X dX8_getSize_11 f_X8_12 hBr 0 (v := .ref (ad 0)) rfl rfl ?_
  refine g_get X dX8_getSize_14 f_X8_126 hBw 0 (v := .ref (ad 7)) rfl rfl ?_
  refine g_get X dX8_getSize_17 f_X8_173 hBw 7 (v := .ref (ad 10)) rfl rfl ?_
  refine lv_iload_n hx hb dX8_getSize_20 rfl (lv_at hl 1 rfl) ?_
  obtain ⟨o1, hw⟩ := hw
  refine g_iald X dX8_getSize_21 hBw 10 rfl o1 rfl ?_
  refine W.widen (k := rm_X8_getSize.cells) (n := rm_X8_getSize.slots) (Nat.le_of_ble_eq_true rfl) (Nat.le_of_ble_eq_true rfl) ?_
  exact vx_ret (e_i X hr dX8_getSize_22 hS ((w 10 x1.toNatClampNeg)) rfl hw rfl ⟨Nat.le_refl _, Nat.le_refl _⟩)
abbrev rm_X8_getAge : Room := { frames := 8, cells := 1, slots := 6, locals := 132 }
def wp_X8_getAge (post : Int32 → Prop) (xpost : Nat → Prop) (r : Dt) (w : Dt) (x1 : Int32) : Prop := wp_X8_checkStorm (fun _u => vp_in x1 12 ∧ (post (w 11 x1.toNatClampNeg))) xpost r w x1
set_option maxHeartbeats 4000000 in
set_option maxRecDepth 100000 in
theorem c_X8_getAge (l : Launch) (D : va_G) (tc : Nat → ClassId) (h0 : Nat) (sa : Nat → Nat) (x1 : Int32) (H0 : Heap) {ar : Nat → Nat} {Ar : Nat → Prop} {sp : Option Nat} {ns : Nat} {np : Nat} {nf : Nat} {sd : Nat → Nat → Nat} {pd : Nat → Nat → Nat} {fd : Nat → Nat → Nat} {sums : Nat → Int64} {ad : Nat → Nat} {A : Nat → Prop} {r : Dt} {w : Dt} (hBr : Blk D tc Ar (shR (ad 0) sp ns np nf sd pd fd sums ar) ar r H0) (hBw : Blk D tc A (shW ad) ad w H0) (hlf : l.stackTraces = false) {post : Int32 → Prop} {xpost : Nat → Prop} (hw : wp_X8_getAge post xpost r w x1) : MX l yX8_getAge cX8_getAge 2 (Option.some FieldType.int) rm_X8_getAge (fun _ => False) [.ref (ar 0), .int x1] D tc h0 sa H0 post (fun (_ : Int32) (H1 : Heap) => H1 = H0) (fun u : Int32 => some (.int u)) xpost := by
  have hA0 : ∀ q : Nat, (fun _ : Nat => False) q → h0 ≤ q := fun _ h => h.elim
  refine MX.of RX8 [(0, .ref (ar 0)), (1, .int x1)] (by decide +kernel) rfl (Nat.le_of_ble_eq_true rfl) rfl ?_
  intro p e s m below meth c ls X hr hnt hT hH hS hl
  subst hH
  have hx := X.1
  have hb := X.2.1
  have hown := X.2.2.2.1
  have hU := X.2.2.2.2.1.1
  unfold wp_X8_getAge at hw
  refine lv_aload_n hx hb dX8_getAge_0 rfl (lv_at hl 0 rfl) ?_
  refine lv_iload_n hx hb dX8_getAge_1 rfl (lv_at hl 1 rfl) ?_
  refine g_afterX (st0 := .int x1 :: .ref (ar 0) :: []) (rest := []) (g_VX X m_X8_141 (c_X8_checkStorm l D tc h0 sa x1 _ hBr hBw hlf hw) (hBr.recv X 0 rfl (q := (RX8, TX8, 9)) rfl) hT hS hA0 dX8_getAge_2 hl.1 rfl rfl ⟨Nat.le_of_ble_eq_true rfl, Nat.le_of_ble_eq_true rfl⟩ (Nat.le_of_ble_eq_true rfl) ⟨Nat.le_of_ble_eq_true rfl, Nat.le_of_ble_eq_true rfl⟩) hS (fun _ h => h.elim) (fun u => []) (fun _ => rfl) (fun k ce q9 H1 locs1 hx9 hz9 ho9 hS9 hce hcv hcl => ?_) (fun u H9 locs hw hP9 hz9 hk9 hS => ?_)
  · exact e_x X hnt ⟨hz9, ho9⟩ hce hcv hcl hx9 hS9 ⟨Nat.le_of_ble_eq_true rfl, Nat.le_of_ble_eq_true rfl⟩
  have e9 : H9 = _ := hP9
  rw [e9] at hS ⊢
  try dsimp only at hw
  refine lv_aload_n hx hb dX8_getAge_5 rfl (lv_at hl 0 rfl) ?_
  refine g_get X dX8_getAge_6 f_X8_12 hBr 0 (v := .ref (ad 0)) rfl rfl ?_
  refine g_get X dX8_getAge_9 f_X8_126 hBw 0 (v := .ref (ad 7)) rfl rfl ?_
  refine g_get X dX8_getAge_12 f_X8_176 hBw 7 (v := .ref (ad 11)) rfl rfl ?_
  refine lv_iload_n hx hb dX8_getAge_15 rfl (lv_at hl 1 rfl) ?_
  obtain ⟨o1, hw⟩ := hw
  refine g_iald X dX8_getAge_16 hBw 11 rfl o1 rfl ?_
  refine W.widen (k := rm_X8_getAge.cells) (n := rm_X8_getAge.slots) (Nat.le_of_ble_eq_true rfl) (Nat.le_of_ble_eq_true rfl) ?_
  exact vx_ret (e_i X hr dX8_getAge_17 hS ((w 11 x1.toNatClampNeg)) rfl hw rfl ⟨Nat.le_refl _, Nat.le_refl _⟩)
abbrev rm_X8_isThere : Room := { frames := 8, cells := 1, slots := 6, locals := 132 }
def wp_X8_isThere (post : Int32 → Prop) (xpost : Nat → Prop) (r : Dt) (w : Dt) (x1 : Int32) : Prop := wp_X8_checkStorm (fun _u => vp_in x1 12 ∧ (narrow .boolean (.int (w 13 x1.toNatClampNeg)) = .int (w 13 x1.toNatClampNeg) ∧ (post (w 13 x1.toNatClampNeg)))) xpost r w x1
set_option maxHeartbeats 4000000 in
set_option maxRecDepth 100000 in
theorem c_X8_isThere (l : Launch) (D : va_G) (tc : Nat → ClassId) (h0 : Nat) (sa : Nat → Nat) (x1 : Int32) (H0 : Heap) {ar : Nat → Nat} {Ar : Nat → Prop} {sp : Option Nat} {ns : Nat} {np : Nat} {nf : Nat} {sd : Nat → Nat → Nat} {pd : Nat → Nat → Nat} {fd : Nat → Nat → Nat} {sums : Nat → Int64} {ad : Nat → Nat} {A : Nat → Prop} {r : Dt} {w : Dt} (hBr : Blk D tc Ar (shR (ad 0) sp ns np nf sd pd fd sums ar) ar r H0) (hBw : Blk D tc A (shW ad) ad w H0) (hlf : l.stackTraces = false) {post : Int32 → Prop} {xpost : Nat → Prop} (hw : wp_X8_isThere post xpost r w x1) : MX l yX8_isThere cX8_isThere 2 (Option.some FieldType.boolean) rm_X8_isThere (fun _ => False) [.ref (ar 0), .int x1] D tc h0 sa H0 post (fun (_ : Int32) (H1 : Heap) => H1 = H0) (fun u : Int32 => some (.int u)) xpost := by
  have hA0 : ∀ q : Nat, (fun _ : Nat => False) q → h0 ≤ q := fun _ h => h.elim
  refine MX.of RX8 [(0, .ref (ar 0)), (1, .int x1)] (by decide +kernel) rfl (Nat.le_of_ble_eq_true rfl) rfl ?_
  intro p e s m below meth c ls X hr hnt hT hH hS hl
  subst hH
  have hx := X.1
  have hb := X.2.1
  have hown := X.2.2.2.1
  have hU := X.2.2.2.2.1.1
  unfold wp_X8_isThere at hw
  refine lv_aload_n hx hb dX8_isThere_0 rfl (lv_at hl 0 rfl) ?_
  refine lv_iload_n hx hb dX8_isThere_1 rfl (lv_at hl 1 rfl) ?_
  refine g_afterX (st0 := .int x1 :: .ref (ar 0) :: []) (rest := []) (g_VX X m_X8_141 (c_X8_checkStorm l D tc h0 sa x1 _ hBr hBw hlf hw) (hBr.recv X 0 rfl (q := (RX8, TX8, 9)) rfl) hT hS hA0 dX8_isThere_2 hl.1 rfl rfl ⟨Nat.le_of_ble_eq_true rfl, Nat.le_of_ble_eq_true rfl⟩ (Nat.le_of_ble_eq_true rfl) ⟨Nat.le_of_ble_eq_true rfl, Nat.le_of_ble_eq_true rfl⟩) hS (fun _ h => h.elim) (fun u => []) (fun _ => rfl) (fun k ce q9 H1 locs1 hx9 hz9 ho9 hS9 hce hcv hcl => ?_) (fun u H9 locs hw hP9 hz9 hk9 hS => ?_)
  · exact e_x X hnt ⟨hz9, ho9⟩ hce hcv hcl hx9 hS9 ⟨Nat.le_of_ble_eq_true rfl, Nat.le_of_ble_eq_true rfl⟩
  have e9 : H9 = _ := hP9
  rw [e9] at hS ⊢
  try dsimp only at hw
  refine lv_aload_n hx hb dX8_isThere_5 rfl (lv_at hl 0 rfl) ?_
  refine g_get X dX8_isThere_6 f_X8_12 hBr 0 (v := .ref (ad 0)) rfl rfl ?_
  refine g_get X dX8_isThere_9 f_X8_126 hBw 0 (v := .ref (ad 7)) rfl rfl ?_
  refine g_get X dX8_isThere_12 f_X8_152 hBw 7 (v := .ref (ad 13)) rfl rfl ?_
  refine lv_iload_n hx hb dX8_isThere_15 rfl (lv_at hl 1 rfl) ?_
  obtain ⟨o1, hw⟩ := hw
  refine g_zald X dX8_isThere_16 hBw 13 rfl o1 rfl ?_
  refine W.widen (k := rm_X8_isThere.cells) (n := rm_X8_isThere.slots) (Nat.le_of_ble_eq_true rfl) (Nat.le_of_ble_eq_true rfl) ?_
  obtain ⟨o2, hw⟩ := hw
  exact vx_ret (e_z X hr o2 dX8_isThere_17 hS ((w 13 x1.toNatClampNeg)) rfl hw rfl ⟨Nat.le_refl _, Nat.le_refl _⟩)
abbrev rm_X8_livesIn : Room := { frames := 8, cells := 2, slots := 12, locals := 132 }
def wp_X8_livesIn (post : Int32 → Prop) (xpost : Nat → Prop) (r : Dt) (w : Dt) (x1 : Int32) : Prop := wp_X8_checkStorm (fun _u => wp_X6_heirOf (fun r1 => (0 ≤ r1 → post r1) ∧ (¬ 0 ≤ r1 → xpost 4)) w x1) xpost r w x1
set_option maxHeartbeats 4000000 in
set_option maxRecDepth 100000 in
theorem c_X8_livesIn (l : Launch) (D : va_G) (tc : Nat → ClassId) (h0 : Nat) (sa : Nat → Nat) (x1 : Int32) (H0 : Heap) {ar : Nat → Nat} {Ar : Nat → Prop} {sp : Option Nat} {ns : Nat} {np : Nat} {nf : Nat} {sd : Nat → Nat → Nat} {pd : Nat → Nat → Nat} {fd : Nat → Nat → Nat} {sums : Nat → Int64} {ad : Nat → Nat} {A : Nat → Prop} {r : Dt} {w : Dt} (hBr : Blk D tc Ar (shR (ad 0) sp ns np nf sd pd fd sums ar) ar r H0) (hBw : Blk D tc A (shW ad) ad w H0) (hlf : l.stackTraces = false) {post : Int32 → Prop} {xpost : Nat → Prop} (hw : wp_X8_livesIn post xpost r w x1) : MX l yX8_livesIn cX8_livesIn 3 (Option.some FieldType.int) rm_X8_livesIn (fun _ => False) [.ref (ar 0), .int x1] D tc h0 sa H0 post (fun (_ : Int32) (H1 : Heap) => H1 = H0) (fun u : Int32 => some (.int u)) xpost := by
  have hA0 : ∀ q : Nat, (fun _ : Nat => False) q → h0 ≤ q := fun _ h => h.elim
  refine MX.of RX8 [(0, .ref (ar 0)), (1, .int x1)] (by decide +kernel) rfl (Nat.le_of_ble_eq_true rfl) rfl ?_
  intro p e s m below meth c ls X hr hnt hT hH hS hl
  subst hH
  have hx := X.1
  have hb := X.2.1
  have hown := X.2.2.2.1
  have hU := X.2.2.2.2.1.1
  unfold wp_X8_livesIn at hw
  refine lv_aload_n hx hb dX8_livesIn_0 rfl (lv_at hl 0 rfl) ?_
  refine lv_iload_n hx hb dX8_livesIn_1 rfl (lv_at hl 1 rfl) ?_
  refine g_afterX (st0 := .int x1 :: .ref (ar 0) :: []) (rest := []) (g_VX X m_X8_141 (c_X8_checkStorm l D tc h0 sa x1 _ hBr hBw hlf hw) (hBr.recv X 0 rfl (q := (RX8, TX8, 9)) rfl) hT hS hA0 dX8_livesIn_2 hl.1 rfl rfl ⟨Nat.le_of_ble_eq_true rfl, Nat.le_of_ble_eq_true rfl⟩ (Nat.le_of_ble_eq_true rfl) ⟨Nat.le_of_ble_eq_true rfl, Nat.le_of_ble_eq_true rfl⟩) hS (fun _ h => h.elim) (fun u => []) (fun _ => rfl) (fun k ce q9 H1 locs1 hx9 hz9 ho9 hS9 hce hcv hcl => ?_) (fun u H9 locs hw hP9 hz9 hk9 hS => ?_)
  · exact e_x X hnt ⟨hz9, ho9⟩ hce hcv hcl hx9 hS9 ⟨Nat.le_of_ble_eq_true rfl, Nat.le_of_ble_eq_true rfl⟩
  have e9 : H9 = _ := hP9
  rw [e9] at hS ⊢
  try dsimp only at hw
  refine lv_aload_n hx hb dX8_livesIn_5 rfl (lv_at hl 0 rfl) ?_
  refine g_get X dX8_livesIn_6 f_X8_12 hBr 0 (v := .ref (ad 0)) rfl rfl ?_
  refine g_get X dX8_livesIn_9 f_X8_126 hBw 0 (v := .ref (ad 7)) rfl rfl ?_
  refine lv_iload_n hx hb dX8_livesIn_12 rfl (lv_at hl 1 rfl) ?_
  refine g_after (st0 := .int x1 :: .ref (ad 7) :: []) (rest := []) (g_V X m_X8_179 (c_X6_heirOf l D tc h0 sa x1 _ hBw hw) (hBw.recv X 7 rfl (q := (RX6, TX6, 8)) rfl) hT hS hA0 dX8_livesIn_13 hl.1 rfl rfl ⟨Nat.le_of_ble_eq_true rfl, Nat.le_of_ble_eq_true rfl⟩ (Nat.le_of_ble_eq_true rfl) ⟨Nat.le_of_ble_eq_true rfl, Nat.le_of_ble_eq_true rfl⟩) hS (fun _ h => h.elim) (fun u => .int u :: []) (fun _ => rfl) (fun u H9 locs hw hP9 hz9 hk9 hS => ?_)
  have e9 : H9 = _ := hP9
  rw [e9] at hS ⊢
  obtain ⟨r1, rfl⟩ : ∃ z, z = u := ⟨_, rfl⟩
  try dsimp only at hw
  refine lv_istore_n (lv' := [(2, .int r1), (0, .ref (ar 0)), (1, .int x1)]) hx hb dX8_livesIn_16 rfl hl (by decide) rfl (fun ls hl => ?_)
  refine lv_iload_n hx hb dX8_livesIn_17 rfl (lv_at hl 0 rfl) ?_
  refine lv_if_ge (tgt := 31) hx hb dX8_livesIn_18 (by decide) (fun c2 => ?_) (fun c2 => ?_)
  · have hw := hw.1 c2
    refine lv_iload_n hx hb dX8_livesIn_31 rfl (lv_at hl 0 rfl) ?_
    refine W.widen (k := rm_X8_livesIn.cells) (n := rm_X8_livesIn.slots) (Nat.le_of_ble_eq_true rfl) (Nat.le_of_ble_eq_true rfl) ?_
    exact vx_ret (e_i X hr dX8_livesIn_32 hS (r1) rfl hw rfl ⟨Nat.le_refl _, Nat.le_refl _⟩)
  · have hw := hw.2 c2
    exact g_throw X hlf tk4 (text := "the storm lives on in none that is there") (by decide) hT hnt hA0 hS hl.1 dX8_livesIn_21 dX8_livesIn_24 dX8_livesIn_25 dX8_livesIn_27 dX8_livesIn_30 ⟨Nat.le_of_ble_eq_true rfl, Nat.le_of_ble_eq_true rfl, Nat.le_of_ble_eq_true rfl, Nat.le_of_ble_eq_true rfl, Nat.le_of_ble_eq_true rfl, Nat.le_of_ble_eq_true rfl⟩ hw
abbrev rm_X8_getWidth : Room := { frames := 7, cells := 1, slots := 6, locals := 111 }
def wp_X8_getWidth (post : Int32 → Prop) (xpost : Nat → Prop) (r : Dt) (w : Dt) (x1 : Int32) : Prop := wp_X8_checkIndex (fun _u => vp_in x1 8 ∧ (post (w 17 x1.toNatClampNeg))) xpost x1 (if 8 < (w 15 0) then 8 else (w 15 0))
set_option maxHeartbeats 4000000 in
set_option maxRecDepth 100000 in
theorem c_X8_getWidth (l : Launch) (D : va_G) (tc : Nat → ClassId) (h0 : Nat) (sa : Nat → Nat) (x1 : Int32) (H0 : Heap) {ar : Nat → Nat} {Ar : Nat → Prop} {sp : Option Nat} {ns : Nat} {np : Nat} {nf : Nat} {sd : Nat → Nat → Nat} {pd : Nat → Nat → Nat} {fd : Nat → Nat → Nat} {sums : Nat → Int64} {ad : Nat → Nat} {A : Nat → Prop} {r : Dt} {w : Dt} (hBr : Blk D tc Ar (shR (ad 0) sp ns np nf sd pd fd sums ar) ar r H0) (hBw : Blk D tc A (shW ad) ad w H0) (hlf : l.stackTraces = false) {post : Int32 → Prop} {xpost : Nat → Prop} (hw : wp_X8_getWidth post xpost r w x1) : MX l yX8_getWidth cX8_getWidth 2 (Option.some FieldType.int) rm_X8_getWidth (fun _ => False) [.ref (ar 0), .int x1] D tc h0 sa H0 post (fun (_ : Int32) (H1 : Heap) => H1 = H0) (fun u : Int32 => some (.int u)) xpost := by
  have hA0 : ∀ q : Nat, (fun _ : Nat => False) q → h0 ≤ q := fun _ h => h.elim
  refine MX.of RX8 [(0, .ref (ar 0)), (1, .int x1)] (by decide +kernel) rfl (Nat.le_of_ble_eq_true rfl) rfl ?_
  intro p e s m below meth c ls X hr hnt hT hH hS hl
  subst hH
  have hx := X.1
  have hb := X.2.1
  have hown := X.2.2.2.1
  have hU := X.2.2.2.2.1.1
  unfold wp_X8_getWidth at hw
  refine lv_iload_n hx hb dX8_getWidth_0 rfl (lv_at hl 1 rfl) ?_
  refine lv_aload_n hx hb dX8_getWidth_1 rfl (lv_at hl 0 rfl) ?_
  refine g_get X dX8_getWidth_2 f_X8_12 hBr 0 (v := .ref (ad 0)) rfl rfl ?_
  refine g_get X dX8_getWidth_5 f_X8_203 hBw 0 (v := .ref (ad 15)) rfl rfl ?_
  refine g_get X dX8_getWidth_8 f_X8_207 hBw 15 (v := .int (w 15 0)) rfl rfl ?_
  refine lv_bipush (v := 8) hx hb dX8_getWidth_11 (by decide) ?_
  refine g_min X hl.1 dX8_getWidth_13 w_675 w_607 w_21 w_608 ⟨Nat.le_of_ble_eq_true rfl, Nat.le_of_ble_eq_true rfl, Nat.le_of_ble_eq_true rfl, Nat.le_of_ble_eq_true rfl⟩ ?_
  refine g_afterX (st0 := .int (if 8 < (w 15 0) then 8 else (w 15 0)) :: .int x1 :: []) (rest := []) (g_SX X m_X8_36 (c_X8_checkIndex l D tc h0 sa x1 (if 8 < (w 15 0) then 8 else (w 15 0)) _ hlf hw) hT hS hA0 dX8_getWidth_16 hl.1 rfl rfl ⟨Nat.le_of_ble_eq_true rfl, Nat.le_of_ble_eq_true rfl⟩ (Nat.le_of_ble_eq_true rfl) ⟨Nat.le_of_ble_eq_true rfl, Nat.le_of_ble_eq_true rfl⟩) hS (fun _ h => h.elim) (fun u => []) (fun _ => rfl) (fun k ce q9 H1 locs1 hx9 hz9 ho9 hS9 hce hcv hcl => ?_) (fun u H9 locs hw hP9 hz9 hk9 hS => ?_)
  · exact e_x X hnt ⟨hz9, ho9⟩ hce hcv hcl hx9 hS9 ⟨Nat.le_of_ble_eq_true rfl, Nat.le_of_ble_eq_true rfl⟩
  have e9 : H9 = _ := hP9
  rw [e9] at hS ⊢
  try dsimp only at hw
  refine lv_aload_n hx hb dX8_getWidth_19 rfl (lv_at hl 0 rfl) ?_
  refine g_get X dX8_getWidth_20 f_X8_12 hBr 0 (v := .ref (ad 0)) rfl rfl ?_
  refine g_get X dX8_getWidth_23 f_X8_203 hBw 0 (v := .ref (ad 15)) rfl rfl ?_
  refine g_get X dX8_getWidth_26 f_X8_215 hBw 15 (v := .ref (ad 17)) rfl rfl ?_
  refine lv_iload_n hx hb dX8_getWidth_29 rfl (lv_at hl 1 rfl) ?_
  obtain ⟨o1, hw⟩ := hw
  refine g_iald X dX8_getWidth_30 hBw 17 rfl o1 rfl ?_
  refine W.widen (k := rm_X8_getWidth.cells) (n := rm_X8_getWidth.slots) (Nat.le_of_ble_eq_true rfl) (Nat.le_of_ble_eq_true rfl) ?_
  exact vx_ret (e_i X hr dX8_getWidth_31 hS ((w 17 x1.toNatClampNeg)) rfl hw rfl ⟨Nat.le_refl _, Nat.le_refl _⟩)
abbrev rm_X8_scarTurns : Room := { frames := 7, cells := 1, slots := 6, locals := 111 }
def wp_X8_scarTurns (post : Int32 → Prop) (xpost : Nat → Prop) (r : Dt) (w : Dt) (x1 : Int32) : Prop := wp_X8_checkIndex (fun _u => wp_X5_turnsByWidth (fun r1 => post r1) w x1) xpost x1 (if 8 < (w 15 0) then 8 else (w 15 0))
set_option maxHeartbeats 4000000 in
set_option maxRecDepth 100000 in
theorem c_X8_scarTurns (l : Launch) (D : va_G) (tc : Nat → ClassId) (h0 : Nat) (sa : Nat → Nat) (x1 : Int32) (H0 : Heap) {ar : Nat → Nat} {Ar : Nat → Prop} {sp : Option Nat} {ns : Nat} {np : Nat} {nf : Nat} {sd : Nat → Nat → Nat} {pd : Nat → Nat → Nat} {fd : Nat → Nat → Nat} {sums : Nat → Int64} {ad : Nat → Nat} {A : Nat → Prop} {r : Dt} {w : Dt} (hBr : Blk D tc Ar (shR (ad 0) sp ns np nf sd pd fd sums ar) ar r H0) (hBw : Blk D tc A (shW ad) ad w H0) (hlf : l.stackTraces = false) {post : Int32 → Prop} {xpost : Nat → Prop} (hw : wp_X8_scarTurns post xpost r w x1) : MX l yX8_scarTurns cX8_scarTurns 2 (Option.some FieldType.int) rm_X8_scarTurns (fun _ => False) [.ref (ar 0), .int x1] D tc h0 sa H0 post (fun (_ : Int32) (H1 : Heap) => H1 = H0) (fun u : Int32 => some (.int u)) xpost := by
  have hA0 : ∀ q : Nat, (fun _ : Nat => False) q → h0 ≤ q := fun _ h => h.elim
  refine MX.of RX8 [(0, .ref (ar 0)), (1, .int x1)] (by decide +kernel) rfl (Nat.le_of_ble_eq_true rfl) rfl ?_
  intro p e s m below meth c ls X hr hnt hT hH hS hl
  subst hH
  have hx := X.1
  have hb := X.2.1
  have hown := X.2.2.2.1
  have hU := X.2.2.2.2.1.1
  unfold wp_X8_scarTurns at hw
  refine lv_iload_n hx hb dX8_scarTurns_0 rfl (lv_at hl 1 rfl) ?_
  refine lv_aload_n hx hb dX8_scarTurns_1 rfl (lv_at hl 0 rfl) ?_
  refine g_get X dX8_scarTurns_2 f_X8_12 hBr 0 (v := .ref (ad 0)) rfl rfl ?_
  refine g_get X dX8_scarTurns_5 f_X8_203 hBw 0 (v := .ref (ad 15)) rfl rfl ?_
  refine g_get X dX8_scarTurns_8 f_X8_207 hBw 15 (v := .int (w 15 0)) rfl rfl ?_
  refine lv_bipush (v := 8) hx hb dX8_scarTurns_11 (by decide) ?_
  refine g_min X hl.1 dX8_scarTurns_13 w_675 w_607 w_21 w_608 ⟨Nat.le_of_ble_eq_true rfl, Nat.le_of_ble_eq_true rfl, Nat.le_of_ble_eq_true rfl, Nat.le_of_ble_eq_true rfl⟩ ?_
  refine g_afterX (st0 := .int (if 8 < (w 15 0) then 8 else (w 15 0)) :: .int x1 :: []) (rest := []) (g_SX X m_X8_36 (c_X8_checkIndex l D tc h0 sa x1 (if 8 < (w 15 0) then 8 else (w 15 0)) _ hlf hw) hT hS hA0 dX8_scarTurns_16 hl.1 rfl rfl ⟨Nat.le_of_ble_eq_true rfl, Nat.le_of_ble_eq_true rfl⟩ (Nat.le_of_ble_eq_true rfl) ⟨Nat.le_of_ble_eq_true rfl, Nat.le_of_ble_eq_true rfl⟩) hS (fun _ h => h.elim) (fun u => []) (fun _ => rfl) (fun k ce q9 H1 locs1 hx9 hz9 ho9 hS9 hce hcv hcl => ?_) (fun u H9 locs hw hP9 hz9 hk9 hS => ?_)
  · exact e_x X hnt ⟨hz9, ho9⟩ hce hcv hcl hx9 hS9 ⟨Nat.le_of_ble_eq_true rfl, Nat.le_of_ble_eq_true rfl⟩
  have e9 : H9 = _ := hP9
  rw [e9] at hS ⊢
  try dsimp only at hw
  refine lv_aload_n hx hb dX8_scarTurns_19 rfl (lv_at hl 0 rfl) ?_
  refine g_get X dX8_scarTurns_20 f_X8_12 hBr 0 (v := .ref (ad 0)) rfl rfl ?_
  refine g_get X dX8_scarTurns_23 f_X8_203 hBw 0 (v := .ref (ad 15)) rfl rfl ?_
  refine lv_iload_n hx hb dX8_scarTurns_26 rfl (lv_at hl 1 rfl) ?_
  refine lv_aload_n hx hb dX8_scarTurns_27 rfl (lv_at hl 0 rfl) ?_
  refine g_get X dX8_scarTurns_28 f_X8_12 hBr 0 (v := .ref (ad 0)) rfl rfl ?_
  refine g_get X dX8_scarTurns_31 f_X8_88 hBw 0 (v := .ref (ad 5)) rfl rfl ?_
  refine g_after (st0 := .ref (ad 5) :: .int x1 :: .ref (ad 15) :: []) (rest := []) (g_V X m_X8_218 (c_X5_turnsByWidth l D tc h0 sa x1 _ hBw hw) (hBw.recv X 15 rfl (q := (RX5, TX5, 4)) rfl) hT hS hA0 dX8_scarTurns_34 hl.1 rfl rfl ⟨Nat.le_of_ble_eq_true rfl, Nat.le_of_ble_eq_true rfl⟩ (Nat.le_of_ble_eq_true rfl) ⟨Nat.le_of_ble_eq_true rfl, Nat.le_of_ble_eq_true rfl⟩) hS (fun _ h => h.elim) (fun u => .int u :: []) (fun _ => rfl) (fun u H9 locs hw hP9 hz9 hk9 hS => ?_)
  have e9 : H9 = _ := hP9
  rw [e9] at hS ⊢
  obtain ⟨r1, rfl⟩ : ∃ z, z = u := ⟨_, rfl⟩
  try dsimp only at hw
  refine W.widen (k := rm_X8_scarTurns.cells) (n := rm_X8_scarTurns.slots) (Nat.le_of_ble_eq_true rfl) (Nat.le_of_ble_eq_true rfl) ?_
  exact vx_ret (e_i X hr dX8_scarTurns_37 hS (r1) rfl hw rfl ⟨Nat.le_refl _, Nat.le_refl _⟩)
abbrev rm_X8_happening : Room := { frames := 7, cells := 1, slots := 6, locals := 111 }
def wp_X8_happening (post : Int32 → Prop) (xpost : Nat → Prop) (r : Dt) (w : Dt) (x1 : Int32) : Prop := wp_X8_checkNote (fun _u => vp_in x1 60 ∧ (narrow .char (.int (w 20 x1.toNatClampNeg)) = .int (w 20 x1.toNatClampNeg) ∧ (post (w 20 x1.toNatClampNeg)))) xpost r w x1
set_option maxHeartbeats 4000000 in
set_option maxRecDepth 100000 in
theorem c_X8_happening (l : Launch) (D : va_G) (tc : Nat → ClassId) (h0 : Nat) (sa : Nat → Nat) (x1 : Int32) (H0 : Heap) {ar : Nat → Nat} {Ar : Nat → Prop} {sp : Option Nat} {ns : Nat} {np : Nat} {nf : Nat} {sd : Nat → Nat → Nat} {pd : Nat → Nat → Nat} {fd : Nat → Nat → Nat} {sums : Nat → Int64} {ad : Nat → Nat} {A : Nat → Prop} {r : Dt} {w : Dt} (hBr : Blk D tc Ar (shR (ad 0) sp ns np nf sd pd fd sums ar) ar r H0) (hBw : Blk D tc A (shW ad) ad w H0) (hlf : l.stackTraces = false) {post : Int32 → Prop} {xpost : Nat → Prop} (hw : wp_X8_happening post xpost r w x1) : MX l yX8_happening cX8_happening 2 (Option.some FieldType.char) rm_X8_happening (fun _ => False) [.ref (ar 0), .int x1] D tc h0 sa H0 post (fun (_ : Int32) (H1 : Heap) => H1 = H0) (fun u : Int32 => some (.int u)) xpost := by
  have hA0 : ∀ q : Nat, (fun _ : Nat => False) q → h0 ≤ q := fun _ h => h.elim
  refine MX.of RX8 [(0, .ref (ar 0)), (1, .int x1)] (by decide +kernel) rfl (Nat.le_of_ble_eq_true rfl) rfl ?_
  intro p e s m below meth c ls X hr hnt hT hH hS hl
  subst hH
  have hx := X.1
  have hb := X.2.1
  have hown := X.2.2.2.1
  have hU := X.2.2.2.2.1.1
  unfold wp_X8_happening at hw
  refine lv_aload_n hx hb dX8_happening_0 rfl (lv_at hl 0 rfl) ?_
  refine lv_iload_n hx hb dX8_happening_1 rfl (lv_at hl 1 rfl) ?_
  refine g_afterX (st0 := .int x1 :: .ref (ar 0) :: []) (rest := []) (g_VX X m_X8_313 (c_X8_checkNote l D tc h0 sa x1 _ hBr hBw hlf hw) (hBr.recv X 0 rfl (q := (RX8, TX8, 9)) rfl) hT hS hA0 dX8_happening_2 hl.1 rfl rfl ⟨Nat.le_of_ble_eq_true rfl, Nat.le_of_ble_eq_true rfl⟩ (Nat.le_of_ble_eq_true rfl) ⟨Nat.le_of_ble_eq_true rfl, Nat.le_of_ble_eq_true rfl⟩) hS (fun _ h => h.elim) (fun u => []) (fun _ => rfl) (fun k ce q9 H1 locs1 hx9 hz9 ho9 hS9 hce hcv hcl => ?_) (fun u H9 locs hw hP9 hz9 hk9 hS => ?_)
  · exact e_x X hnt ⟨hz9, ho9⟩ hce hcv hcl hx9 hS9 ⟨Nat.le_of_ble_eq_true rfl, Nat.le_of_ble_eq_true rfl⟩
  have e9 : H9 = _ := hP9
  rw [e9] at hS ⊢
  try dsimp only at hw
  refine lv_aload_n hx hb dX8_happening_5 rfl (lv_at hl 0 rfl) ?_
  refine g_get X dX8_happening_6 f_X8_12 hBr 0 (v := .ref (ad 0)) rfl rfl ?_
  refine g_get X dX8_happening_9 f_X8_193 hBw 0 (v := .ref (ad 19)) rfl rfl ?_
  refine g_get X dX8_happening_12 f_X8_316 hBw 19 (v := .ref (ad 20)) rfl rfl ?_
  refine lv_iload_n hx hb dX8_happening_15 rfl (lv_at hl 1 rfl) ?_
  obtain ⟨o1, hw⟩ := hw
  refine g_cald X dX8_happening_16 hBw 20 rfl o1 rfl ?_
  refine W.widen (k := rm_X8_happening.cells) (n := rm_X8_happening.slots) (Nat.le_of_ble_eq_true rfl) (Nat.le_of_ble_eq_true rfl) ?_
  obtain ⟨o2, hw⟩ := hw
  exact vx_ret (e_z X hr o2 dX8_happening_17 hS ((w 20 x1.toNatClampNeg)) rfl hw rfl ⟨Nat.le_refl _, Nat.le_refl _⟩)
abbrev rm_X8_happenedTo : Room := { frames := 7, cells := 1, slots := 6, locals := 111 }
def wp_X8_happenedTo (post : Int32 → Prop) (xpost : Nat → Prop) (r : Dt) (w : Dt) (x1 : Int32) : Prop := wp_X8_checkNote (fun _u => vp_in x1 60 ∧ (post (w 21 x1.toNatClampNeg))) xpost r w x1
set_option maxHeartbeats 4000000 in
set_option maxRecDepth 100000 in
theorem c_X8_happenedTo (l : Launch) (D : va_G) (tc : Nat → ClassId) (h0 : Nat) (sa : Nat → Nat) (x1 : Int32) (H0 : Heap) {ar : Nat → Nat} {Ar : Nat → Prop} {sp : Option Nat} {ns : Nat} {np : Nat} {nf : Nat} {sd : Nat → Nat → Nat} {pd : Nat → Nat → Nat} {fd : Nat → Nat → Nat} {sums : Nat → Int64} {ad : Nat → Nat} {A : Nat → Prop} {r : Dt} {w : Dt} (hBr : Blk D tc Ar (shR (ad 0) sp ns np nf sd pd fd sums ar) ar r H0) (hBw : Blk D tc A (shW ad) ad w H0) (hlf : l.stackTraces = false) {post : Int32 → Prop} {xpost : Nat → Prop} (hw : wp_X8_happenedTo post xpost r w x1) : MX l yX8_happenedTo cX8_happenedTo 2 (Option.some FieldType.int) rm_X8_happenedTo (fun _ => False) [.ref (ar 0), .int x1] D tc h0 sa H0 post (fun (_ : Int32) (H1 : Heap) => H1 = H0) (fun u : Int32 => some (.int u)) xpost := by
  have hA0 : ∀ q : Nat, (fun _ : Nat => False) q → h0 ≤ q := fun _ h => h.elim
  refine MX.of RX8 [(0, .ref (ar 0)), (1, .int x1)] (by decide +kernel) rfl (Nat.le_of_ble_eq_true rfl) rfl ?_
  intro p e s m below meth c ls X hr hnt hT hH hS hl
  subst hH
  have hx := X.1
  have hb := X.2.1
  have hown := X.2.2.2.1
  have hU := X.2.2.2.2.1.1
  unfold wp_X8_happenedTo at hw
  refine lv_aload_n hx hb dX8_happenedTo_0 rfl (lv_at hl 0 rfl) ?_
  refine lv_iload_n hx hb dX8_happenedTo_1 rfl (lv_at hl 1 rfl) ?_
  refine g_afterX (st0 := .int x1 :: .ref (ar 0) :: []) (rest := []) (g_VX X m_X8_313 (c_X8_checkNote l D tc h0 sa x1 _ hBr hBw hlf hw) (hBr.recv X 0 rfl (q := (RX8, TX8, 9)) rfl) hT hS hA0 dX8_happenedTo_2 hl.1 rfl rfl ⟨Nat.le_of_ble_eq_true rfl, Nat.le_of_ble_eq_true rfl⟩ (Nat.le_of_ble_eq_true rfl) ⟨Nat.le_of_ble_eq_true rfl, Nat.le_of_ble_eq_true rfl⟩) hS (fun _ h => h.elim) (fun u => []) (fun _ => rfl) (fun k ce q9 H1 locs1 hx9 hz9 ho9 hS9 hce hcv hcl => ?_) (fun u H9 locs hw hP9 hz9 hk9 hS => ?_)
  · exact e_x X hnt ⟨hz9, ho9⟩ hce hcv hcl hx9 hS9 ⟨Nat.le_of_ble_eq_true rfl, Nat.le_of_ble_eq_true rfl⟩
  have e9 : H9 = _ := hP9
  rw [e9] at hS ⊢
  try dsimp only at hw
  refine lv_aload_n hx hb dX8_happenedTo_5 rfl (lv_at hl 0 rfl) ?_
  refine g_get X dX8_happenedTo_6 f_X8_12 hBr 0 (v := .ref (ad 0)) rfl rfl ?_
  refine g_get X dX8_happenedTo_9 f_X8_193 hBw 0 (v := .ref (ad 19)) rfl rfl ?_
  refine g_get X dX8_happenedTo_12 f_X8_319 hBw 19 (v := .ref (ad 21)) rfl rfl ?_
  refine lv_iload_n hx hb dX8_happenedTo_15 rfl (lv_at hl 1 rfl) ?_
  obtain ⟨o1, hw⟩ := hw
  refine g_iald X dX8_happenedTo_16 hBw 21 rfl o1 rfl ?_
  refine W.widen (k := rm_X8_happenedTo.cells) (n := rm_X8_happenedTo.slots) (Nat.le_of_ble_eq_true rfl) (Nat.le_of_ble_eq_true rfl) ?_
  exact vx_ret (e_i X hr dX8_happenedTo_17 hS ((w 21 x1.toNatClampNeg)) rfl hw rfl ⟨Nat.le_refl _, Nat.le_refl _⟩)
abbrev rm_X8_thereShare : Room := { frames := 6, cells := 1, slots := 6, locals := 90 }
def wp_X8_thereShare (post : UInt32 → Prop) (xpost : Nat → Prop) (r : Dt) (w : Dt) : Prop := (1 ≤ (w 7 0) → wp_X6_countThere (fun r2 => vf_n32 (FP.fdiv (FP.i2f r2) (FP.i2f (w 7 0))) ∧ (post (FP.fdiv (FP.i2f r2) (FP.i2f (w 7 0))))) w) ∧ (¬ 1 ≤ (w 7 0) → xpost 5)
set_option maxHeartbeats 4000000 in
set_option maxRecDepth 100000 in
theorem c_X8_thereShare (l : Launch) (D : va_G) (tc : Nat → ClassId) (h0 : Nat) (sa : Nat → Nat)  (H0 : Heap) {ar : Nat → Nat} {Ar : Nat → Prop} {sp : Option Nat} {ns : Nat} {np : Nat} {nf : Nat} {sd : Nat → Nat → Nat} {pd : Nat → Nat → Nat} {fd : Nat → Nat → Nat} {sums : Nat → Int64} {ad : Nat → Nat} {A : Nat → Prop} {r : Dt} {w : Dt} (hBr : Blk D tc Ar (shR (ad 0) sp ns np nf sd pd fd sums ar) ar r H0) (hBw : Blk D tc A (shW ad) ad w H0) (hlf : l.stackTraces = false) {post : UInt32 → Prop} {xpost : Nat → Prop} (hw : wp_X8_thereShare post xpost r w) : MX l yX8_thereShare cX8_thereShare 2 (Option.some FieldType.float) rm_X8_thereShare (fun _ => False) [.ref (ar 0)] D tc h0 sa H0 post (fun (_ : UInt32) (H1 : Heap) => H1 = H0) (fun u : UInt32 => some (.float u)) xpost := by
  have hA0 : ∀ q : Nat, (fun _ : Nat => False) q → h0 ≤ q := fun _ h => h.elim
  refine MX.of RX8 [(0, .ref (ar 0))] (by decide +kernel) rfl (Nat.le_of_ble_eq_true rfl) rfl ?_
  intro p e s m below meth c ls X hr hnt hT hH hS hl
  subst hH
  have hx := X.1
  have hb := X.2.1
  have hown := X.2.2.2.1
  have hU := X.2.2.2.2.1.1
  unfold wp_X8_thereShare at hw
  refine lv_aload_n hx hb dX8_thereShare_0 rfl (lv_at hl 0 rfl) ?_
  refine g_get X dX8_thereShare_1 f_X8_12 hBr 0 (v := .ref (ad 0)) rfl rfl ?_
  refine g_get X dX8_thereShare_4 f_X8_126 hBw 0 (v := .ref (ad 7)) rfl rfl ?_
  refine g_get X dX8_thereShare_7 f_X8_130 hBw 7 (v := .int (w 7 0)) rfl rfl ?_
  refine lv_istore_n (lv' := [(1, .int (w 7 0)), (0, .ref (ar 0))]) hx hb dX8_thereShare_10 rfl hl (by decide) rfl (fun ls hl => ?_)
  refine lv_iload_n hx hb dX8_thereShare_11 rfl (lv_at hl 0 rfl) ?_
  refine lv_iconst (v := 1) hx hb dX8_thereShare_12 (by decide) ?_
  refine lv_icmp_ge (tgt := 27) hx hb dX8_thereShare_13 (by decide) (fun c1 => ?_) (fun c1 => ?_)
  · have hw := hw.1 c1
    refine lv_aload_n hx hb dX8_thereShare_27 rfl (lv_at hl 1 rfl) ?_
    refine g_get X dX8_thereShare_28 f_X8_12 hBr 0 (v := .ref (ad 0)) rfl rfl ?_
    refine g_get X dX8_thereShare_31 f_X8_126 hBw 0 (v := .ref (ad 7)) rfl rfl ?_
    refine g_after (st0 := .ref (ad 7) :: []) (rest := []) (g_V X m_X8_327 (c_X6_countThere l D tc h0 sa  _ hBw hw) (hBw.recv X 7 rfl (q := (RX6, TX6, 8)) rfl) hT hS hA0 dX8_thereShare_34 hl.1 rfl rfl ⟨Nat.le_of_ble_eq_true rfl, Nat.le_of_ble_eq_true rfl⟩ (Nat.le_of_ble_eq_true rfl) ⟨Nat.le_of_ble_eq_true rfl, Nat.le_of_ble_eq_true rfl⟩) hS (fun _ h => h.elim) (fun u => .int u :: []) (fun _ => rfl) (fun u H9 locs hw hP9 hz9 hk9 hS => ?_)
    have e9 : H9 = _ := hP9
    rw [e9] at hS ⊢
    obtain ⟨r2, rfl⟩ : ∃ z, z = u := ⟨_, rfl⟩
    try dsimp only at hw
    refine lv_i2f hx hb dX8_thereShare_37 ?_
    refine lv_iload_n hx hb dX8_thereShare_38 rfl (lv_at hl 0 rfl) ?_
    refine lv_i2f hx hb dX8_thereShare_39 ?_
    obtain ⟨o3, hw⟩ := hw
    refine lv_fdiv hx hb dX8_thereShare_40 o3 ?_
    refine W.widen (k := rm_X8_thereShare.cells) (n := rm_X8_thereShare.slots) (Nat.le_of_ble_eq_true rfl) (Nat.le_of_ble_eq_true rfl) ?_
    exact vx_ret (e_f X hr dX8_thereShare_41 hS ((FP.fdiv (FP.i2f r2) (FP.i2f (w 7 0)))) rfl hw rfl ⟨Nat.le_refl _, Nat.le_refl _⟩)
  · have hw := hw.2 c1
    exact g_throwW X hlf tk5 (text := "there were no storms") (by decide) hT hnt hA0 hS hl.1 dX8_thereShare_16 dX8_thereShare_19 dX8_thereShare_20 dX8_thereShare_23 dX8_thereShare_26 ⟨Nat.le_of_ble_eq_true rfl, Nat.le_of_ble_eq_true rfl, Nat.le_of_ble_eq_true rfl, Nat.le_of_ble_eq_true rfl, Nat.le_of_ble_eq_true rfl, Nat.le_of_ble_eq_true rfl⟩ hw
abbrev rm_X8_getRadiated : Room := { frames := 0, cells := 0, slots := 0, locals := 0 }
def wp_X8_getRadiated (post : Int32 → Prop) (r : Dt) (w : Dt) : Prop := post (w 1 4)
set_option maxHeartbeats 4000000 in
set_option maxRecDepth 100000 in
theorem c_X8_getRadiated (l : Launch) (D : va_G) (tc : Nat → ClassId) (h0 : Nat) (sa : Nat → Nat)  (H0 : Heap) {ar : Nat → Nat} {Ar : Nat → Prop} {sp : Option Nat} {ns : Nat} {np : Nat} {nf : Nat} {sd : Nat → Nat → Nat} {pd : Nat → Nat → Nat} {fd : Nat → Nat → Nat} {sums : Nat → Int64} {ad : Nat → Nat} {A : Nat → Prop} {r : Dt} {w : Dt} (hBr : Blk D tc Ar (shR (ad 0) sp ns np nf sd pd fd sums ar) ar r H0) (hBw : Blk D tc A (shW ad) ad w H0)  {post : Int32 → Prop} (hw : wp_X8_getRadiated post r w) : MB l yX8_getRadiated cX8_getRadiated 1 (Option.some FieldType.int) rm_X8_getRadiated (fun _ => False) [.ref (ar 0)] D tc h0 sa H0 post (fun (_ : Int32) (H1 : Heap) => H1 = H0) (fun u : Int32 => some (.int u)) := by
  have hA0 : ∀ q : Nat, (fun _ : Nat => False) q → h0 ≤ q := fun _ h => h.elim
  refine MB.of RX8 [(0, .ref (ar 0))] (by decide +kernel) rfl (Nat.le_of_ble_eq_true rfl) rfl ?_
  intro p e s m below meth c ls X hr hin hT hH hS hl
  subst hH
  have hx := X.1
  have hb := X.2.1
  have hown := X.2.2.2.1
  have hU := X.2.2.2.2.1.1
  unfold wp_X8_getRadiated at hw
  refine lv_aload_n hx hb dX8_getRadiated_0 rfl (lv_at hl 0 rfl) ?_
  refine g_get X dX8_getRadiated_1 f_X8_12 hBr 0 (v := .ref (ad 0)) rfl rfl ?_
  refine g_get X dX8_getRadiated_4 f_X8_44 hBw 0 (v := .ref (ad 1)) rfl rfl ?_
  refine g_get X dX8_getRadiated_7 f_X8_84 hBw 1 (v := .int (w 1 4)) rfl rfl ?_
  exact e_i X hr dX8_getRadiated_10 hS ((w 1 4)) rfl hw rfl ⟨Nat.le_of_ble_eq_true rfl, Nat.le_of_ble_eq_true rfl⟩
abbrev rm_X8_getDeep : Room := { frames := 0, cells := 0, slots := 0, locals := 0 }
def wp_X8_getDeep (post : Int32 → Prop) (r : Dt) (w : Dt) : Prop := post (w 5 2)
set_option maxHeartbeats 4000000 in
set_option maxRecDepth 100000 in
theorem c_X8_getDeep (l : Launch) (D : va_G) (tc : Nat → ClassId) (h0 : Nat) (sa : Nat → Nat)  (H0 : Heap) {ar : Nat → Nat} {Ar : Nat → Prop} {sp : Option Nat} {ns : Nat} {np : Nat} {nf : Nat} {sd : Nat → Nat → Nat} {pd : Nat → Nat → Nat} {fd : Nat → Nat → Nat} {sums : Nat → Int64} {ad : Nat → Nat} {A : Nat → Prop} {r : Dt} {w : Dt} (hBr : Blk D tc Ar (shR (ad 0) sp ns np nf sd pd fd sums ar) ar r H0) (hBw : Blk D tc A (shW ad) ad w H0)  {post : Int32 → Prop} (hw : wp_X8_getDeep post r w) : MB l yX8_getDeep cX8_getDeep 1 (Option.some FieldType.int) rm_X8_getDeep (fun _ => False) [.ref (ar 0)] D tc h0 sa H0 post (fun (_ : Int32) (H1 : Heap) => H1 = H0) (fun u : Int32 => some (.int u)) := by
  have hA0 : ∀ q : Nat, (fun _ : Nat => False) q → h0 ≤ q := fun _ h => h.elim
  refine MB.of RX8 [(0, .ref (ar 0))] (by decide +kernel) rfl (Nat.le_of_ble_eq_true rfl) rfl ?_
  intro p e s m below meth c ls X hr hin hT hH hS hl
  subst hH
  have hx := X.1
  have hb := X.2.1
  have hown := X.2.2.2.1
  have hU := X.2.2.2.2.1.1
  unfold wp_X8_getDeep at hw
  refine lv_aload_n hx hb dX8_getDeep_0 rfl (lv_at hl 0 rfl) ?_
  refine g_get X dX8_getDeep_1 f_X8_12 hBr 0 (v := .ref (ad 0)) rfl rfl ?_
  refine g_get X dX8_getDeep_4 f_X8_88 hBw 0 (v := .ref (ad 5)) rfl rfl ?_
  refine g_get X dX8_getDeep_7 f_X8_119 hBw 5 (v := .int (w 5 2)) rfl rfl ?_
  exact e_i X hr dX8_getDeep_10 hS ((w 5 2)) rfl hw rfl ⟨Nat.le_of_ble_eq_true rfl, Nat.le_of_ble_eq_true rfl⟩
abbrev rm_X8_happenings : Room := { frames := 0, cells := 0, slots := 0, locals := 0 }
def wp_X8_happenings (post : Int32 → Prop) (r : Dt) (w : Dt) : Prop := post (w 19 0)
set_option maxHeartbeats 4000000 in
set_option maxRecDepth 100000 in
theorem c_X8_happenings (l : Launch) (D : va_G) (tc : Nat → ClassId) (h0 : Nat) (sa : Nat → Nat)  (H0 : Heap) {ar : Nat → Nat} {Ar : Nat → Prop} {sp : Option Nat} {ns : Nat} {np : Nat} {nf : Nat} {sd : Nat → Nat → Nat} {pd : Nat → Nat → Nat} {fd : Nat → Nat → Nat} {sums : Nat → Int64} {ad : Nat → Nat} {A : Nat → Prop} {r : Dt} {w : Dt} (hBr : Blk D tc Ar (shR (ad 0) sp ns np nf sd pd fd sums ar) ar r H0) (hBw : Blk D tc A (shW ad) ad w H0)  {post : Int32 → Prop} (hw : wp_X8_happenings post r w) : MB l yX8_happenings cX8_happenings 1 (Option.some FieldType.int) rm_X8_happenings (fun _ => False) [.ref (ar 0)] D tc h0 sa H0 post (fun (_ : Int32) (H1 : Heap) => H1 = H0) (fun u : Int32 => some (.int u)) := by
  have hA0 : ∀ q : Nat, (fun _ : Nat => False) q → h0 ≤ q := fun _ h => h.elim
  refine MB.of RX8 [(0, .ref (ar 0))] (by decide +kernel) rfl (Nat.le_of_ble_eq_true rfl) rfl ?_
  intro p e s m below meth c ls X hr hin hT hH hS hl
  subst hH
  have hx := X.1
  have hb := X.2.1
  have hown := X.2.2.2.1
  have hU := X.2.2.2.2.1.1
  unfold wp_X8_happenings at hw
  refine lv_aload_n hx hb dX8_happenings_0 rfl (lv_at hl 0 rfl) ?_
  refine g_get X dX8_happenings_1 f_X8_12 hBr 0 (v := .ref (ad 0)) rfl rfl ?_
  refine g_get X dX8_happenings_4 f_X8_193 hBw 0 (v := .ref (ad 19)) rfl rfl ?_
  refine g_get X dX8_happenings_7 f_X8_312 hBw 19 (v := .int (w 19 0)) rfl rfl ?_
  exact e_i X hr dX8_happenings_10 hS ((w 19 0)) rfl hw rfl ⟨Nat.le_of_ble_eq_true rfl, Nat.le_of_ble_eq_true rfl⟩
abbrev rm_X8_checksum : Room := { frames := 4, cells := 0, slots := 0, locals := 93 }
def wp_X8_checksum (post : Int64 → Prop) (r : Dt) (w : Dt) : Prop := wp_X7_sumUp (fun r1 => post r1) w
set_option maxHeartbeats 4000000 in
set_option maxRecDepth 100000 in
theorem c_X8_checksum (l : Launch) (D : va_G) (tc : Nat → ClassId) (h0 : Nat) (sa : Nat → Nat)  (H0 : Heap) {ar : Nat → Nat} {Ar : Nat → Prop} {sp : Option Nat} {ns : Nat} {np : Nat} {nf : Nat} {sd : Nat → Nat → Nat} {pd : Nat → Nat → Nat} {fd : Nat → Nat → Nat} {sums : Nat → Int64} {ad : Nat → Nat} {A : Nat → Prop} {r : Dt} {w : Dt} (hBr : Blk D tc Ar (shR (ad 0) sp ns np nf sd pd fd sums ar) ar r H0) (hBw : Blk D tc A (shW ad) ad w H0)  {post : Int64 → Prop} (hw : wp_X8_checksum post r w) : MB l yX8_checksum cX8_checksum 1 (Option.some FieldType.long) rm_X8_checksum (fun _ => False) [.ref (ar 0)] D tc h0 sa H0 post (fun (_ : Int64) (H1 : Heap) => H1 = H0) (fun u : Int64 => some (.long u)) := by
  have hA0 : ∀ q : Nat, (fun _ : Nat => False) q → h0 ≤ q := fun _ h => h.elim
  refine MB.of RX8 [(0, .ref (ar 0))] (by decide +kernel) rfl (Nat.le_of_ble_eq_true rfl) rfl ?_
  intro p e s m below meth c ls X hr hin hT hH hS hl
  subst hH
  have hx := X.1
  have hb := X.2.1
  have hown := X.2.2.2.1
  have hU := X.2.2.2.2.1.1
  unfold wp_X8_checksum at hw
  refine lv_aload_n hx hb dX8_checksum_0 rfl (lv_at hl 0 rfl) ?_
  refine g_get X dX8_checksum_1 f_X8_12 hBr 0 (v := .ref (ad 0)) rfl rfl ?_
  refine g_after (st0 := .ref (ad 0) :: []) (rest := []) (g_V X m_X8_303 (c_X7_sumUp l D tc h0 sa  _ hBw hw) (hBw.recv X 0 rfl (q := (RX7, TX7, 6)) rfl) hT hS hA0 dX8_checksum_4 hl.1 rfl rfl ⟨Nat.le_of_ble_eq_true rfl, Nat.le_of_ble_eq_true rfl⟩ (Nat.le_of_ble_eq_true rfl) ⟨Nat.le_of_ble_eq_true rfl, Nat.le_of_ble_eq_true rfl⟩) hS (fun _ h => h.elim) (fun u => .long u :: []) (fun _ => rfl) (fun u H9 locs hw hP9 hz9 hk9 hS => ?_)
  have e9 : H9 = _ := hP9
  rw [e9] at hS ⊢
  obtain ⟨r1, rfl⟩ : ∃ z, z = u := ⟨_, rfl⟩
  try dsimp only at hw
  exact e_l X hr dX8_checksum_7 hS (r1) rfl hw rfl ⟨Nat.le_of_ble_eq_true rfl, Nat.le_of_ble_eq_true rfl⟩
abbrev rm_X8_meanWind : Room := { frames := 1, cells := 0, slots := 0, locals := 22 }
def wp_X8_meanWind_4 (post : UInt64 → Prop)   : Nat → Int32 → Int32 → Dt → Dt → Prop
  | 0, _, _, _, _ => False
  | n9 + 1, y1, y2, r, w => (12 ≤ y2 → vf_n64 (FP.ddiv (FP.i2d y1) 4622945017495814144) ∧ (post (FP.ddiv (FP.i2d y1) 4622945017495814144))) ∧ (¬ 12 ≤ y2 → wp_X0_windOf (fun r3 => wp_X8_meanWind_4 post   n9 (y1 + r3) (y2 + 1) r w) w y2)
set_option maxHeartbeats 4000000 in
set_option maxRecDepth 100000 in
theorem t_X8_meanWind_4 {p : Program} {l : Launch} {e : Env} {s : State} {m : MethodId} {args : Array Value} {below : List Frame} {meth : Method} {c : Code} {D : va_G} {tc : Nat → ClassId} {h0 : Nat} {sa : Nat → Nat}  {ar : Nat → Nat} {Ar : Nat → Prop} {sp : Option Nat} {ns : Nat} {np : Nat} {nf : Nat} {sd : Nat → Nat → Nat} {pd : Nat → Nat → Nat} {fd : Nat → Nat → Nat} {sums : Nat → Int64} {ad : Nat → Nat} {A : Nat → Prop} {post : UInt64 → Prop}  (X : Cx p c s m meth cX8_meanWind 3 RX8 D tc) (hr : meth.sig.returnType = (Option.some FieldType.double)) (hT : ST h0 sa s s.heap) (hA0 : ∀ q, (fun _ => False) q → h0 ≤ q)    : ∀ (n9 : Nat) (y1 : Int32) (y2 : Int32) (r : Dt) (w : Dt) (locs : List Loc) (ls : Array Slot), wp_X8_meanWind_4 post   n9 y1 y2 r w → (Blk D tc Ar (shR (ad 0) sp ns np nf sd pd fd sums ar) ar r s.heap) → (Blk D tc A (shW ad) ad w s.heap) → va_S (fun _ => False) s.heap s.heap locs → lv_has ls 3 [(0, .ref (ar 0)), (1, .int y1), (2, .int y2)] → W p l e rm_X8_meanWind s m args below meth c s.heap locs 0 0 (MQ below (QB post (fun (_ : UInt64) (H1 : Heap) => H1 = s.heap) (fun u : UInt64 => some (.double u)) (fun _ => False)) args s rm_X8_meanWind.cells rm_X8_meanWind.slots (fun _ => False)) (F0 m 4 ls []) := by
  have hx := X.1
  have hb := X.2.1
  have hown := X.2.2.2.1
  have hU := X.2.2.2.2.1.1
  intro n9
  induction n9 with
  | zero =>
    intro y1 y2 r w  locs ls hw
    exact hw.elim
  | succ n9 ih =>
    intro y1 y2 r w  locs ls hw hBr hBw hS hl
    unfold wp_X8_meanWind_4 at hw
    refine lv_iload_n hx hb dX8_meanWind_4 rfl (lv_at hl 2 rfl) ?_
    refine lv_bipush (v := 12) hx hb dX8_meanWind_5 (by decide) ?_
    refine lv_icmp_ge (tgt := 30) hx hb dX8_meanWind_7 (by decide) (fun c1 => ?_) (fun c1 => ?_)
    · have hw := hw.1 c1
      refine lv_iload_n hx hb dX8_meanWind_30 rfl (lv_at hl 1 rfl) ?_
      refine lv_i2d hx hb dX8_meanWind_31 ?_
      refine lv_ldc2d (v := 4622945017495814144) hx hb hown (hU.use w_312) dX8_meanWind_32 ?_
      obtain ⟨o2, hw⟩ := hw
      refine lv_ddiv hx hb dX8_meanWind_35 o2 ?_
      exact e_d X hr dX8_meanWind_36 hS ((FP.ddiv (FP.i2d y1) 4622945017495814144)) rfl hw rfl ⟨Nat.le_of_ble_eq_true rfl, Nat.le_of_ble_eq_true rfl⟩
    · have hw := hw.2 c1
      refine lv_iload_n hx hb dX8_meanWind_10 rfl (lv_at hl 1 rfl) ?_
      refine lv_aload_n hx hb dX8_meanWind_11 rfl (lv_at hl 0 rfl) ?_
      refine g_get X dX8_meanWind_12 f_X8_12 hBr 0 (v := .ref (ad 0)) rfl rfl ?_
      refine g_get X dX8_meanWind_15 f_X8_88 hBw 0 (v := .ref (ad 5)) rfl rfl ?_
      refine lv_iload_n hx hb dX8_meanWind_18 rfl (lv_at hl 2 rfl) ?_
      refine g_after (st0 := .int y2 :: .ref (ad 5) :: [.int y1]) (rest := [.int y1]) (g_V X m_X8_100 (c_X0_windOf l D tc h0 sa y2 _ hBw hw) (hBw.recv X 5 rfl (q := (RX0, TX0, 4)) rfl) hT hS hA0 dX8_meanWind_19 hl.1 rfl rfl ⟨Nat.le_of_ble_eq_true rfl, Nat.le_of_ble_eq_true rfl⟩ (Nat.le_of_ble_eq_true rfl) ⟨Nat.le_of_ble_eq_true rfl, Nat.le_of_ble_eq_true rfl⟩) hS (fun _ h => h.elim) (fun u => .int u :: [.int y1]) (fun _ => rfl) (fun u H9 locs hw hP9 hz9 hk9 hS => ?_)
      have e9 : H9 = _ := hP9
      rw [e9] at hS ⊢
      obtain ⟨r3, rfl⟩ : ∃ z, z = u := ⟨_, rfl⟩
      try dsimp only at hw
      refine lv_iadd hx hb dX8_meanWind_22 ?_
      refine lv_istore_n (lv' := [(1, .int (y1 + r3)), (0, .ref (ar 0)), (2, .int y2)]) hx hb dX8_meanWind_23 rfl hl (by decide) rfl (fun ls hl => ?_)
      refine lv_iinc (lv' := [(2, .int (y2 + 1)), (1, .int (y1 + r3)), (0, .ref (ar 0))]) hx hb dX8_meanWind_24 hl (k := 2) rfl (by rfl) (by decide) rfl (fun ls hl => ?_)
      refine lv_goto (tgt := 4) hx hb dX8_meanWind_27 (by decide) ?_
      exact ih _ _ _ _ _ _ hw hBr hBw hS (lv_sub hl [2, 1, 0] rfl)
def wp_X8_meanWind (post : UInt64 → Prop) (r : Dt) (w : Dt) : Prop := ∃ k9 : Nat, wp_X8_meanWind_4 post   k9 0 0 r w
set_option maxHeartbeats 4000000 in
set_option maxRecDepth 100000 in
theorem c_X8_meanWind (l : Launch) (D : va_G) (tc : Nat → ClassId) (h0 : Nat) (sa : Nat → Nat)  (H0 : Heap) {ar : Nat → Nat} {Ar : Nat → Prop} {sp : Option Nat} {ns : Nat} {np : Nat} {nf : Nat} {sd : Nat → Nat → Nat} {pd : Nat → Nat → Nat} {fd : Nat → Nat → Nat} {sums : Nat → Int64} {ad : Nat → Nat} {A : Nat → Prop} {r : Dt} {w : Dt} (hBr : Blk D tc Ar (shR (ad 0) sp ns np nf sd pd fd sums ar) ar r H0) (hBw : Blk D tc A (shW ad) ad w H0)  {post : UInt64 → Prop} (hw : wp_X8_meanWind post r w) : MB l yX8_meanWind cX8_meanWind 3 (Option.some FieldType.double) rm_X8_meanWind (fun _ => False) [.ref (ar 0)] D tc h0 sa H0 post (fun (_ : UInt64) (H1 : Heap) => H1 = H0) (fun u : UInt64 => some (.double u)) := by
  have hA0 : ∀ q : Nat, (fun _ : Nat => False) q → h0 ≤ q := fun _ h => h.elim
  refine MB.of RX8 [(0, .ref (ar 0))] (by decide +kernel) rfl (Nat.le_of_ble_eq_true rfl) rfl ?_
  intro p e s m below meth c ls X hr hin hT hH hS hl
  subst hH
  have hx := X.1
  have hb := X.2.1
  have hown := X.2.2.2.1
  have hU := X.2.2.2.2.1.1
  unfold wp_X8_meanWind at hw
  refine lv_iconst (v := 0) hx hb dX8_meanWind_0 (by decide) ?_
  refine lv_istore_n (lv' := [(1, .int 0), (0, .ref (ar 0))]) hx hb dX8_meanWind_1 rfl hl (by decide) rfl (fun ls hl => ?_)
  refine lv_iconst (v := 0) hx hb dX8_meanWind_2 (by decide) ?_
  refine lv_istore_n (lv' := [(2, .int 0), (1, .int 0), (0, .ref (ar 0))]) hx hb dX8_meanWind_3 rfl hl (by decide) rfl (fun ls hl => ?_)
  obtain ⟨k9, hw⟩ := hw
  exact t_X8_meanWind_4 X hr hT hA0   k9 _ _ _ _ _ _ hw hBr hBw hS (lv_sub hl [2, 1, 0] rfl)
