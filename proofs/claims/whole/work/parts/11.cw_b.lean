abbrev rm_X0_copyFrom : Room := { frames := 0, cells := 0, slots := 0, locals := 0 }
def wp_X0_copyFrom_2 (post : Dt → Prop)   : Nat → Int32 → Dt → Dt → Prop
  | 0, _, _, _ => False
  | n9 + 1, y2, w, v => (12 ≤ y2 → ∀ w2 : Dt, w2 = up2 w 5 1 (v 5 1) → (∀ w3 : Dt, w3 = up2 w2 5 2 (v 5 2) → (∀ w4 : Dt, w4 = up2 w3 5 3 (v 5 3) → (post w4)))) ∧ (¬ 12 ≤ y2 → vp_in y2 12 ∧ (∀ w6 : Dt, w6 = up2 w 6 y2.toNatClampNeg (v 6 y2.toNatClampNeg) → (wp_X0_copyFrom_2 post   n9 (y2 + 1) w6 v)))
set_option maxHeartbeats 4000000 in
set_option maxRecDepth 100000 in
theorem t_X0_copyFrom_2 {p : Program} {l : Launch} {e : Env} {s : State} {m : MethodId} {args : Array Value} {below : List Frame} {meth : Method} {c : Code} {D : va_G} {tc : Nat → ClassId} {h0 : Nat} {sa : Nat → Nat}  {ad : Nat → Nat} {A : Nat → Prop} {bd : Nat → Nat} {A2 : Nat → Prop} {post : Dt → Prop}  (X : Cx p c s m meth cX0_copyFrom 3 RX0 D tc) (hr : meth.sig.returnType = (Option.none : Option FieldType)) (hT : ST h0 sa s s.heap) (hA0 : ∀ q, A q → h0 ≤ q) (hDv : ∀ q, A q → ¬ A2 q)   : ∀ (n9 : Nat) (y2 : Int32) (w : Dt) (v : Dt) (H : Heap) (locs : List Loc) (ls : Array Slot), wp_X0_copyFrom_2 post   n9 y2 w v → (Blk D tc A (shW ad) ad w H) → (Blk D tc A2 (shW bd) bd v H) → va_S A s.heap H locs → lv_has ls 3 [(0, .ref (ad 5)), (1, .ref (bd 5)), (2, .int y2)] → W p l e rm_X0_copyFrom s m args below meth c H locs 0 0 (MQ below (QB post (fun (u : Dt) (H1 : Heap) => Blk D tc A (shW ad) ad u H1) (fun _ : Dt => none) A) args s rm_X0_copyFrom.cells rm_X0_copyFrom.slots A) (F0 m 2 ls []) := by
  have hx := X.1
  have hb := X.2.1
  have hown := X.2.2.2.1
  have hU := X.2.2.2.2.1.1
  intro n9
  induction n9 with
  | zero =>
    intro y2 w v H locs ls hw
    exact hw.elim
  | succ n9 ih =>
    intro y2 w v H locs ls hw hBw hBv hS hl
    unfold wp_X0_copyFrom_2 at hw
    refine lv_iload_n hx hb dX0_copyFrom_2 rfl (lv_at hl 2 rfl) ?_
    refine lv_bipush (v := 12) hx hb dX0_copyFrom_3 (by decide) ?_
    refine lv_icmp_ge (tgt := 26) hx hb dX0_copyFrom_5 (by decide) (fun c1 => ?_) (fun c1 => ?_)
    · have hw := hw.1 c1
      refine lv_aload_n hx hb dX0_copyFrom_26 rfl (lv_at hl 0 rfl) ?_
      refine lv_aload_n hx hb dX0_copyFrom_27 rfl (lv_at hl 1 rfl) ?_
      refine g_get X dX0_copyFrom_28 f_X0_38 hBv 5 (v := .int (v 5 1)) rfl rfl ?_
      refine g_puti X dX0_copyFrom_31 f_X0_38 hBw hS 5 rfl (x := (v 5 1)) rfl rfl rfl (fun H locs hBw oq hS => ?_)
      have hBv := hBv.kept1 oq (hDv _ (hBw.in (i := 5) rfl))
      obtain ⟨w2, ew2⟩ : ∃ z : Dt, z = up2 w 5 1 (v 5 1) := ⟨_, rfl⟩
      rw [← ew2] at hBw
      have hw := hw w2 ew2
      refine lv_aload_n hx hb dX0_copyFrom_34 rfl (lv_at hl 0 rfl) ?_
      refine lv_aload_n hx hb dX0_copyFrom_35 rfl (lv_at hl 1 rfl) ?_
      refine g_get X dX0_copyFrom_36 f_X0_41 hBv 5 (v := .int (v 5 2)) rfl rfl ?_
      refine g_puti X dX0_copyFrom_39 f_X0_41 hBw hS 5 rfl (x := (v 5 2)) rfl rfl rfl (fun H locs hBw oq hS => ?_)
      have hBv := hBv.kept1 oq (hDv _ (hBw.in (i := 5) rfl))
      obtain ⟨w3, ew3⟩ : ∃ z : Dt, z = up2 w2 5 2 (v 5 2) := ⟨_, rfl⟩
      rw [← ew3] at hBw
      have hw := hw w3 ew3
      refine lv_aload_n hx hb dX0_copyFrom_42 rfl (lv_at hl 0 rfl) ?_
      refine lv_aload_n hx hb dX0_copyFrom_43 rfl (lv_at hl 1 rfl) ?_
      refine g_get X dX0_copyFrom_44 f_X0_15 hBv 5 (v := .int (v 5 3)) rfl rfl ?_
      refine g_puti X dX0_copyFrom_47 f_X0_15 hBw hS 5 rfl (x := (v 5 3)) rfl rfl rfl (fun H locs hBw oq hS => ?_)
      have hBv := hBv.kept1 oq (hDv _ (hBw.in (i := 5) rfl))
      obtain ⟨w4, ew4⟩ : ∃ z : Dt, z = up2 w3 5 3 (v 5 3) := ⟨_, rfl⟩
      rw [← ew4] at hBw
      have hw := hw w4 ew4
      exact e_v X hr dX0_copyFrom_50 hS (w4) rfl hw hBw ⟨Nat.le_of_ble_eq_true rfl, Nat.le_of_ble_eq_true rfl⟩
    · have hw := hw.2 c1
      refine lv_aload_n hx hb dX0_copyFrom_8 rfl (lv_at hl 0 rfl) ?_
      refine g_get X dX0_copyFrom_9 f_X0_9 hBw 5 (v := .ref (ad 6)) rfl rfl ?_
      refine lv_iload_n hx hb dX0_copyFrom_12 rfl (lv_at hl 2 rfl) ?_
      refine lv_aload_n hx hb dX0_copyFrom_13 rfl (lv_at hl 1 rfl) ?_
      refine g_get X dX0_copyFrom_14 f_X0_9 hBv 5 (v := .ref (bd 6)) rfl rfl ?_
      refine lv_iload_n hx hb dX0_copyFrom_17 rfl (lv_at hl 2 rfl) ?_
      obtain ⟨o5, hw⟩ := hw
      refine g_iald X dX0_copyFrom_18 hBv 6 rfl o5 rfl ?_
      refine g_iast X dX0_copyFrom_19 hBw hS 6 rfl o5 rfl  (fun H locs hBw oq hS => ?_)
      have hBv := hBv.kept1 oq (hDv _ (hBw.in (i := 6) rfl))
      obtain ⟨w6, ew6⟩ : ∃ z : Dt, z = up2 w 6 y2.toNatClampNeg (v 6 y2.toNatClampNeg) := ⟨_, rfl⟩
      rw [← ew6] at hBw
      have hw := hw w6 ew6
      refine lv_iinc (lv' := [(2, .int (y2 + 1)), (0, .ref (ad 5)), (1, .ref (bd 5))]) hx hb dX0_copyFrom_20 hl (k := 2) rfl (by rfl) (by decide) rfl (fun ls hl => ?_)
      refine lv_goto (tgt := 2) hx hb dX0_copyFrom_23 (by decide) ?_
      exact ih _ _ _ _ _ _ hw hBw hBv hS (lv_sub hl [1, 2, 0] rfl)
def wp_X0_copyFrom (post : Dt → Prop) (w : Dt) (v : Dt) : Prop := ∃ k9 : Nat, wp_X0_copyFrom_2 post   k9 0 w v
set_option maxHeartbeats 4000000 in
set_option maxRecDepth 100000 in
theorem c_X0_copyFrom (l : Launch) (D : va_G) (tc : Nat → ClassId) (h0 : Nat) (sa : Nat → Nat)  (H0 : Heap) {ad : Nat → Nat} {A : Nat → Prop} {bd : Nat → Nat} {A2 : Nat → Prop} {w : Dt} {v : Dt} (hBw : Blk D tc A (shW ad) ad w H0) (hBv : Blk D tc A2 (shW bd) bd v H0) (hDv : ∀ q, A q → ¬ A2 q) (hA0 : ∀ q, A q → h0 ≤ q) {post : Dt → Prop} (hw : wp_X0_copyFrom post w v) : MB l yX0_copyFrom cX0_copyFrom 3 (Option.none : Option FieldType) rm_X0_copyFrom A [.ref (ad 5), .ref (bd 5)] D tc h0 sa H0 post (fun (u : Dt) (H1 : Heap) => Blk D tc A (shW ad) ad u H1) (fun _ : Dt => none) := by
  refine MB.of RX0 [(0, .ref (ad 5)), (1, .ref (bd 5))] (by decide +kernel) rfl (Nat.le_of_ble_eq_true rfl) rfl ?_
  intro p e s m below meth c ls X hr hin hT hH hS hl
  subst hH
  have hx := X.1
  have hb := X.2.1
  have hown := X.2.2.2.1
  have hU := X.2.2.2.2.1.1
  unfold wp_X0_copyFrom at hw
  refine lv_iconst (v := 0) hx hb dX0_copyFrom_0 (by decide) ?_
  refine lv_istore_n (lv' := [(2, .int 0), (0, .ref (ad 5)), (1, .ref (bd 5))]) hx hb dX0_copyFrom_1 rfl hl (by decide) rfl (fun ls hl => ?_)
  obtain ⟨k9, hw⟩ := hw
  exact t_X0_copyFrom_2 X hr hT hA0 hDv  k9 _ _ _ _ _ _ hw hBw hBv hS (lv_sub hl [1, 2, 0] rfl)
abbrev rm_X1_tellTemperature : Room := { frames := 0, cells := 0, slots := 0, locals := 0 }
def wp_X1_tellTemperature (post : Int32 → Dt → Prop) (w : Dt) (x1 : Int32) (x2 : Int32) : Prop := vp_in x1 10 ∧ (∀ w2 : Dt, w2 = up2 w 2 x1.toNatClampNeg x2 → (∀ w3 : Dt, w3 = up2 w2 1 5 ((w2 1 5) + (x2 - (w 2 x1.toNatClampNeg))) → (post (w 2 x1.toNatClampNeg) w3)))
set_option maxHeartbeats 4000000 in
set_option maxRecDepth 100000 in
theorem c_X1_tellTemperature (l : Launch) (D : va_G) (tc : Nat → ClassId) (h0 : Nat) (sa : Nat → Nat) (x1 : Int32) (x2 : Int32) (H0 : Heap) {ad : Nat → Nat} {A : Nat → Prop} {w : Dt} (hBw : Blk D tc A (shW ad) ad w H0) (hA0 : ∀ q, A q → h0 ≤ q) {post : Int32 → Dt → Prop} (hw : wp_X1_tellTemperature post w x1 x2) : MB l yX1_tellTemperature cX1_tellTemperature 4 (Option.some FieldType.int) rm_X1_tellTemperature A [.ref (ad 1), .int x1, .int x2] D tc h0 sa H0 (fun u : Int32 × Dt => post u.1 u.2) (fun (u : Int32 × Dt) (H1 : Heap) => Blk D tc A (shW ad) ad u.2 H1) (fun u : Int32 × Dt => some (.int u.1)) := by
  refine MB.of RX1 [(0, .ref (ad 1)), (1, .int x1), (2, .int x2)] (by decide +kernel) rfl (Nat.le_of_ble_eq_true rfl) rfl ?_
  intro p e s m below meth c ls X hr hin hT hH hS hl
  subst hH
  have hx := X.1
  have hb := X.2.1
  have hown := X.2.2.2.1
  have hU := X.2.2.2.2.1.1
  unfold wp_X1_tellTemperature at hw
  refine lv_aload_n hx hb dX1_tellTemperature_0 rfl (lv_at hl 0 rfl) ?_
  refine g_get X dX1_tellTemperature_1 f_X1_9 hBw 1 (v := .ref (ad 2)) rfl rfl ?_
  refine lv_iload_n hx hb dX1_tellTemperature_4 rfl (lv_at hl 1 rfl) ?_
  obtain ⟨o1, hw⟩ := hw
  refine g_iald X dX1_tellTemperature_5 hBw 2 rfl o1 rfl ?_
  refine lv_istore_n (lv' := [(3, .int (w 2 x1.toNatClampNeg)), (0, .ref (ad 1)), (1, .int x1), (2, .int x2)]) hx hb dX1_tellTemperature_6 rfl hl (by decide) rfl (fun ls hl => ?_)
  refine lv_aload_n hx hb dX1_tellTemperature_7 rfl (lv_at hl 1 rfl) ?_
  refine g_get X dX1_tellTemperature_8 f_X1_9 hBw 1 (v := .ref (ad 2)) rfl rfl ?_
  refine lv_iload_n hx hb dX1_tellTemperature_11 rfl (lv_at hl 2 rfl) ?_
  refine lv_iload_n hx hb dX1_tellTemperature_12 rfl (lv_at hl 3 rfl) ?_
  refine g_iast X dX1_tellTemperature_13 hBw hS 2 rfl o1 rfl  (fun H locs hBw oq hS => ?_)
  obtain ⟨w2, ew2⟩ : ∃ z : Dt, z = up2 w 2 x1.toNatClampNeg x2 := ⟨_, rfl⟩
  rw [← ew2] at hBw
  have hw := hw w2 ew2
  refine lv_aload_n hx hb dX1_tellTemperature_14 rfl (lv_at hl 1 rfl) ?_
  refine lv_dup hx hb dX1_tellTemperature_15 rfl ?_
  refine g_get X dX1_tellTemperature_16 f_X1_27 hBw 1 (v := .int (w2 1 5)) rfl rfl ?_
  refine lv_iload_n hx hb dX1_tellTemperature_19 rfl (lv_at hl 3 rfl) ?_
  refine lv_iload_n hx hb dX1_tellTemperature_20 rfl (lv_at hl 0 rfl) ?_
  refine lv_isub hx hb dX1_tellTemperature_21 ?_
  refine lv_iadd hx hb dX1_tellTemperature_22 ?_
  refine g_puti X dX1_tellTemperature_23 f_X1_27 hBw hS 1 rfl (x := ((w2 1 5) + (x2 - (w 2 x1.toNatClampNeg)))) rfl rfl rfl (fun H locs hBw oq hS => ?_)
  obtain ⟨w3, ew3⟩ : ∃ z : Dt, z = up2 w2 1 5 ((w2 1 5) + (x2 - (w 2 x1.toNatClampNeg))) := ⟨_, rfl⟩
  rw [← ew3] at hBw
  have hw := hw w3 ew3
  refine lv_iload_n hx hb dX1_tellTemperature_26 rfl (lv_at hl 0 rfl) ?_
  exact e_i X hr dX1_tellTemperature_27 hS ((w 2 x1.toNatClampNeg), w3) rfl hw hBw ⟨Nat.le_of_ble_eq_true rfl, Nat.le_of_ble_eq_true rfl⟩
abbrev rm_X1_tellVapour : Room := { frames := 0, cells := 0, slots := 0, locals := 0 }
def wp_X1_tellVapour (post : Int32 → Dt → Prop) (w : Dt) (x1 : Int32) (x2 : Int32) (x3 : Int32) : Prop := vp_in x1 10 ∧ (vp_in x2 3 ∧ (∀ v3 : Int32, v3 = (w (x1.toNatClampNeg + 22) x2.toNatClampNeg) → (∀ w4 : Dt, w4 = up2 w (x1.toNatClampNeg + 22) x2.toNatClampNeg x3 → (∀ w5 : Dt, w5 = up2 w4 1 7 ((w4 1 7) + (x3 - v3)) → (post v3 w5)))))
set_option maxHeartbeats 4000000 in
set_option maxRecDepth 100000 in
theorem c_X1_tellVapour (l : Launch) (D : va_G) (tc : Nat → ClassId) (h0 : Nat) (sa : Nat → Nat) (x1 : Int32) (x2 : Int32) (x3 : Int32) (H0 : Heap) {ad : Nat → Nat} {A : Nat → Prop} {w : Dt} (hBw : Blk D tc A (shW ad) ad w H0) (hA0 : ∀ q, A q → h0 ≤ q) {post : Int32 → Dt → Prop} (hw : wp_X1_tellVapour post w x1 x2 x3) : MB l yX1_tellVapour cX1_tellVapour 5 (Option.some FieldType.int) rm_X1_tellVapour A [.ref (ad 1), .int x1, .int x2, .int x3] D tc h0 sa H0 (fun u : Int32 × Dt => post u.1 u.2) (fun (u : Int32 × Dt) (H1 : Heap) => Blk D tc A (shW ad) ad u.2 H1) (fun u : Int32 × Dt => some (.int u.1)) := by
  refine MB.of RX1 [(0, .ref (ad 1)), (1, .int x1), (2, .int x2), (3, .int x3)] (by decide +kernel) rfl (Nat.le_of_ble_eq_true rfl) rfl ?_
  intro p e s m below meth c ls X hr hin hT hH hS hl
  subst hH
  have hx := X.1
  have hb := X.2.1
  have hown := X.2.2.2.1
  have hU := X.2.2.2.2.1.1
  unfold wp_X1_tellVapour at hw
  refine lv_aload_n hx hb dX1_tellVapour_0 rfl (lv_at hl 0 rfl) ?_
  refine g_get X dX1_tellVapour_1 f_X1_17 hBw 1 (v := .ref (ad 3)) rfl rfl ?_
  refine lv_iload_n hx hb dX1_tellVapour_4 rfl (lv_at hl 1 rfl) ?_
  obtain ⟨o1, hw⟩ := hw
  refine g_aaldA X dX1_tellVapour_5 hBw 3 rfl o1 (v := .ref (ad (x1.toNatClampNeg + 22))) (rows_at o1) ?_
  refine lv_iload_n hx hb dX1_tellVapour_6 rfl (lv_at hl 2 rfl) ?_
  obtain ⟨o2, hw⟩ := hw
  refine g_iald X dX1_tellVapour_7 hBw (x1.toNatClampNeg + 22) (cw_row22 o1) o2 rfl ?_
  refine lv_topi (fun v3 ev3 => ?_)
  have hw := hw v3 ev3
  refine lv_istore (lv' := [(4, .int v3), (0, .ref (ad 1)), (1, .int x1), (2, .int x2), (3, .int x3)]) hx hb dX1_tellVapour_8 hl (by decide) rfl (fun ls hl => ?_)
  refine lv_aload_n hx hb dX1_tellVapour_10 rfl (lv_at hl 1 rfl) ?_
  refine g_get X dX1_tellVapour_11 f_X1_17 hBw 1 (v := .ref (ad 3)) rfl rfl ?_
  refine lv_iload_n hx hb dX1_tellVapour_14 rfl (lv_at hl 2 rfl) ?_
  refine g_aaldA X dX1_tellVapour_15 hBw 3 rfl o1 (v := .ref (ad (x1.toNatClampNeg + 22))) (rows_at o1) ?_
  refine lv_iload_n hx hb dX1_tellVapour_16 rfl (lv_at hl 3 rfl) ?_
  refine lv_iload_n hx hb dX1_tellVapour_17 rfl (lv_at hl 4 rfl) ?_
  refine g_iast X dX1_tellVapour_18 hBw hS (x1.toNatClampNeg + 22) (cw_row22 o1) o2 rfl  (fun H locs hBw oq hS => ?_)
  obtain ⟨w4, ew4⟩ : ∃ z : Dt, z = up2 w (x1.toNatClampNeg + 22) x2.toNatClampNeg x3 := ⟨_, rfl⟩
  rw [← ew4] at hBw
  have hw := hw w4 ew4
  refine lv_aload_n hx hb dX1_tellVapour_19 rfl (lv_at hl 1 rfl) ?_
  refine lv_dup hx hb dX1_tellVapour_20 rfl ?_
  refine g_get X dX1_tellVapour_21 f_X1_30 hBw 1 (v := .int (w4 1 7)) rfl rfl ?_
  refine lv_iload_n hx hb dX1_tellVapour_24 rfl (lv_at hl 4 rfl) ?_
  refine lv_iload hx hb dX1_tellVapour_25 (lv_at hl 0 rfl) ?_
  refine lv_isub hx hb dX1_tellVapour_27 ?_
  refine lv_iadd hx hb dX1_tellVapour_28 ?_
  refine g_puti X dX1_tellVapour_29 f_X1_30 hBw hS 1 rfl (x := ((w4 1 7) + (x3 - v3))) rfl rfl rfl (fun H locs hBw oq hS => ?_)
  obtain ⟨w5, ew5⟩ : ∃ z : Dt, z = up2 w4 1 7 ((w4 1 7) + (x3 - v3)) := ⟨_, rfl⟩
  rw [← ew5] at hBw
  have hw := hw w5 ew5
  refine lv_iload hx hb dX1_tellVapour_32 (lv_at hl 0 rfl) ?_
  exact e_i X hr dX1_tellVapour_34 hS (v3, w5) rfl hw hBw ⟨Nat.le_of_ble_eq_true rfl, Nat.le_of_ble_eq_true rfl⟩
abbrev rm_X1_iciestLevel : Room := { frames := 0, cells := 0, slots := 0, locals := 0 }
def wp_X1_iciestLevel_40 (post : Int32 → Prop)  (K7 : Int32 → Int32 → Int32 → Int32 → Dt → Prop) (y1 : Int32) (y2 : Int32) (y3 : Int32) (y4 : Int32) (w : Dt) : Prop := K7 y1 y2 y3 (y4 + 1) w
set_option maxHeartbeats 4000000 in
set_option maxRecDepth 100000 in
theorem t_X1_iciestLevel_40 {p : Program} {l : Launch} {e : Env} {s : State} {m : MethodId} {args : Array Value} {below : List Frame} {meth : Method} {c : Code} {D : va_G} {tc : Nat → ClassId} {h0 : Nat} {sa : Nat → Nat}  {ad : Nat → Nat} {A : Nat → Prop} {post : Int32 → Prop} {K7 : Int32 → Int32 → Int32 → Int32 → Dt → Prop} (X : Cx p c s m meth cX1_iciestLevel 5 RX1 D tc) (hr : meth.sig.returnType = (Option.some FieldType.int)) (hT : ST h0 sa s s.heap) (hA0 : ∀ q, (fun _ => False) q → h0 ≤ q)   (hK7 : ∀ (y1 : Int32) (y2 : Int32) (y3 : Int32) (y4 : Int32) (w : Dt) (locs : List Loc) (ls : Array Slot), K7 y1 y2 y3 y4 w → (Blk D tc A (shW ad) ad w s.heap) → va_S (fun _ => False) s.heap s.heap locs → lv_has ls 5 [(0, .ref (ad 1)), (1, .int y1), (2, .int y2), (3, .int y3), (4, .int y4)] → W p l e rm_X1_iciestLevel s m args below meth c s.heap locs 0 0 (MQ below (QB post (fun (_ : Int32) (H1 : Heap) => H1 = s.heap) (fun u : Int32 => some (.int u)) (fun _ => False)) args s rm_X1_iciestLevel.cells rm_X1_iciestLevel.slots (fun _ => False)) (F0 m 7 ls [])) : ∀ (y1 : Int32) (y2 : Int32) (y3 : Int32) (y4 : Int32) (w : Dt) (locs : List Loc) (ls : Array Slot), wp_X1_iciestLevel_40 post  K7 y1 y2 y3 y4 w → (Blk D tc A (shW ad) ad w s.heap) → va_S (fun _ => False) s.heap s.heap locs → lv_has ls 5 [(0, .ref (ad 1)), (1, .int y1), (2, .int y2), (3, .int y3), (4, .int y4)] → W p l e rm_X1_iciestLevel s m args below meth c s.heap locs 0 0 (MQ below (QB post (fun (_ : Int32) (H1 : Heap) => H1 = s.heap) (fun u : Int32 => some (.int u)) (fun _ => False)) args s rm_X1_iciestLevel.cells rm_X1_iciestLevel.slots (fun _ => False)) (F0 m 40 ls []) := by
  have hx := X.1
  have hb := X.2.1
  have hown := X.2.2.2.1
  have hU := X.2.2.2.2.1.1
  intro y1 y2 y3 y4 w  locs ls hw hBw hS hl
  unfold wp_X1_iciestLevel_40 at hw
  refine lv_iinc (lv' := [(4, .int (y4 + 1)), (0, .ref (ad 1)), (1, .int y1), (2, .int y2), (3, .int y3)]) hx hb dX1_iciestLevel_40 hl (k := 4) rfl (by rfl) (by decide) rfl (fun ls hl => ?_)
  refine lv_goto (tgt := 7) hx hb dX1_iciestLevel_43 (by decide) ?_
  exact hK7 _ _ _ _ _ _ _ hw hBw hS (lv_sub hl [1, 2, 3, 4, 0] rfl)
def wp_X1_iciestLevel_7 (post : Int32 → Prop)   : Nat → Int32 → Int32 → Int32 → Int32 → Dt → Prop
  | 0, _, _, _, _, _ => False
  | n9 + 1, y1, y2, y3, y4, w => (10 ≤ y4 → post y2) ∧ (¬ 10 ≤ y4 → vp_in y4 10 ∧ (vp_in y1 3 ∧ (((w (y4.toNatClampNeg + 32) y1.toNatClampNeg) ≤ y3 → wp_X1_iciestLevel_40 post  (fun a0 a1 a2 a3 w => wp_X1_iciestLevel_7 post   n9 a0 a1 a2 a3 w) y1 y2 y3 y4 w) ∧ (¬ (w (y4.toNatClampNeg + 32) y1.toNatClampNeg) ≤ y3 → ∀ v5 : Int32, v5 = (w (y4.toNatClampNeg + 32) y1.toNatClampNeg) → (wp_X1_iciestLevel_40 post  (fun a0 a1 a2 a3 w => wp_X1_iciestLevel_7 post   n9 a0 a1 a2 a3 w) y1 y4 v5 y4 w)))))
set_option maxHeartbeats 4000000 in
set_option maxRecDepth 100000 in
theorem t_X1_iciestLevel_7 {p : Program} {l : Launch} {e : Env} {s : State} {m : MethodId} {args : Array Value} {below : List Frame} {meth : Method} {c : Code} {D : va_G} {tc : Nat → ClassId} {h0 : Nat} {sa : Nat → Nat}  {ad : Nat → Nat} {A : Nat → Prop} {post : Int32 → Prop}  (X : Cx p c s m meth cX1_iciestLevel 5 RX1 D tc) (hr : meth.sig.returnType = (Option.some FieldType.int)) (hT : ST h0 sa s s.heap) (hA0 : ∀ q, (fun _ => False) q → h0 ≤ q)    : ∀ (n9 : Nat) (y1 : Int32) (y2 : Int32) (y3 : Int32) (y4 : Int32) (w : Dt) (locs : List Loc) (ls : Array Slot), wp_X1_iciestLevel_7 post   n9 y1 y2 y3 y4 w → (Blk D tc A (shW ad) ad w s.heap) → va_S (fun _ => False) s.heap s.heap locs → lv_has ls 5 [(0, .ref (ad 1)), (1, .int y1), (2, .int y2), (3, .int y3), (4, .int y4)] → W p l e rm_X1_iciestLevel s m args below meth c s.heap locs 0 0 (MQ below (QB post (fun (_ : Int32) (H1 : Heap) => H1 = s.heap) (fun u : Int32 => some (.int u)) (fun _ => False)) args s rm_X1_iciestLevel.cells rm_X1_iciestLevel.slots (fun _ => False)) (F0 m 7 ls []) := by
  have hx := X.1
  have hb := X.2.1
  have hown := X.2.2.2.1
  have hU := X.2.2.2.2.1.1
  intro n9
  induction n9 with
  | zero =>
    intro y1 y2 y3 y4 w  locs ls hw
    exact hw.elim
  | succ n9 ih =>
    intro y1 y2 y3 y4 w  locs ls hw hBw hS hl
    unfold wp_X1_iciestLevel_7 at hw
    refine lv_iload hx hb dX1_iciestLevel_7 (lv_at hl 4 rfl) ?_
    refine lv_bipush (v := 10) hx hb dX1_iciestLevel_9 (by decide) ?_
    refine lv_icmp_ge (tgt := 46) hx hb dX1_iciestLevel_11 (by decide) (fun c1 => ?_) (fun c1 => ?_)
    · have hw := hw.1 c1
      refine lv_iload_n hx hb dX1_iciestLevel_46 rfl (lv_at hl 2 rfl) ?_
      exact e_i X hr dX1_iciestLevel_47 hS (y2) rfl hw rfl ⟨Nat.le_of_ble_eq_true rfl, Nat.le_of_ble_eq_true rfl⟩
    · have hw := hw.2 c1
      refine lv_aload_n hx hb dX1_iciestLevel_14 rfl (lv_at hl 0 rfl) ?_
      refine g_get X dX1_iciestLevel_15 f_X1_20 hBw 1 (v := .ref (ad 4)) rfl rfl ?_
      refine lv_iload hx hb dX1_iciestLevel_18 (lv_at hl 4 rfl) ?_
      obtain ⟨o2, hw⟩ := hw
      refine g_aaldA X dX1_iciestLevel_20 hBw 4 rfl o2 (v := .ref (ad (y4.toNatClampNeg + 32))) (rows_at o2) ?_
      refine lv_iload_n hx hb dX1_iciestLevel_21 rfl (lv_at hl 1 rfl) ?_
      obtain ⟨o3, hw⟩ := hw
      refine g_iald X dX1_iciestLevel_22 hBw (y4.toNatClampNeg + 32) (cw_row32 o2) o3 rfl ?_
      refine lv_iload_n hx hb dX1_iciestLevel_23 rfl (lv_at hl 3 rfl) ?_
      refine lv_icmp_le (tgt := 40) hx hb dX1_iciestLevel_24 (by decide) (fun c4 => ?_) (fun c4 => ?_)
      · have hw := hw.1 c4
        exact t_X1_iciestLevel_40 X hr hT hA0  ih _ _ _ _ _ _ _ hw hBw hS (lv_sub hl [0, 1, 2, 3, 4] rfl)
      · have hw := hw.2 c4
        refine lv_aload_n hx hb dX1_iciestLevel_27 rfl (lv_at hl 0 rfl) ?_
        refine g_get X dX1_iciestLevel_28 f_X1_20 hBw 1 (v := .ref (ad 4)) rfl rfl ?_
        refine lv_iload hx hb dX1_iciestLevel_31 (lv_at hl 4 rfl) ?_
        refine g_aaldA X dX1_iciestLevel_33 hBw 4 rfl o2 (v := .ref (ad (y4.toNatClampNeg + 32))) (rows_at o2) ?_
        refine lv_iload_n hx hb dX1_iciestLevel_34 rfl (lv_at hl 1 rfl) ?_
        refine g_iald X dX1_iciestLevel_35 hBw (y4.toNatClampNeg + 32) (cw_row32 o2) o3 rfl ?_
        refine lv_topi (fun v5 ev5 => ?_)
        have hw := hw v5 ev5
        refine lv_istore_n (lv' := [(3, .int v5), (0, .ref (ad 1)), (1, .int y1), (2, .int y2), (4, .int y4)]) hx hb dX1_iciestLevel_36 rfl hl (by decide) rfl (fun ls hl => ?_)
        refine lv_iload hx hb dX1_iciestLevel_37 (lv_at hl 4 rfl) ?_
        refine lv_istore_n (lv' := [(2, .int y4), (3, .int v5), (0, .ref (ad 1)), (1, .int y1), (4, .int y4)]) hx hb dX1_iciestLevel_39 rfl hl (by decide) rfl (fun ls hl => ?_)
        exact t_X1_iciestLevel_40 X hr hT hA0  ih _ _ _ _ _ _ _ hw hBw hS (lv_sub hl [2, 3, 0, 1, 4] rfl)
def wp_X1_iciestLevel (post : Int32 → Prop) (w : Dt) (x1 : Int32) : Prop := ∃ k9 : Nat, wp_X1_iciestLevel_7 post   k9 x1 (-1) 0 0 w
set_option maxHeartbeats 4000000 in
set_option maxRecDepth 100000 in
theorem c_X1_iciestLevel (l : Launch) (D : va_G) (tc : Nat → ClassId) (h0 : Nat) (sa : Nat → Nat) (x1 : Int32) (H0 : Heap) {ad : Nat → Nat} {A : Nat → Prop} {w : Dt} (hBw : Blk D tc A (shW ad) ad w H0)  {post : Int32 → Prop} (hw : wp_X1_iciestLevel post w x1) : MB l yX1_iciestLevel cX1_iciestLevel 5 (Option.some FieldType.int) rm_X1_iciestLevel (fun _ => False) [.ref (ad 1), .int x1] D tc h0 sa H0 post (fun (_ : Int32) (H1 : Heap) => H1 = H0) (fun u : Int32 => some (.int u)) := by
  have hA0 : ∀ q : Nat, (fun _ : Nat => False) q → h0 ≤ q := fun _ h => h.elim
  refine MB.of RX1 [(0, .ref (ad 1)), (1, .int x1)] (by decide +kernel) rfl (Nat.le_of_ble_eq_true rfl) rfl ?_
  intro p e s m below meth c ls X hr hin hT hH hS hl
  subst hH
  have hx := X.1
  have hb := X.2.1
  have hown := X.2.2.2.1
  have hU := X.2.2.2.2.1.1
  unfold wp_X1_iciestLevel at hw
  refine lv_iconst (v := (-1)) hx hb dX1_iciestLevel_0 (by decide) ?_
  refine lv_istore_n (lv' := [(2, .int (-1)), (0, .ref (ad 1)), (1, .int x1)]) hx hb dX1_iciestLevel_1 rfl hl (by decide) rfl (fun ls hl => ?_)
  refine lv_iconst (v := 0) hx hb dX1_iciestLevel_2 (by decide) ?_
  refine lv_istore_n (lv' := [(3, .int 0), (2, .int (-1)), (0, .ref (ad 1)), (1, .int x1)]) hx hb dX1_iciestLevel_3 rfl hl (by decide) rfl (fun ls hl => ?_)
  refine lv_iconst (v := 0) hx hb dX1_iciestLevel_4 (by decide) ?_
  refine lv_istore (lv' := [(4, .int 0), (3, .int 0), (2, .int (-1)), (0, .ref (ad 1)), (1, .int x1)]) hx hb dX1_iciestLevel_5 hl (by decide) rfl (fun ls hl => ?_)
  obtain ⟨k9, hw⟩ := hw
  exact t_X1_iciestLevel_7 X hr hT hA0   k9 _ _ _ _ _ _ _ hw hBw hS (lv_sub hl [3, 4, 2, 1, 0] rfl)
abbrev rm_X1_freezeOrThaw : Room := { frames := 1, cells := 0, slots := 0, locals := 21 }
def wp_X1_freezeOrThaw_68 (post : Dt → Prop)  (K2 : Int32 → Int32 → Dt → Prop) (y1 : Int32) (y2 : Int32) (y5 : Int32) (w : Dt) : Prop := vp_in y1 10 ∧ (vp_in y2 3 ∧ (∀ w10 : Dt, w10 = up2 w (y1.toNatClampNeg + 22) y2.toNatClampNeg ((w (y1.toNatClampNeg + 22) y2.toNatClampNeg) - y5) → (∀ w11 : Dt, w11 = up2 w10 (y1.toNatClampNeg + 32) y2.toNatClampNeg ((w10 (y1.toNatClampNeg + 32) y2.toNatClampNeg) + y5) → (K2 y1 (y2 + 1) w11))))
set_option maxHeartbeats 4000000 in
set_option maxRecDepth 100000 in
theorem t_X1_freezeOrThaw_68 {p : Program} {l : Launch} {e : Env} {s : State} {m : MethodId} {args : Array Value} {below : List Frame} {meth : Method} {c : Code} {D : va_G} {tc : Nat → ClassId} {h0 : Nat} {sa : Nat → Nat}  {ad : Nat → Nat} {A : Nat → Prop} {post : Dt → Prop} {K2 : Int32 → Int32 → Dt → Prop} (X : Cx p c s m meth cX1_freezeOrThaw 6 RX1 D tc) (hr : meth.sig.returnType = (Option.none : Option FieldType)) (hT : ST h0 sa s s.heap) (hA0 : ∀ q, A q → h0 ≤ q)   (hK2 : ∀ (y1 : Int32) (y2 : Int32) (w : Dt) (H : Heap) (locs : List Loc) (ls : Array Slot), K2 y1 y2 w → (Blk D tc A (shW ad) ad w H) → va_S A s.heap H locs → lv_has ls 6 [(0, .ref (ad 1)), (1, .int y1), (2, .int y2)] → W p l e rm_X1_freezeOrThaw s m args below meth c H locs 0 0 (MQ below (QB post (fun (u : Dt) (H1 : Heap) => Blk D tc A (shW ad) ad u H1) (fun _ : Dt => none) A) args s rm_X1_freezeOrThaw.cells rm_X1_freezeOrThaw.slots A) (F0 m 2 ls [])) : ∀ (y1 : Int32) (y2 : Int32) (y5 : Int32) (w : Dt) (H : Heap) (locs : List Loc) (ls : Array Slot), wp_X1_freezeOrThaw_68 post  K2 y1 y2 y5 w → (Blk D tc A (shW ad) ad w H) → va_S A s.heap H locs → lv_has ls 6 [(0, .ref (ad 1)), (1, .int y1), (2, .int y2), (5, .int y5)] → W p l e rm_X1_freezeOrThaw s m args below meth c H locs 0 0 (MQ below (QB post (fun (u : Dt) (H1 : Heap) => Blk D tc A (shW ad) ad u H1) (fun _ : Dt => none) A) args s rm_X1_freezeOrThaw.cells rm_X1_freezeOrThaw.slots A) (F0 m 68 ls []) := by
  have hx := X.1
  have hb := X.2.1
  have hown := X.2.2.2.1
  have hU := X.2.2.2.2.1.1
  intro y1 y2 y5 w H locs ls hw hBw hS hl
  unfold wp_X1_freezeOrThaw_68 at hw
  refine lv_aload_n hx hb dX1_freezeOrThaw_68 rfl (lv_at hl 0 rfl) ?_
  refine g_get X dX1_freezeOrThaw_69 f_X1_17 hBw 1 (v := .ref (ad 3)) rfl rfl ?_
  refine lv_iload_n hx hb dX1_freezeOrThaw_72 rfl (lv_at hl 1 rfl) ?_
  obtain ⟨o8, hw⟩ := hw
  refine g_aaldA X dX1_freezeOrThaw_73 hBw 3 rfl o8 (v := .ref (ad (y1.toNatClampNeg + 22))) (rows_at o8) ?_
  refine lv_iload_n hx hb dX1_freezeOrThaw_74 rfl (lv_at hl 2 rfl) ?_
  refine lv_dup2_11 hx hb dX1_freezeOrThaw_75 rfl rfl ?_
  obtain ⟨o9, hw⟩ := hw
  refine g_iald X dX1_freezeOrThaw_76 hBw (y1.toNatClampNeg + 22) (cw_row22 o8) o9 rfl ?_
  refine lv_iload hx hb dX1_freezeOrThaw_77 (lv_at hl 3 rfl) ?_
  refine lv_isub hx hb dX1_freezeOrThaw_79 ?_
  refine g_iast X dX1_freezeOrThaw_80 hBw hS (y1.toNatClampNeg + 22) (cw_row22 o8) o9 rfl  (fun H locs hBw oq hS => ?_)
  obtain ⟨w10, ew10⟩ : ∃ z : Dt, z = up2 w (y1.toNatClampNeg + 22) y2.toNatClampNeg ((w (y1.toNatClampNeg + 22) y2.toNatClampNeg) - y5) := ⟨_, rfl⟩
  rw [← ew10] at hBw
  have hw := hw w10 ew10
  refine lv_aload_n hx hb dX1_freezeOrThaw_81 rfl (lv_at hl 0 rfl) ?_
  refine g_get X dX1_freezeOrThaw_82 f_X1_20 hBw 1 (v := .ref (ad 4)) rfl rfl ?_
  refine lv_iload_n hx hb dX1_freezeOrThaw_85 rfl (lv_at hl 1 rfl) ?_
  refine g_aaldA X dX1_freezeOrThaw_86 hBw 4 rfl o8 (v := .ref (ad (y1.toNatClampNeg + 32))) (rows_at o8) ?_
  refine lv_iload_n hx hb dX1_freezeOrThaw_87 rfl (lv_at hl 2 rfl) ?_
  refine lv_dup2_11 hx hb dX1_freezeOrThaw_88 rfl rfl ?_
  refine g_iald X dX1_freezeOrThaw_89 hBw (y1.toNatClampNeg + 32) (cw_row32 o8) o9 rfl ?_
  refine lv_iload hx hb dX1_freezeOrThaw_90 (lv_at hl 3 rfl) ?_
  refine lv_iadd hx hb dX1_freezeOrThaw_92 ?_
  refine g_iast X dX1_freezeOrThaw_93 hBw hS (y1.toNatClampNeg + 32) (cw_row32 o8) o9 rfl  (fun H locs hBw oq hS => ?_)
  obtain ⟨w11, ew11⟩ : ∃ z : Dt, z = up2 w10 (y1.toNatClampNeg + 32) y2.toNatClampNeg ((w10 (y1.toNatClampNeg + 32) y2.toNatClampNeg) + y5) := ⟨_, rfl⟩
  rw [← ew11] at hBw
  have hw := hw w11 ew11
  refine lv_iinc (lv' := [(2, .int (y2 + 1)), (0, .ref (ad 1)), (1, .int y1), (5, .int y5)]) hx hb dX1_freezeOrThaw_94 hl (k := 2) rfl (by rfl) (by decide) rfl (fun ls hl => ?_)
  refine lv_goto (tgt := 2) hx hb dX1_freezeOrThaw_97 (by decide) ?_
  exact hK2 _ _ _ _ _ _ hw hBw hS (lv_sub hl [1, 2, 0] rfl)
def wp_X1_freezeOrThaw_2 (post : Dt → Prop)   : Nat → Int32 → Int32 → Dt → Prop
  | 0, _, _, _ => False
  | n9 + 1, y1, y2, w => (3 ≤ y2 → post w) ∧ (¬ 3 ≤ y2 → vp_in y1 10 ∧ (vp_in y2 3 ∧ (∀ v4 : Int32, v4 = (if 0 < ((w 2 y1.toNatClampNeg) - (fFre y2.toNatClampNeg)) then ((w 2 y1.toNatClampNeg) - (fFre y2.toNatClampNeg)) else 0) → (∀ v5 : Int32, v5 = ((fHel y2.toNatClampNeg) * v4) → (∀ v6 : Int32, v6 = ((w (y1.toNatClampNeg + 22) y2.toNatClampNeg) - v5) → ((0 ≤ v6 → wp_X1_freezeOrThaw_68 post  (fun a0 a1 w => wp_X1_freezeOrThaw_2 post   n9 a0 a1 w) y1 y2 v6 w) ∧ (¬ 0 ≤ v6 → ∀ v12 : Int32, v12 = (-(if (w (y1.toNatClampNeg + 32) y2.toNatClampNeg) < (-v6) then (w (y1.toNatClampNeg + 32) y2.toNatClampNeg) else (-v6))) → (wp_X1_freezeOrThaw_68 post  (fun a0 a1 w => wp_X1_freezeOrThaw_2 post   n9 a0 a1 w) y1 y2 v12 w))))))))
set_option maxHeartbeats 4000000 in
set_option maxRecDepth 100000 in
theorem t_X1_freezeOrThaw_2 {p : Program} {l : Launch} {e : Env} {s : State} {m : MethodId} {args : Array Value} {below : List Frame} {meth : Method} {c : Code} {D : va_G} {tc : Nat → ClassId} {h0 : Nat} {sa : Nat → Nat}  {ad : Nat → Nat} {A : Nat → Prop} {post : Dt → Prop}  (X : Cx p c s m meth cX1_freezeOrThaw 6 RX1 D tc) (hr : meth.sig.returnType = (Option.none : Option FieldType)) (hT : ST h0 sa s s.heap) (hA0 : ∀ q, A q → h0 ≤ q)    : ∀ (n9 : Nat) (y1 : Int32) (y2 : Int32) (w : Dt) (H : Heap) (locs : List Loc) (ls : Array Slot), wp_X1_freezeOrThaw_2 post   n9 y1 y2 w → (Blk D tc A (shW ad) ad w H) → va_S A s.heap H locs → lv_has ls 6 [(0, .ref (ad 1)), (1, .int y1), (2, .int y2)] → W p l e rm_X1_freezeOrThaw s m args below meth c H locs 0 0 (MQ below (QB post (fun (u : Dt) (H1 : Heap) => Blk D tc A (shW ad) ad u H1) (fun _ : Dt => none) A) args s rm_X1_freezeOrThaw.cells rm_X1_freezeOrThaw.slots A) (F0 m 2 ls []) := by
  have hx := X.1
  have hb := X.2.1
  have hown := X.2.2.2.1
  have hU := X.2.2.2.2.1.1
  intro n9
  induction n9 with
  | zero =>
    intro y1 y2 w H locs ls hw
    exact hw.elim
  | succ n9 ih =>
    intro y1 y2 w H locs ls hw hBw hS hl
    unfold wp_X1_freezeOrThaw_2 at hw
    refine lv_iload_n hx hb dX1_freezeOrThaw_2 rfl (lv_at hl 2 rfl) ?_
    refine lv_iconst (v := 3) hx hb dX1_freezeOrThaw_3 (by decide) ?_
    refine lv_icmp_ge (tgt := 100) hx hb dX1_freezeOrThaw_4 (by decide) (fun c1 => ?_) (fun c1 => ?_)
    · have hw := hw.1 c1
      exact e_v X hr dX1_freezeOrThaw_100 hS (w) rfl hw hBw ⟨Nat.le_of_ble_eq_true rfl, Nat.le_of_ble_eq_true rfl⟩
    · have hw := hw.2 c1
      refine lv_iconst (v := 0) hx hb dX1_freezeOrThaw_7 (by decide) ?_
      refine lv_aload_n hx hb dX1_freezeOrThaw_8 rfl (lv_at hl 0 rfl) ?_
      refine g_get X dX1_freezeOrThaw_9 f_X1_9 hBw 1 (v := .ref (ad 2)) rfl rfl ?_
      refine lv_iload_n hx hb dX1_freezeOrThaw_12 rfl (lv_at hl 1 rfl) ?_
      obtain ⟨o2, hw⟩ := hw
      refine g_iald X dX1_freezeOrThaw_13 hBw 2 rfl o2 rfl ?_
      refine g_gets X dX1_freezeOrThaw_14 w_822 hT.2.2.2.2.1 hS hA0 ?_
      refine lv_iload_n hx hb dX1_freezeOrThaw_17 rfl (lv_at hl 2 rfl) ?_
      obtain ⟨o3, hw⟩ := hw
      refine g_sald X dX1_freezeOrThaw_18 hT.2.2.2.2.2.1 hS hA0 o3 rfl ?_
      refine lv_isub hx hb dX1_freezeOrThaw_19 ?_
      refine g_max X hl.1 dX1_freezeOrThaw_20 w_824 w_604 w_21 w_605 ⟨Nat.le_of_ble_eq_true rfl, Nat.le_of_ble_eq_true rfl, Nat.le_of_ble_eq_true rfl, Nat.le_of_ble_eq_true rfl⟩ ?_
      refine lv_topi (fun v4 ev4 => ?_)
      have hw := hw v4 ev4
      refine lv_istore_n (lv' := [(3, .int v4), (0, .ref (ad 1)), (1, .int y1), (2, .int y2)]) hx hb dX1_freezeOrThaw_23 rfl hl (by decide) rfl (fun ls hl => ?_)
      refine g_gets X dX1_freezeOrThaw_24 w_825 hT.2.2.1 hS hA0 ?_
      refine lv_iload_n hx hb dX1_freezeOrThaw_27 rfl (lv_at hl 3 rfl) ?_
      refine g_sald X dX1_freezeOrThaw_28 hT.2.2.2.1 hS hA0 o3 rfl ?_
      refine lv_iload_n hx hb dX1_freezeOrThaw_29 rfl (lv_at hl 0 rfl) ?_
      refine lv_imul hx hb dX1_freezeOrThaw_30 ?_
      refine lv_topi (fun v5 ev5 => ?_)
      have hw := hw v5 ev5
      refine lv_istore (lv' := [(4, .int v5), (3, .int v4), (0, .ref (ad 1)), (1, .int y1), (2, .int y2)]) hx hb dX1_freezeOrThaw_31 hl (by decide) rfl (fun ls hl => ?_)
      refine lv_aload_n hx hb dX1_freezeOrThaw_33 rfl (lv_at hl 2 rfl) ?_
      refine g_get X dX1_freezeOrThaw_34 f_X1_17 hBw 1 (v := .ref (ad 3)) rfl rfl ?_
      refine lv_iload_n hx hb dX1_freezeOrThaw_37 rfl (lv_at hl 3 rfl) ?_
      refine g_aaldA X dX1_freezeOrThaw_38 hBw 3 rfl o2 (v := .ref (ad (y1.toNatClampNeg + 22))) (rows_at o2) ?_
      refine lv_iload_n hx hb dX1_freezeOrThaw_39 rfl (lv_at hl 4 rfl) ?_
      refine g_iald X dX1_freezeOrThaw_40 hBw (y1.toNatClampNeg + 22) (cw_row22 o2) o3 rfl ?_
      refine lv_iload hx hb dX1_freezeOrThaw_41 (lv_at hl 0 rfl) ?_
      refine lv_isub hx hb dX1_freezeOrThaw_43 ?_
      refine lv_topi (fun v6 ev6 => ?_)
      have hw := hw v6 ev6
      refine lv_istore (lv' := [(5, .int v6), (4, .int v5), (3, .int v4), (0, .ref (ad 1)), (1, .int y1), (2, .int y2)]) hx hb dX1_freezeOrThaw_44 hl (by decide) rfl (fun ls hl => ?_)
      refine lv_iload hx hb dX1_freezeOrThaw_46 (lv_at hl 0 rfl) ?_
      refine lv_if_ge (tgt := 68) hx hb dX1_freezeOrThaw_48 (by decide) (fun c7 => ?_) (fun c7 => ?_)
      · have hw := hw.1 c7
        exact t_X1_freezeOrThaw_68 X hr hT hA0  ih _ _ _ _ _ _ _ hw hBw hS (lv_sub hl [3, 4, 5, 0] rfl)
      · have hw := hw.2 c7
        refine lv_iload hx hb dX1_freezeOrThaw_51 (lv_at hl 0 rfl) ?_
        refine lv_ineg hx hb dX1_freezeOrThaw_53 ?_
        refine lv_aload_n hx hb dX1_freezeOrThaw_54 rfl (lv_at hl 3 rfl) ?_
        refine g_get X dX1_freezeOrThaw_55 f_X1_20 hBw 1 (v := .ref (ad 4)) rfl rfl ?_
        refine lv_iload_n hx hb dX1_freezeOrThaw_58 rfl (lv_at hl 4 rfl) ?_
        refine g_aaldA X dX1_freezeOrThaw_59 hBw 4 rfl o2 (v := .ref (ad (y1.toNatClampNeg + 32))) (rows_at o2) ?_
        refine lv_iload_n hx hb dX1_freezeOrThaw_60 rfl (lv_at hl 5 rfl) ?_
        refine g_iald X dX1_freezeOrThaw_61 hBw (y1.toNatClampNeg + 32) (cw_row32 o2) o3 rfl ?_
        refine g_min X hl.1 dX1_freezeOrThaw_62 w_827 w_607 w_21 w_608 ⟨Nat.le_of_ble_eq_true rfl, Nat.le_of_ble_eq_true rfl, Nat.le_of_ble_eq_true rfl, Nat.le_of_ble_eq_true rfl⟩ ?_
        refine lv_ineg hx hb dX1_freezeOrThaw_65 ?_
        refine lv_topi (fun v12 ev12 => ?_)
        have hw := hw v12 ev12
        refine lv_istore (lv' := [(5, .int v12), (4, .int v5), (3, .int v4), (0, .ref (ad 1)), (1, .int y1), (2, .int y2)]) hx hb dX1_freezeOrThaw_66 hl (by decide) rfl (fun ls hl => ?_)
        exact t_X1_freezeOrThaw_68 X hr hT hA0  ih _ _ _ _ _ _ _ hw hBw hS (lv_sub hl [3, 4, 5, 0] rfl)
def wp_X1_freezeOrThaw (post : Dt → Prop) (w : Dt) (x1 : Int32) : Prop := ∃ k9 : Nat, wp_X1_freezeOrThaw_2 post   k9 x1 0 w
set_option maxHeartbeats 4000000 in
set_option maxRecDepth 100000 in
theorem c_X1_freezeOrThaw (l : Launch) (D : va_G) (tc : Nat → ClassId) (h0 : Nat) (sa : Nat → Nat) (x1 : Int32) (H0 : Heap) {ad : Nat → Nat} {A : Nat → Prop} {w : Dt} (hBw : Blk D tc A (shW ad) ad w H0) (hA0 : ∀ q, A q → h0 ≤ q) {post : Dt → Prop} (hw : wp_X1_freezeOrThaw post w x1) : MB l yX1_freezeOrThaw cX1_freezeOrThaw 6 (Option.none : Option FieldType) rm_X1_freezeOrThaw A [.ref (ad 1), .int x1] D tc h0 sa H0 post (fun (u : Dt) (H1 : Heap) => Blk D tc A (shW ad) ad u H1) (fun _ : Dt => none) := by
  refine MB.of RX1 [(0, .ref (ad 1)), (1, .int x1)] (by decide +kernel) rfl (Nat.le_of_ble_eq_true rfl) rfl ?_
  intro p e s m below meth c ls X hr hin hT hH hS hl
  subst hH
  have hx := X.1
  have hb := X.2.1
  have hown := X.2.2.2.1
  have hU := X.2.2.2.2.1.1
  unfold wp_X1_freezeOrThaw at hw
  refine lv_iconst (v := 0) hx hb dX1_freezeOrThaw_0 (by decide) ?_
  refine lv_istore_n (lv' := [(2, .int 0), (0, .ref (ad 1)), (1, .int x1)]) hx hb dX1_freezeOrThaw_1 rfl hl (by decide) rfl (fun ls hl => ?_)
  obtain ⟨k9, hw⟩ := hw
  exact t_X1_freezeOrThaw_2 X hr hT hA0   k9 _ _ _ _ _ _ hw hBw hS (lv_sub hl [1, 2, 0] rfl)
abbrev rm_X1_dropIce : Room := { frames := 0, cells := 0, slots := 0, locals := 0 }
def wp_X1_dropIce_2 (post : Dt → Prop)   : Nat → Int32 → Int32 → Dt → Prop
  | 0, _, _, _ => False
  | n9 + 1, y1, y2, w => (3 ≤ y2 → post w) ∧ (¬ 3 ≤ y2 → vp_in y1 10 ∧ (vp_in y2 3 ∧ (∀ v4 : Int32, v4 = (((w (y1.toNatClampNeg + 32) y2.toNatClampNeg) + 1) / 2) → (∀ w5 : Dt, w5 = up2 w (y1.toNatClampNeg + 32) y2.toNatClampNeg ((w (y1.toNatClampNeg + 32) y2.toNatClampNeg) - v4) → (vp_in (y1 + 1) 10 ∧ (∀ w7 : Dt, w7 = up2 w5 ((y1 + 1).toNatClampNeg + 32) y2.toNatClampNeg ((w5 ((y1 + 1).toNatClampNeg + 32) y2.toNatClampNeg) + v4) → (wp_X1_dropIce_2 post   n9 y1 (y2 + 1) w7)))))))
set_option maxHeartbeats 4000000 in
set_option maxRecDepth 100000 in
theorem t_X1_dropIce_2 {p : Program} {l : Launch} {e : Env} {s : State} {m : MethodId} {args : Array Value} {below : List Frame} {meth : Method} {c : Code} {D : va_G} {tc : Nat → ClassId} {h0 : Nat} {sa : Nat → Nat}  {ad : Nat → Nat} {A : Nat → Prop} {post : Dt → Prop}  (X : Cx p c s m meth cX1_dropIce 4 RX1 D tc) (hr : meth.sig.returnType = (Option.none : Option FieldType)) (hT : ST h0 sa s s.heap) (hA0 : ∀ q, A q → h0 ≤ q)    : ∀ (n9 : Nat) (y1 : Int32) (y2 : Int32) (w : Dt) (H : Heap) (locs : List Loc) (ls : Array Slot), wp_X1_dropIce_2 post   n9 y1 y2 w → (Blk D tc A (shW ad) ad w H) → va_S A s.heap H locs → lv_has ls 4 [(0, .ref (ad 1)), (1, .int y1), (2, .int y2)] → W p l e rm_X1_dropIce s m args below meth c H locs 0 0 (MQ below (QB post (fun (u : Dt) (H1 : Heap) => Blk D tc A (shW ad) ad u H1) (fun _ : Dt => none) A) args s rm_X1_dropIce.cells rm_X1_dropIce.slots A) (F0 m 2 ls []) := by
  have hx := X.1
  have hb := X.2.1
  have hown := X.2.2.2.1
  have hU := X.2.2.2.2.1.1
  intro n9
  induction n9 with
  | zero =>
    intro y1 y2 w H locs ls hw
    exact hw.elim
  | succ n9 ih =>
    intro y1 y2 w H locs ls hw hBw hS hl
    unfold wp_X1_dropIce_2 at hw
    refine lv_iload_n hx hb dX1_dropIce_2 rfl (lv_at hl 2 rfl) ?_
    refine lv_iconst (v := 3) hx hb dX1_dropIce_3 (by decide) ?_
    refine lv_icmp_ge (tgt := 52) hx hb dX1_dropIce_4 (by decide) (fun c1 => ?_) (fun c1 => ?_)
    · have hw := hw.1 c1
      exact e_v X hr dX1_dropIce_52 hS (w) rfl hw hBw ⟨Nat.le_of_ble_eq_true rfl, Nat.le_of_ble_eq_true rfl⟩
    · have hw := hw.2 c1
      refine lv_aload_n hx hb dX1_dropIce_7 rfl (lv_at hl 0 rfl) ?_
      refine g_get X dX1_dropIce_8 f_X1_20 hBw 1 (v := .ref (ad 4)) rfl rfl ?_
      refine lv_iload_n hx hb dX1_dropIce_11 rfl (lv_at hl 1 rfl) ?_
      obtain ⟨o2, hw⟩ := hw
      refine g_aaldA X dX1_dropIce_12 hBw 4 rfl o2 (v := .ref (ad (y1.toNatClampNeg + 32))) (rows_at o2) ?_
      refine lv_iload_n hx hb dX1_dropIce_13 rfl (lv_at hl 2 rfl) ?_
      obtain ⟨o3, hw⟩ := hw
      refine g_iald X dX1_dropIce_14 hBw (y1.toNatClampNeg + 32) (cw_row32 o2) o3 rfl ?_
      refine lv_iconst (v := 1) hx hb dX1_dropIce_15 (by decide) ?_
      refine lv_iadd hx hb dX1_dropIce_16 ?_
      refine lv_iconst (v := 2) hx hb dX1_dropIce_17 (by decide) ?_
      refine lv_idiv hx hb dX1_dropIce_18 (by decide) ?_
      refine lv_topi (fun v4 ev4 => ?_)
      have hw := hw v4 ev4
      refine lv_istore_n (lv' := [(3, .int v4), (0, .ref (ad 1)), (1, .int y1), (2, .int y2)]) hx hb dX1_dropIce_19 rfl hl (by decide) rfl (fun ls hl => ?_)
      refine lv_aload_n hx hb dX1_dropIce_20 rfl (lv_at hl 1 rfl) ?_
      refine g_get X dX1_dropIce_21 f_X1_20 hBw 1 (v := .ref (ad 4)) rfl rfl ?_
      refine lv_iload_n hx hb dX1_dropIce_24 rfl (lv_at hl 2 rfl) ?_
      refine g_aaldA X dX1_dropIce_25 hBw 4 rfl o2 (v := .ref (ad (y1.toNatClampNeg + 32))) (rows_at o2) ?_
      refine lv_iload_n hx hb dX1_dropIce_26 rfl (lv_at hl 3 rfl) ?_
      refine lv_dup2_11 hx hb dX1_dropIce_27 rfl rfl ?_
      refine g_iald X dX1_dropIce_28 hBw (y1.toNatClampNeg + 32) (cw_row32 o2) o3 rfl ?_
      refine lv_iload_n hx hb dX1_dropIce_29 rfl (lv_at hl 0 rfl) ?_
      refine lv_isub hx hb dX1_dropIce_30 ?_
      refine g_iast X dX1_dropIce_31 hBw hS (y1.toNatClampNeg + 32) (cw_row32 o2) o3 rfl  (fun H locs hBw oq hS => ?_)
      obtain ⟨w5, ew5⟩ : ∃ z : Dt, z = up2 w (y1.toNatClampNeg + 32) y2.toNatClampNeg ((w (y1.toNatClampNeg + 32) y2.toNatClampNeg) - v4) := ⟨_, rfl⟩
      rw [← ew5] at hBw
      have hw := hw w5 ew5
      refine lv_aload_n hx hb dX1_dropIce_32 rfl (lv_at hl 1 rfl) ?_
      refine g_get X dX1_dropIce_33 f_X1_20 hBw 1 (v := .ref (ad 4)) rfl rfl ?_
      refine lv_iload_n hx hb dX1_dropIce_36 rfl (lv_at hl 2 rfl) ?_
      refine lv_iconst (v := 1) hx hb dX1_dropIce_37 (by decide) ?_
      refine lv_iadd hx hb dX1_dropIce_38 ?_
      obtain ⟨o6, hw⟩ := hw
      refine g_aaldA X dX1_dropIce_39 hBw 4 rfl o6 (v := .ref (ad ((y1 + 1).toNatClampNeg + 32))) (rows_at o6) ?_
      refine lv_iload_n hx hb dX1_dropIce_40 rfl (lv_at hl 3 rfl) ?_
      refine lv_dup2_11 hx hb dX1_dropIce_41 rfl rfl ?_
      refine g_iald X dX1_dropIce_42 hBw ((y1 + 1).toNatClampNeg + 32) (cw_row32 o6) o3 rfl ?_
      refine lv_iload_n hx hb dX1_dropIce_43 rfl (lv_at hl 0 rfl) ?_
      refine lv_iadd hx hb dX1_dropIce_44 ?_
      refine g_iast X dX1_dropIce_45 hBw hS ((y1 + 1).toNatClampNeg + 32) (cw_row32 o6) o3 rfl  (fun H locs hBw oq hS => ?_)
      obtain ⟨w7, ew7⟩ : ∃ z : Dt, z = up2 w5 ((y1 + 1).toNatClampNeg + 32) y2.toNatClampNeg ((w5 ((y1 + 1).toNatClampNeg + 32) y2.toNatClampNeg) + v4) := ⟨_, rfl⟩
      rw [← ew7] at hBw
      have hw := hw w7 ew7
      refine lv_iinc (lv' := [(2, .int (y2 + 1)), (3, .int v4), (0, .ref (ad 1)), (1, .int y1)]) hx hb dX1_dropIce_46 hl (k := 3) rfl (by rfl) (by decide) rfl (fun ls hl => ?_)
      refine lv_goto (tgt := 2) hx hb dX1_dropIce_49 (by decide) ?_
      exact ih _ _ _ _ _ _ hw hBw hS (lv_sub hl [2, 3, 0] rfl)
def wp_X1_dropIce (post : Dt → Prop) (w : Dt) (x1 : Int32) : Prop := ∃ k9 : Nat, wp_X1_dropIce_2 post   k9 x1 0 w
set_option maxHeartbeats 4000000 in
set_option maxRecDepth 100000 in
theorem c_X1_dropIce (l : Launch) (D : va_G) (tc : Nat → ClassId) (h0 : Nat) (sa : Nat → Nat) (x1 : Int32) (H0 : Heap) {ad : Nat → Nat} {A : Nat → Prop} {w : Dt} (hBw : Blk D tc A (shW ad) ad w H0) (hA0 : ∀ q, A q → h0 ≤ q) {post : Dt → Prop} (hw : wp_X1_dropIce post w x1) : MB l yX1_dropIce cX1_dropIce 4 (Option.none : Option FieldType) rm_X1_dropIce A [.ref (ad 1), .int x1] D tc h0 sa H0 post (fun (u : Dt) (H1 : Heap) => Blk D tc A (shW ad) ad u H1) (fun _ : Dt => none) := by
  refine MB.of RX1 [(0, .ref (ad 1)), (1, .int x1)] (by decide +kernel) rfl (Nat.le_of_ble_eq_true rfl) rfl ?_
  intro p e s m below meth c ls X hr hin hT hH hS hl
  subst hH
  have hx := X.1
  have hb := X.2.1
  have hown := X.2.2.2.1
  have hU := X.2.2.2.2.1.1
  unfold wp_X1_dropIce at hw
  refine lv_iconst (v := 0) hx hb dX1_dropIce_0 (by decide) ?_
  refine lv_istore_n (lv' := [(2, .int 0), (0, .ref (ad 1)), (1, .int x1)]) hx hb dX1_dropIce_1 rfl hl (by decide) rfl (fun ls hl => ?_)
  obtain ⟨k9, hw⟩ := hw
  exact t_X1_dropIce_2 X hr hT hA0   k9 _ _ _ _ _ _ hw hBw hS (lv_sub hl [1, 2, 0] rfl)
abbrev rm_X1_iceIn : Room := { frames := 0, cells := 0, slots := 0, locals := 0 }
def wp_X1_iceIn_4 (post : Int32 → Prop)   : Nat → Int32 → Int32 → Int32 → Dt → Prop
  | 0, _, _, _, _ => False
  | n9 + 1, y1, y2, y3, w => (3 ≤ y3 → post y2) ∧ (¬ 3 ≤ y3 → vp_in y1 10 ∧ (vp_in y3 3 ∧ (∀ v4 : Int32, v4 = (y2 + (w (y1.toNatClampNeg + 32) y3.toNatClampNeg)) → (wp_X1_iceIn_4 post   n9 y1 v4 (y3 + 1) w))))
set_option maxHeartbeats 4000000 in
set_option maxRecDepth 100000 in
theorem t_X1_iceIn_4 {p : Program} {l : Launch} {e : Env} {s : State} {m : MethodId} {args : Array Value} {below : List Frame} {meth : Method} {c : Code} {D : va_G} {tc : Nat → ClassId} {h0 : Nat} {sa : Nat → Nat}  {ad : Nat → Nat} {A : Nat → Prop} {post : Int32 → Prop}  (X : Cx p c s m meth cX1_iceIn 4 RX1 D tc) (hr : meth.sig.returnType = (Option.some FieldType.int)) (hT : ST h0 sa s s.heap) (hA0 : ∀ q, (fun _ => False) q → h0 ≤ q)    : ∀ (n9 : Nat) (y1 : Int32) (y2 : Int32) (y3 : Int32) (w : Dt) (locs : List Loc) (ls : Array Slot), wp_X1_iceIn_4 post   n9 y1 y2 y3 w → (Blk D tc A (shW ad) ad w s.heap) → va_S (fun _ => False) s.heap s.heap locs → lv_has ls 4 [(0, .ref (ad 1)), (1, .int y1), (2, .int y2), (3, .int y3)] → W p l e rm_X1_iceIn s m args below meth c s.heap locs 0 0 (MQ below (QB post (fun (_ : Int32) (H1 : Heap) => H1 = s.heap) (fun u : Int32 => some (.int u)) (fun _ => False)) args s rm_X1_iceIn.cells rm_X1_iceIn.slots (fun _ => False)) (F0 m 4 ls []) := by
  have hx := X.1
  have hb := X.2.1
  have hown := X.2.2.2.1
  have hU := X.2.2.2.2.1.1
  intro n9
  induction n9 with
  | zero =>
    intro y1 y2 y3 w  locs ls hw
    exact hw.elim
  | succ n9 ih =>
    intro y1 y2 y3 w  locs ls hw hBw hS hl
    unfold wp_X1_iceIn_4 at hw
    refine lv_iload_n hx hb dX1_iceIn_4 rfl (lv_at hl 3 rfl) ?_
    refine lv_iconst (v := 3) hx hb dX1_iceIn_5 (by decide) ?_
    refine lv_icmp_ge (tgt := 26) hx hb dX1_iceIn_6 (by decide) (fun c1 => ?_) (fun c1 => ?_)
    · have hw := hw.1 c1
      refine lv_iload_n hx hb dX1_iceIn_26 rfl (lv_at hl 2 rfl) ?_
      exact e_i X hr dX1_iceIn_27 hS (y2) rfl hw rfl ⟨Nat.le_of_ble_eq_true rfl, Nat.le_of_ble_eq_true rfl⟩
    · have hw := hw.2 c1
      refine lv_iload_n hx hb dX1_iceIn_9 rfl (lv_at hl 2 rfl) ?_
      refine lv_aload_n hx hb dX1_iceIn_10 rfl (lv_at hl 0 rfl) ?_
      refine g_get X dX1_iceIn_11 f_X1_20 hBw 1 (v := .ref (ad 4)) rfl rfl ?_
      refine lv_iload_n hx hb dX1_iceIn_14 rfl (lv_at hl 1 rfl) ?_
      obtain ⟨o2, hw⟩ := hw
      refine g_aaldA X dX1_iceIn_15 hBw 4 rfl o2 (v := .ref (ad (y1.toNatClampNeg + 32))) (rows_at o2) ?_
      refine lv_iload_n hx hb dX1_iceIn_16 rfl (lv_at hl 3 rfl) ?_
      obtain ⟨o3, hw⟩ := hw
      refine g_iald X dX1_iceIn_17 hBw (y1.toNatClampNeg + 32) (cw_row32 o2) o3 rfl ?_
      refine lv_iadd hx hb dX1_iceIn_18 ?_
      refine lv_topi (fun v4 ev4 => ?_)
      have hw := hw v4 ev4
      refine lv_istore_n (lv' := [(2, .int v4), (0, .ref (ad 1)), (1, .int y1), (3, .int y3)]) hx hb dX1_iceIn_19 rfl hl (by decide) rfl (fun ls hl => ?_)
      refine lv_iinc (lv' := [(3, .int (y3 + 1)), (2, .int v4), (0, .ref (ad 1)), (1, .int y1)]) hx hb dX1_iceIn_20 hl (k := 3) rfl (by rfl) (by decide) rfl (fun ls hl => ?_)
      refine lv_goto (tgt := 4) hx hb dX1_iceIn_23 (by decide) ?_
      exact ih _ _ _ _ _ _ hw hBw hS (lv_sub hl [2, 3, 1, 0] rfl)
def wp_X1_iceIn (post : Int32 → Prop) (w : Dt) (x1 : Int32) : Prop := ∃ k9 : Nat, wp_X1_iceIn_4 post   k9 x1 0 0 w
set_option maxHeartbeats 4000000 in
set_option maxRecDepth 100000 in
theorem c_X1_iceIn (l : Launch) (D : va_G) (tc : Nat → ClassId) (h0 : Nat) (sa : Nat → Nat) (x1 : Int32) (H0 : Heap) {ad : Nat → Nat} {A : Nat → Prop} {w : Dt} (hBw : Blk D tc A (shW ad) ad w H0)  {post : Int32 → Prop} (hw : wp_X1_iceIn post w x1) : MB l yX1_iceIn cX1_iceIn 4 (Option.some FieldType.int) rm_X1_iceIn (fun _ => False) [.ref (ad 1), .int x1] D tc h0 sa H0 post (fun (_ : Int32) (H1 : Heap) => H1 = H0) (fun u : Int32 => some (.int u)) := by
  have hA0 : ∀ q : Nat, (fun _ : Nat => False) q → h0 ≤ q := fun _ h => h.elim
  refine MB.of RX1 [(0, .ref (ad 1)), (1, .int x1)] (by decide +kernel) rfl (Nat.le_of_ble_eq_true rfl) rfl ?_
  intro p e s m below meth c ls X hr hin hT hH hS hl
  subst hH
  have hx := X.1
  have hb := X.2.1
  have hown := X.2.2.2.1
  have hU := X.2.2.2.2.1.1
  unfold wp_X1_iceIn at hw
  refine lv_iconst (v := 0) hx hb dX1_iceIn_0 (by decide) ?_
  refine lv_istore_n (lv' := [(2, .int 0), (0, .ref (ad 1)), (1, .int x1)]) hx hb dX1_iceIn_1 rfl hl (by decide) rfl (fun ls hl => ?_)
  refine lv_iconst (v := 0) hx hb dX1_iceIn_2 (by decide) ?_
  refine lv_istore_n (lv' := [(3, .int 0), (2, .int 0), (0, .ref (ad 1)), (1, .int x1)]) hx hb dX1_iceIn_3 rfl hl (by decide) rfl (fun ls hl => ?_)
  obtain ⟨k9, hw⟩ := hw
  exact t_X1_iceIn_4 X hr hT hA0   k9 _ _ _ _ _ _ hw hBw hS (lv_sub hl [2, 3, 1, 0] rfl)
abbrev rm_X1_amountIn : Room := { frames := 1, cells := 0, slots := 0, locals := 23 }
def wp_X1_amountIn_8 (post : Int32 → Prop)   : Nat → Int32 → Int32 → Int32 → Dt → Prop
  | 0, _, _, _, _ => False
  | n9 + 1, y1, y2, y3, w => (3 ≤ y3 → post y2) ∧ (¬ 3 ≤ y3 → vp_in y1 10 ∧ (vp_in y3 3 ∧ (∀ v5 : Int32, v5 = (y2 + (w (y1.toNatClampNeg + 22) y3.toNatClampNeg)) → (wp_X1_amountIn_8 post   n9 y1 v5 (y3 + 1) w))))
set_option maxHeartbeats 4000000 in
set_option maxRecDepth 100000 in
theorem t_X1_amountIn_8 {p : Program} {l : Launch} {e : Env} {s : State} {m : MethodId} {args : Array Value} {below : List Frame} {meth : Method} {c : Code} {D : va_G} {tc : Nat → ClassId} {h0 : Nat} {sa : Nat → Nat}  {ad : Nat → Nat} {A : Nat → Prop} {post : Int32 → Prop}  (X : Cx p c s m meth cX1_amountIn 4 RX1 D tc) (hr : meth.sig.returnType = (Option.some FieldType.int)) (hT : ST h0 sa s s.heap) (hA0 : ∀ q, (fun _ => False) q → h0 ≤ q)    : ∀ (n9 : Nat) (y1 : Int32) (y2 : Int32) (y3 : Int32) (w : Dt) (locs : List Loc) (ls : Array Slot), wp_X1_amountIn_8 post   n9 y1 y2 y3 w → (Blk D tc A (shW ad) ad w s.heap) → va_S (fun _ => False) s.heap s.heap locs → lv_has ls 4 [(0, .ref (ad 1)), (1, .int y1), (2, .int y2), (3, .int y3)] → W p l e rm_X1_amountIn s m args below meth c s.heap locs 0 0 (MQ below (QB post (fun (_ : Int32) (H1 : Heap) => H1 = s.heap) (fun u : Int32 => some (.int u)) (fun _ => False)) args s rm_X1_amountIn.cells rm_X1_amountIn.slots (fun _ => False)) (F0 m 8 ls []) := by
  have hx := X.1
  have hb := X.2.1
  have hown := X.2.2.2.1
  have hU := X.2.2.2.2.1.1
  intro n9
  induction n9 with
  | zero =>
    intro y1 y2 y3 w  locs ls hw
    exact hw.elim
  | succ n9 ih =>
    intro y1 y2 y3 w  locs ls hw hBw hS hl
    unfold wp_X1_amountIn_8 at hw
    refine lv_iload_n hx hb dX1_amountIn_8 rfl (lv_at hl 3 rfl) ?_
    refine lv_iconst (v := 3) hx hb dX1_amountIn_9 (by decide) ?_
    refine lv_icmp_ge (tgt := 30) hx hb dX1_amountIn_10 (by decide) (fun c2 => ?_) (fun c2 => ?_)
    · have hw := hw.1 c2
      refine lv_iload_n hx hb dX1_amountIn_30 rfl (lv_at hl 2 rfl) ?_
      exact e_i X hr dX1_amountIn_31 hS (y2) rfl hw rfl ⟨Nat.le_of_ble_eq_true rfl, Nat.le_of_ble_eq_true rfl⟩
    · have hw := hw.2 c2
      refine lv_iload_n hx hb dX1_amountIn_13 rfl (lv_at hl 2 rfl) ?_
      refine lv_aload_n hx hb dX1_amountIn_14 rfl (lv_at hl 0 rfl) ?_
      refine g_get X dX1_amountIn_15 f_X1_17 hBw 1 (v := .ref (ad 3)) rfl rfl ?_
      refine lv_iload_n hx hb dX1_amountIn_18 rfl (lv_at hl 1 rfl) ?_
      obtain ⟨o3, hw⟩ := hw
      refine g_aaldA X dX1_amountIn_19 hBw 3 rfl o3 (v := .ref (ad (y1.toNatClampNeg + 22))) (rows_at o3) ?_
      refine lv_iload_n hx hb dX1_amountIn_20 rfl (lv_at hl 3 rfl) ?_
      obtain ⟨o4, hw⟩ := hw
      refine g_iald X dX1_amountIn_21 hBw (y1.toNatClampNeg + 22) (cw_row22 o3) o4 rfl ?_
      refine lv_iadd hx hb dX1_amountIn_22 ?_
      refine lv_topi (fun v5 ev5 => ?_)
      have hw := hw v5 ev5
      refine lv_istore_n (lv' := [(2, .int v5), (0, .ref (ad 1)), (1, .int y1), (3, .int y3)]) hx hb dX1_amountIn_23 rfl hl (by decide) rfl (fun ls hl => ?_)
      refine lv_iinc (lv' := [(3, .int (y3 + 1)), (2, .int v5), (0, .ref (ad 1)), (1, .int y1)]) hx hb dX1_amountIn_24 hl (k := 3) rfl (by rfl) (by decide) rfl (fun ls hl => ?_)
      refine lv_goto (tgt := 8) hx hb dX1_amountIn_27 (by decide) ?_
      exact ih _ _ _ _ _ _ hw hBw hS (lv_sub hl [2, 3, 1, 0] rfl)
def wp_X1_amountIn (post : Int32 → Prop) (w : Dt) (x1 : Int32) : Prop := wp_X1_iceIn (fun r1 => ∃ k9 : Nat, wp_X1_amountIn_8 post   k9 x1 r1 0 w) w x1
set_option maxHeartbeats 4000000 in
set_option maxRecDepth 100000 in
theorem c_X1_amountIn (l : Launch) (D : va_G) (tc : Nat → ClassId) (h0 : Nat) (sa : Nat → Nat) (x1 : Int32) (H0 : Heap) {ad : Nat → Nat} {A : Nat → Prop} {w : Dt} (hBw : Blk D tc A (shW ad) ad w H0)  {post : Int32 → Prop} (hw : wp_X1_amountIn post w x1) : MB l yX1_amountIn cX1_amountIn 4 (Option.some FieldType.int) rm_X1_amountIn (fun _ => False) [.ref (ad 1), .int x1] D tc h0 sa H0 post (fun (_ : Int32) (H1 : Heap) => H1 = H0) (fun u : Int32 => some (.int u)) := by
  have hA0 : ∀ q : Nat, (fun _ : Nat => False) q → h0 ≤ q := fun _ h => h.elim
  refine MB.of RX1 [(0, .ref (ad 1)), (1, .int x1)] (by decide +kernel) rfl (Nat.le_of_ble_eq_true rfl) rfl ?_
  intro p e s m below meth c ls X hr hin hT hH hS hl
  subst hH
  have hx := X.1
  have hb := X.2.1
  have hown := X.2.2.2.1
  have hU := X.2.2.2.2.1.1
  unfold wp_X1_amountIn at hw
  refine lv_aload_n hx hb dX1_amountIn_0 rfl (lv_at hl 0 rfl) ?_
  refine lv_iload_n hx hb dX1_amountIn_1 rfl (lv_at hl 1 rfl) ?_
  refine g_after (st0 := .int x1 :: .ref (ad 1) :: []) (rest := []) (g_V X m_X1_71 (c_X1_iceIn l D tc h0 sa x1 _ hBw hw) (hBw.recv X 1 rfl (q := (RX1, TX1, 8)) rfl) hT hS hA0 dX1_amountIn_2 hl.1 rfl rfl ⟨Nat.le_of_ble_eq_true rfl, Nat.le_of_ble_eq_true rfl⟩ (Nat.le_of_ble_eq_true rfl) ⟨Nat.le_of_ble_eq_true rfl, Nat.le_of_ble_eq_true rfl⟩) hS (fun _ h => h.elim) (fun u => .int u :: []) (fun _ => rfl) (fun u H9 locs hw hP9 hz9 hk9 hS => ?_)
  have e9 : H9 = _ := hP9
  rw [e9] at hS ⊢
  obtain ⟨r1, rfl⟩ : ∃ z, z = u := ⟨_, rfl⟩
  try dsimp only at hw
  refine lv_istore_n (lv' := [(2, .int r1), (0, .ref (ad 1)), (1, .int x1)]) hx hb dX1_amountIn_5 rfl hl (by decide) rfl (fun ls hl => ?_)
  refine lv_iconst (v := 0) hx hb dX1_amountIn_6 (by decide) ?_
  refine lv_istore_n (lv' := [(3, .int 0), (2, .int r1), (0, .ref (ad 1)), (1, .int x1)]) hx hb dX1_amountIn_7 rfl hl (by decide) rfl (fun ls hl => ?_)
  obtain ⟨k9, hw⟩ := hw
  exact t_X1_amountIn_8 X hr hT hA0   k9 _ _ _ _ _ _ hw hBw hS (lv_sub hl [2, 3, 1, 0] rfl)
abbrev rm_X1_weightOf : Room := { frames := 2, cells := 0, slots := 0, locals := 46 }
def wp_X1_weightOf (post : Int32 → Prop) (w : Dt) (x1 : Int32) : Prop := wp_X1_amountIn (fun r1 => post (r1 / 1000)) w x1
set_option maxHeartbeats 4000000 in
set_option maxRecDepth 100000 in
theorem c_X1_weightOf (l : Launch) (D : va_G) (tc : Nat → ClassId) (h0 : Nat) (sa : Nat → Nat) (x1 : Int32) (H0 : Heap) {ad : Nat → Nat} {A : Nat → Prop} {w : Dt} (hBw : Blk D tc A (shW ad) ad w H0)  {post : Int32 → Prop} (hw : wp_X1_weightOf post w x1) : MB l yX1_weightOf cX1_weightOf 2 (Option.some FieldType.int) rm_X1_weightOf (fun _ => False) [.ref (ad 1), .int x1] D tc h0 sa H0 post (fun (_ : Int32) (H1 : Heap) => H1 = H0) (fun u : Int32 => some (.int u)) := by
  have hA0 : ∀ q : Nat, (fun _ : Nat => False) q → h0 ≤ q := fun _ h => h.elim
  refine MB.of RX1 [(0, .ref (ad 1)), (1, .int x1)] (by decide +kernel) rfl (Nat.le_of_ble_eq_true rfl) rfl ?_
  intro p e s m below meth c ls X hr hin hT hH hS hl
  subst hH
  have hx := X.1
  have hb := X.2.1
  have hown := X.2.2.2.1
  have hU := X.2.2.2.2.1.1
  unfold wp_X1_weightOf at hw
  refine lv_aload_n hx hb dX1_weightOf_0 rfl (lv_at hl 0 rfl) ?_
  refine lv_iload_n hx hb dX1_weightOf_1 rfl (lv_at hl 1 rfl) ?_
  refine g_after (st0 := .int x1 :: .ref (ad 1) :: []) (rest := []) (g_V X m_X1_68 (c_X1_amountIn l D tc h0 sa x1 _ hBw hw) (hBw.recv X 1 rfl (q := (RX1, TX1, 8)) rfl) hT hS hA0 dX1_weightOf_2 hl.1 rfl rfl ⟨Nat.le_of_ble_eq_true rfl, Nat.le_of_ble_eq_true rfl⟩ (Nat.le_of_ble_eq_true rfl) ⟨Nat.le_of_ble_eq_true rfl, Nat.le_of_ble_eq_true rfl⟩) hS (fun _ h => h.elim) (fun u => .int u :: []) (fun _ => rfl) (fun u H9 locs hw hP9 hz9 hk9 hS => ?_)
  have e9 : H9 = _ := hP9
  rw [e9] at hS ⊢
  obtain ⟨r1, rfl⟩ : ∃ z, z = u := ⟨_, rfl⟩
  try dsimp only at hw
  refine lv_sipush (v := 1000) hx hb dX1_weightOf_5 (by decide) ?_
  refine lv_idiv hx hb dX1_weightOf_8 (by decide) ?_
  exact e_i X hr dX1_weightOf_9 hS ((r1 / 1000)) rfl hw rfl ⟨Nat.le_of_ble_eq_true rfl, Nat.le_of_ble_eq_true rfl⟩
abbrev rm_X1_riseInto : Room := { frames := 3, cells := 0, slots := 0, locals := 67 }
def wp_X1_riseInto_40 (post : Dt → Prop)   (w : Dt) : Prop := post w
set_option maxHeartbeats 4000000 in
set_option maxRecDepth 100000 in
theorem t_X1_riseInto_40 {p : Program} {l : Launch} {e : Env} {s : State} {m : MethodId} {args : Array Value} {below : List Frame} {meth : Method} {c : Code} {D : va_G} {tc : Nat → ClassId} {h0 : Nat} {sa : Nat → Nat}  {ad : Nat → Nat} {A : Nat → Prop} {post : Dt → Prop}  (X : Cx p c s m meth cX1_riseInto 7 RX1 D tc) (hr : meth.sig.returnType = (Option.none : Option FieldType)) (hT : ST h0 sa s s.heap) (hA0 : ∀ q, A q → h0 ≤ q)    : ∀ (w : Dt) (locs : List Loc) (ls : Array Slot), wp_X1_riseInto_40 post   w → (Blk D tc A (shW ad) ad w s.heap) → va_S A s.heap s.heap locs → lv_has ls 7 [] → W p l e rm_X1_riseInto s m args below meth c s.heap locs 0 0 (MQ below (QB post (fun (u : Dt) (H1 : Heap) => Blk D tc A (shW ad) ad u H1) (fun _ : Dt => none) A) args s rm_X1_riseInto.cells rm_X1_riseInto.slots A) (F0 m 40 ls []) := by
  have hx := X.1
  have hb := X.2.1
  have hown := X.2.2.2.1
  have hU := X.2.2.2.2.1.1
  intro w  locs ls hw hBw hS hl
  unfold wp_X1_riseInto_40 at hw
  exact e_v X hr dX1_riseInto_40 hS (w) rfl hw hBw ⟨Nat.le_of_ble_eq_true rfl, Nat.le_of_ble_eq_true rfl⟩
def wp_X1_riseInto_73 (post : Dt → Prop)   : Nat → Int32 → Int32 → Int32 → Dt → Prop
  | 0, _, _, _, _ => False
  | n9 + 1, y1, y2, y5, w => (3 ≤ y5 → post w) ∧ (¬ 3 ≤ y5 → vp_in y2 10 ∧ (vp_in y5 3 ∧ (∀ v13 : Int32, v13 = ((w (y2.toNatClampNeg + 22) y5.toNatClampNeg) / 10) → (∀ w14 : Dt, w14 = up2 w (y2.toNatClampNeg + 22) y5.toNatClampNeg ((w (y2.toNatClampNeg + 22) y5.toNatClampNeg) - v13) → (vp_in y1 10 ∧ (∀ w16 : Dt, w16 = up2 w14 (y1.toNatClampNeg + 22) y5.toNatClampNeg ((w14 (y1.toNatClampNeg + 22) y5.toNatClampNeg) + v13) → (wp_X1_riseInto_73 post   n9 y1 y2 (y5 + 1) w16)))))))
set_option maxHeartbeats 4000000 in
set_option maxRecDepth 100000 in
theorem t_X1_riseInto_73 {p : Program} {l : Launch} {e : Env} {s : State} {m : MethodId} {args : Array Value} {below : List Frame} {meth : Method} {c : Code} {D : va_G} {tc : Nat → ClassId} {h0 : Nat} {sa : Nat → Nat}  {ad : Nat → Nat} {A : Nat → Prop} {post : Dt → Prop}  (X : Cx p c s m meth cX1_riseInto 7 RX1 D tc) (hr : meth.sig.returnType = (Option.none : Option FieldType)) (hT : ST h0 sa s s.heap) (hA0 : ∀ q, A q → h0 ≤ q)    : ∀ (n9 : Nat) (y1 : Int32) (y2 : Int32) (y5 : Int32) (w : Dt) (H : Heap) (locs : List Loc) (ls : Array Slot), wp_X1_riseInto_73 post   n9 y1 y2 y5 w → (Blk D tc A (shW ad) ad w H) → va_S A s.heap H locs → lv_has ls 7 [(0, .ref (ad 1)), (1, .int y1), (2, .int y2), (5, .int y5)] → W p l e rm_X1_riseInto s m args below meth c H locs 0 0 (MQ below (QB post (fun (u : Dt) (H1 : Heap) => Blk D tc A (shW ad) ad u H1) (fun _ : Dt => none) A) args s rm_X1_riseInto.cells rm_X1_riseInto.slots A) (F0 m 73 ls []) := by
  have hx := X.1
  have hb := X.2.1
  have hown := X.2.2.2.1
  have hU := X.2.2.2.2.1.1
  intro n9
  induction n9 with
  | zero =>
    intro y1 y2 y5 w H locs ls hw
    exact hw.elim
  | succ n9 ih =>
    intro y1 y2 y5 w H locs ls hw hBw hS hl
    unfold wp_X1_riseInto_73 at hw
    refine lv_iload hx hb dX1_riseInto_73 (lv_at hl 3 rfl) ?_
    refine lv_iconst (v := 3) hx hb dX1_riseInto_75 (by decide) ?_
    refine lv_icmp_ge (tgt := 127) hx hb dX1_riseInto_76 (by decide) (fun c10 => ?_) (fun c10 => ?_)
    · have hw := hw.1 c10
      exact e_v X hr dX1_riseInto_127 hS (w) rfl hw hBw ⟨Nat.le_of_ble_eq_true rfl, Nat.le_of_ble_eq_true rfl⟩
    · have hw := hw.2 c10
      refine lv_aload_n hx hb dX1_riseInto_79 rfl (lv_at hl 0 rfl) ?_
      refine g_get X dX1_riseInto_80 f_X1_17 hBw 1 (v := .ref (ad 3)) rfl rfl ?_
      refine lv_iload_n hx hb dX1_riseInto_83 rfl (lv_at hl 2 rfl) ?_
      obtain ⟨o11, hw⟩ := hw
      refine g_aaldA X dX1_riseInto_84 hBw 3 rfl o11 (v := .ref (ad (y2.toNatClampNeg + 22))) (rows_at o11) ?_
      refine lv_iload hx hb dX1_riseInto_85 (lv_at hl 3 rfl) ?_
      obtain ⟨o12, hw⟩ := hw
      refine g_iald X dX1_riseInto_87 hBw (y2.toNatClampNeg + 22) (cw_row22 o11) o12 rfl ?_
      refine lv_bipush (v := 10) hx hb dX1_riseInto_88 (by decide) ?_
      refine lv_idiv hx hb dX1_riseInto_90 (by decide) ?_
      refine lv_topi (fun v13 ev13 => ?_)
      have hw := hw v13 ev13
      refine lv_istore (lv' := [(6, .int v13), (0, .ref (ad 1)), (1, .int y1), (2, .int y2), (5, .int y5)]) hx hb dX1_riseInto_91 hl (by decide) rfl (fun ls hl => ?_)
      refine lv_aload_n hx hb dX1_riseInto_93 rfl (lv_at hl 1 rfl) ?_
      refine g_get X dX1_riseInto_94 f_X1_17 hBw 1 (v := .ref (ad 3)) rfl rfl ?_
      refine lv_iload_n hx hb dX1_riseInto_97 rfl (lv_at hl 3 rfl) ?_
      refine g_aaldA X dX1_riseInto_98 hBw 3 rfl o11 (v := .ref (ad (y2.toNatClampNeg + 22))) (rows_at o11) ?_
      refine lv_iload hx hb dX1_riseInto_99 (lv_at hl 4 rfl) ?_
      refine lv_dup2_11 hx hb dX1_riseInto_101 rfl rfl ?_
      refine g_iald X dX1_riseInto_102 hBw (y2.toNatClampNeg + 22) (cw_row22 o11) o12 rfl ?_
      refine lv_iload hx hb dX1_riseInto_103 (lv_at hl 0 rfl) ?_
      refine lv_isub hx hb dX1_riseInto_105 ?_
      refine g_iast X dX1_riseInto_106 hBw hS (y2.toNatClampNeg + 22) (cw_row22 o11) o12 rfl  (fun H locs hBw oq hS => ?_)
      obtain ⟨w14, ew14⟩ : ∃ z : Dt, z = up2 w (y2.toNatClampNeg + 22) y5.toNatClampNeg ((w (y2.toNatClampNeg + 22) y5.toNatClampNeg) - v13) := ⟨_, rfl⟩
      rw [← ew14] at hBw
      have hw := hw w14 ew14
      refine lv_aload_n hx hb dX1_riseInto_107 rfl (lv_at hl 1 rfl) ?_
      refine g_get X dX1_riseInto_108 f_X1_17 hBw 1 (v := .ref (ad 3)) rfl rfl ?_
      refine lv_iload_n hx hb dX1_riseInto_111 rfl (lv_at hl 2 rfl) ?_
      obtain ⟨o15, hw⟩ := hw
      refine g_aaldA X dX1_riseInto_112 hBw 3 rfl o15 (v := .ref (ad (y1.toNatClampNeg + 22))) (rows_at o15) ?_
      refine lv_iload hx hb dX1_riseInto_113 (lv_at hl 4 rfl) ?_
      refine lv_dup2_11 hx hb dX1_riseInto_115 rfl rfl ?_
      refine g_iald X dX1_riseInto_116 hBw (y1.toNatClampNeg + 22) (cw_row22 o15) o12 rfl ?_
      refine lv_iload hx hb dX1_riseInto_117 (lv_at hl 0 rfl) ?_
      refine lv_iadd hx hb dX1_riseInto_119 ?_
      refine g_iast X dX1_riseInto_120 hBw hS (y1.toNatClampNeg + 22) (cw_row22 o15) o12 rfl  (fun H locs hBw oq hS => ?_)
      obtain ⟨w16, ew16⟩ : ∃ z : Dt, z = up2 w14 (y1.toNatClampNeg + 22) y5.toNatClampNeg ((w14 (y1.toNatClampNeg + 22) y5.toNatClampNeg) + v13) := ⟨_, rfl⟩
      rw [← ew16] at hBw
      have hw := hw w16 ew16
      refine lv_iinc (lv' := [(5, .int (y5 + 1)), (6, .int v13), (0, .ref (ad 1)), (1, .int y1), (2, .int y2)]) hx hb dX1_riseInto_121 hl (k := 4) rfl (by rfl) (by decide) rfl (fun ls hl => ?_)
      refine lv_goto (tgt := 73) hx hb dX1_riseInto_124 (by decide) ?_
      exact ih _ _ _ _ _ _ _ hw hBw hS (lv_sub hl [2, 3, 4, 0] rfl)
def wp_X1_riseInto (post : Dt → Prop) (w : Dt) (x1 : Int32) : Prop := vp_in (x1 + 1) 10 ∧ (vp_in x1 10 ∧ (∀ v3 : Int32, v3 = (((w 2 (x1 + 1).toNatClampNeg) - (w 2 x1.toNatClampNeg)) - 25) → ((v3 ≤ 0 → wp_X1_riseInto_40 post   w) ∧ (¬ v3 ≤ 0 → wp_X1_weightOf (fun r5 => wp_X1_weightOf (fun r6 => ((r5 - r6) < v3 → ∀ w8 : Dt, w8 = up2 w 2 (x1 + 1).toNatClampNeg ((w 2 (x1 + 1).toNatClampNeg) - ((v3 + 1) / 2)) → (∀ w9 : Dt, w9 = up2 w8 2 x1.toNatClampNeg ((w8 2 x1.toNatClampNeg) + ((v3 + 1) / 2)) → (∃ k9 : Nat, wp_X1_riseInto_73 post   k9 x1 (x1 + 1) 0 w9))) ∧ (¬ (r5 - r6) < v3 → wp_X1_riseInto_40 post   w)) w x1) w (x1 + 1)))))
set_option maxHeartbeats 4000000 in
set_option maxRecDepth 100000 in
theorem c_X1_riseInto (l : Launch) (D : va_G) (tc : Nat → ClassId) (h0 : Nat) (sa : Nat → Nat) (x1 : Int32) (H0 : Heap) {ad : Nat → Nat} {A : Nat → Prop} {w : Dt} (hBw : Blk D tc A (shW ad) ad w H0) (hA0 : ∀ q, A q → h0 ≤ q) {post : Dt → Prop} (hw : wp_X1_riseInto post w x1) : MB l yX1_riseInto cX1_riseInto 7 (Option.none : Option FieldType) rm_X1_riseInto A [.ref (ad 1), .int x1] D tc h0 sa H0 post (fun (u : Dt) (H1 : Heap) => Blk D tc A (shW ad) ad u H1) (fun _ : Dt => none) := by
  refine MB.of RX1 [(0, .ref (ad 1)), (1, .int x1)] (by decide +kernel) rfl (Nat.le_of_ble_eq_true rfl) rfl ?_
  intro p e s m below meth c ls X hr hin hT hH hS hl
  subst hH
  have hx := X.1
  have hb := X.2.1
  have hown := X.2.2.2.1
  have hU := X.2.2.2.2.1.1
  unfold wp_X1_riseInto at hw
  refine lv_iload_n hx hb dX1_riseInto_0 rfl (lv_at hl 1 rfl) ?_
  refine lv_iconst (v := 1) hx hb dX1_riseInto_1 (by decide) ?_
  refine lv_iadd hx hb dX1_riseInto_2 ?_
  refine lv_istore_n (lv' := [(2, .int (x1 + 1)), (0, .ref (ad 1)), (1, .int x1)]) hx hb dX1_riseInto_3 rfl hl (by decide) rfl (fun ls hl => ?_)
  refine lv_aload_n hx hb dX1_riseInto_4 rfl (lv_at hl 1 rfl) ?_
  refine g_get X dX1_riseInto_5 f_X1_9 hBw 1 (v := .ref (ad 2)) rfl rfl ?_
  refine lv_iload_n hx hb dX1_riseInto_8 rfl (lv_at hl 0 rfl) ?_
  obtain ⟨o1, hw⟩ := hw
  refine g_iald X dX1_riseInto_9 hBw 2 rfl o1 rfl ?_
  refine lv_aload_n hx hb dX1_riseInto_10 rfl (lv_at hl 1 rfl) ?_
  refine g_get X dX1_riseInto_11 f_X1_9 hBw 1 (v := .ref (ad 2)) rfl rfl ?_
  refine lv_iload_n hx hb dX1_riseInto_14 rfl (lv_at hl 2 rfl) ?_
  obtain ⟨o2, hw⟩ := hw
  refine g_iald X dX1_riseInto_15 hBw 2 rfl o2 rfl ?_
  refine lv_isub hx hb dX1_riseInto_16 ?_
  refine lv_bipush (v := 25) hx hb dX1_riseInto_17 (by decide) ?_
  refine lv_isub hx hb dX1_riseInto_19 ?_
  refine lv_topi (fun v3 ev3 => ?_)
  have hw := hw v3 ev3
  refine lv_istore_n (lv' := [(3, .int v3), (2, .int (x1 + 1)), (0, .ref (ad 1)), (1, .int x1)]) hx hb dX1_riseInto_20 rfl hl (by decide) rfl (fun ls hl => ?_)
  refine lv_iload_n hx hb dX1_riseInto_21 rfl (lv_at hl 0 rfl) ?_
  refine lv_if_le (tgt := 40) hx hb dX1_riseInto_22 (by decide) (fun c4 => ?_) (fun c4 => ?_)
  · have hw := hw.1 c4
    exact t_X1_riseInto_40 X hr hT hA0   _ _ _ hw hBw hS (lv_sub hl [] rfl)
  · have hw := hw.2 c4
    refine lv_iload_n hx hb dX1_riseInto_25 rfl (lv_at hl 0 rfl) ?_
    refine lv_aload_n hx hb dX1_riseInto_26 rfl (lv_at hl 2 rfl) ?_
    refine lv_iload_n hx hb dX1_riseInto_27 rfl (lv_at hl 1 rfl) ?_
    refine g_after (st0 := .int (x1 + 1) :: .ref (ad 1) :: [.int v3]) (rest := [.int v3]) (g_V X m_X1_64 (c_X1_weightOf l D tc h0 sa (x1 + 1) _ hBw hw) (hBw.recv X 1 rfl (q := (RX1, TX1, 8)) rfl) hT hS hA0 dX1_riseInto_28 hl.1 rfl rfl ⟨Nat.le_of_ble_eq_true rfl, Nat.le_of_ble_eq_true rfl⟩ (Nat.le_of_ble_eq_true rfl) ⟨Nat.le_of_ble_eq_true rfl, Nat.le_of_ble_eq_true rfl⟩) hS (fun _ h => h.elim) (fun u => .int u :: [.int v3]) (fun _ => rfl) (fun u H9 locs hw hP9 hz9 hk9 hS => ?_)
    have e9 : H9 = _ := hP9
    rw [e9] at hS ⊢
    obtain ⟨r5, rfl⟩ : ∃ z, z = u := ⟨_, rfl⟩
    try dsimp only at hw
    refine lv_aload_n hx hb dX1_riseInto_31 rfl (lv_at hl 2 rfl) ?_
    refine lv_iload_n hx hb dX1_riseInto_32 rfl (lv_at hl 3 rfl) ?_
    refine g_after (st0 := .int x1 :: .ref (ad 1) :: [.int r5, .int v3]) (rest := [.int r5, .int v3]) (g_V X m_X1_64 (c_X1_weightOf l D tc h0 sa x1 _ hBw hw) (hBw.recv X 1 rfl (q := (RX1, TX1, 8)) rfl) hT hS hA0 dX1_riseInto_33 hl.1 rfl rfl ⟨Nat.le_of_ble_eq_true rfl, Nat.le_of_ble_eq_true rfl⟩ (Nat.le_of_ble_eq_true rfl) ⟨Nat.le_of_ble_eq_true rfl, Nat.le_of_ble_eq_true rfl⟩) hS (fun _ h => h.elim) (fun u => .int u :: [.int r5, .int v3]) (fun _ => rfl) (fun u H9 locs hw hP9 hz9 hk9 hS => ?_)
    have e9 : H9 = _ := hP9
    rw [e9] at hS ⊢
    obtain ⟨r6, rfl⟩ : ∃ z, z = u := ⟨_, rfl⟩
    try dsimp only at hw
    refine lv_isub hx hb dX1_riseInto_36 ?_
    refine lv_icmp_gt (tgt := 41) hx hb dX1_riseInto_37 (by decide) (fun c7 => ?_) (fun c7 => ?_)
    · have hw := hw.1 c7
      refine lv_iload_n hx hb dX1_riseInto_41 rfl (lv_at hl 0 rfl) ?_
      refine lv_iconst (v := 1) hx hb dX1_riseInto_42 (by decide) ?_
      refine lv_iadd hx hb dX1_riseInto_43 ?_
      refine lv_iconst (v := 2) hx hb dX1_riseInto_44 (by decide) ?_
      refine lv_idiv hx hb dX1_riseInto_45 (by decide) ?_
      refine lv_istore (lv' := [(4, .int ((v3 + 1) / 2)), (3, .int v3), (2, .int (x1 + 1)), (0, .ref (ad 1)), (1, .int x1)]) hx hb dX1_riseInto_46 hl (by decide) rfl (fun ls hl => ?_)
      refine lv_aload_n hx hb dX1_riseInto_48 rfl (lv_at hl 3 rfl) ?_
      refine g_get X dX1_riseInto_49 f_X1_9 hBw 1 (v := .ref (ad 2)) rfl rfl ?_
      refine lv_iload_n hx hb dX1_riseInto_52 rfl (lv_at hl 2 rfl) ?_
      refine lv_dup2_11 hx hb dX1_riseInto_53 rfl rfl ?_
      refine g_iald X dX1_riseInto_54 hBw 2 rfl o1 rfl ?_
      refine lv_iload hx hb dX1_riseInto_55 (lv_at hl 0 rfl) ?_
      refine lv_isub hx hb dX1_riseInto_57 ?_
      refine g_iast X dX1_riseInto_58 hBw hS 2 rfl o1 rfl  (fun H locs hBw oq hS => ?_)
      obtain ⟨w8, ew8⟩ : ∃ z : Dt, z = up2 w 2 (x1 + 1).toNatClampNeg ((w 2 (x1 + 1).toNatClampNeg) - ((v3 + 1) / 2)) := ⟨_, rfl⟩
      rw [← ew8] at hBw
      have hw := hw w8 ew8
      refine lv_aload_n hx hb dX1_riseInto_59 rfl (lv_at hl 3 rfl) ?_
      refine g_get X dX1_riseInto_60 f_X1_9 hBw 1 (v := .ref (ad 2)) rfl rfl ?_
      refine lv_iload_n hx hb dX1_riseInto_63 rfl (lv_at hl 4 rfl) ?_
      refine lv_dup2_11 hx hb dX1_riseInto_64 rfl rfl ?_
      refine g_iald X dX1_riseInto_65 hBw 2 rfl o2 rfl ?_
      refine lv_iload hx hb dX1_riseInto_66 (lv_at hl 0 rfl) ?_
      refine lv_iadd hx hb dX1_riseInto_68 ?_
      refine g_iast X dX1_riseInto_69 hBw hS 2 rfl o2 rfl  (fun H locs hBw oq hS => ?_)
      obtain ⟨w9, ew9⟩ : ∃ z : Dt, z = up2 w8 2 x1.toNatClampNeg ((w8 2 x1.toNatClampNeg) + ((v3 + 1) / 2)) := ⟨_, rfl⟩
      rw [← ew9] at hBw
      have hw := hw w9 ew9
      refine lv_iconst (v := 0) hx hb dX1_riseInto_70 (by decide) ?_
      refine lv_istore (lv' := [(5, .int 0), (4, .int ((v3 + 1) / 2)), (3, .int v3), (2, .int (x1 + 1)), (0, .ref (ad 1)), (1, .int x1)]) hx hb dX1_riseInto_71 hl (by decide) rfl (fun ls hl => ?_)
      obtain ⟨k9, hw⟩ := hw
      exact t_X1_riseInto_73 X hr hT hA0   k9 _ _ _ _ _ _ _ hw hBw hS (lv_sub hl [4, 5, 3, 0] rfl)
    · have hw := hw.2 c7
      exact t_X1_riseInto_40 X hr hT hA0   _ _ _ hw hBw hS (lv_sub hl [] rfl)
abbrev rm_X1_goOn : Room := { frames := 4, cells := 0, slots := 0, locals := 93 }
def wp_X1_goOn_67 (post : Dt → Prop)   : Nat → Int32 → Dt → Prop
  | 0, _, _ => False
  | n9 + 1, y1, w => (y1 < 0 → ∀ w6 : Dt, w6 = up2 w 2 0 ((w 2 0) - ((w 2 0) / 100)) → (∀ w7 : Dt, w7 = up2 w6 1 4 ((w6 1 4) + ((w 2 0) / 100)) → (post w7))) ∧ (¬ y1 < 0 → wp_X1_riseInto (fun w8 => wp_X1_goOn_67 post   n9 (y1 + (-1)) w8) w y1)
set_option maxHeartbeats 4000000 in
set_option maxRecDepth 100000 in
theorem t_X1_goOn_67 {p : Program} {l : Launch} {e : Env} {s : State} {m : MethodId} {args : Array Value} {below : List Frame} {meth : Method} {c : Code} {D : va_G} {tc : Nat → ClassId} {h0 : Nat} {sa : Nat → Nat}  {ad : Nat → Nat} {A : Nat → Prop} {post : Dt → Prop}  (X : Cx p c s m meth cX1_goOn 2 RX1 D tc) (hr : meth.sig.returnType = (Option.none : Option FieldType)) (hT : ST h0 sa s s.heap) (hA0 : ∀ q, A q → h0 ≤ q)    : ∀ (n9 : Nat) (y1 : Int32) (w : Dt) (H : Heap) (locs : List Loc) (ls : Array Slot), wp_X1_goOn_67 post   n9 y1 w → (Blk D tc A (shW ad) ad w H) → va_S A s.heap H locs → lv_has ls 2 [(0, .ref (ad 1)), (1, .int y1)] → W p l e rm_X1_goOn s m args below meth c H locs 0 0 (MQ below (QB post (fun (u : Dt) (H1 : Heap) => Blk D tc A (shW ad) ad u H1) (fun _ : Dt => none) A) args s rm_X1_goOn.cells rm_X1_goOn.slots A) (F0 m 67 ls []) := by
  have hx := X.1
  have hb := X.2.1
  have hown := X.2.2.2.1
  have hU := X.2.2.2.2.1.1
  intro n9
  induction n9 with
  | zero =>
    intro y1 w H locs ls hw
    exact hw.elim
  | succ n9 ih =>
    intro y1 w H locs ls hw hBw hS hl
    unfold wp_X1_goOn_67 at hw
    refine lv_iload_n hx hb dX1_goOn_67 rfl (lv_at hl 1 rfl) ?_
    refine lv_if_lt (tgt := 82) hx hb dX1_goOn_68 (by decide) (fun c5 => ?_) (fun c5 => ?_)
    · have hw := hw.1 c5
      refine lv_aload_n hx hb dX1_goOn_82 rfl (lv_at hl 0 rfl) ?_
      refine g_get X dX1_goOn_83 f_X1_9 hBw 1 (v := .ref (ad 2)) rfl rfl ?_
      refine lv_iconst (v := 0) hx hb dX1_goOn_86 (by decide) ?_
      refine g_iald X dX1_goOn_87 hBw 2 rfl (by unfold vp_in; decide) (k := 0) (by decide) ?_
      refine lv_bipush (v := 100) hx hb dX1_goOn_88 (by decide) ?_
      refine lv_idiv hx hb dX1_goOn_90 (by decide) ?_
      refine lv_istore_n (lv' := [(1, .int ((w 2 0) / 100)), (0, .ref (ad 1))]) hx hb dX1_goOn_91 rfl hl (by decide) rfl (fun ls hl => ?_)
      refine lv_aload_n hx hb dX1_goOn_92 rfl (lv_at hl 1 rfl) ?_
      refine g_get X dX1_goOn_93 f_X1_9 hBw 1 (v := .ref (ad 2)) rfl rfl ?_
      refine lv_iconst (v := 0) hx hb dX1_goOn_96 (by decide) ?_
      refine lv_dup2_11 hx hb dX1_goOn_97 rfl rfl ?_
      refine g_iald X dX1_goOn_98 hBw 2 rfl (by unfold vp_in; decide) (k := 0) (by decide) ?_
      refine lv_iload_n hx hb dX1_goOn_99 rfl (lv_at hl 0 rfl) ?_
      refine lv_isub hx hb dX1_goOn_100 ?_
      refine g_iast X dX1_goOn_101 hBw hS 2 rfl (by unfold vp_in; decide) (k := 0) (by decide)  (fun H locs hBw oq hS => ?_)
      obtain ⟨w6, ew6⟩ : ∃ z : Dt, z = up2 w 2 0 ((w 2 0) - ((w 2 0) / 100)) := ⟨_, rfl⟩
      rw [← ew6] at hBw
      have hw := hw w6 ew6
      refine lv_aload_n hx hb dX1_goOn_102 rfl (lv_at hl 1 rfl) ?_
      refine lv_dup hx hb dX1_goOn_103 rfl ?_
      refine g_get X dX1_goOn_104 f_X1_46 hBw 1 (v := .int (w6 1 4)) rfl rfl ?_
      refine lv_iload_n hx hb dX1_goOn_107 rfl (lv_at hl 0 rfl) ?_
      refine lv_iadd hx hb dX1_goOn_108 ?_
      refine g_puti X dX1_goOn_109 f_X1_46 hBw hS 1 rfl (x := ((w6 1 4) + ((w 2 0) / 100))) rfl rfl rfl (fun H locs hBw oq hS => ?_)
      obtain ⟨w7, ew7⟩ : ∃ z : Dt, z = up2 w6 1 4 ((w6 1 4) + ((w 2 0) / 100)) := ⟨_, rfl⟩
      rw [← ew7] at hBw
      have hw := hw w7 ew7
      exact e_v X hr dX1_goOn_112 hS (w7) rfl hw hBw ⟨Nat.le_of_ble_eq_true rfl, Nat.le_of_ble_eq_true rfl⟩
    · have hw := hw.2 c5
      refine lv_aload_n hx hb dX1_goOn_71 rfl (lv_at hl 0 rfl) ?_
      refine lv_iload_n hx hb dX1_goOn_72 rfl (lv_at hl 1 rfl) ?_
      refine g_after (st0 := .int y1 :: .ref (ad 1) :: []) (rest := []) (g_V X m_X1_43 (c_X1_riseInto l D tc h0 sa y1 _ hBw hA0 hw) (hBw.recv X 1 rfl (q := (RX1, TX1, 8)) rfl) hT hS hA0 dX1_goOn_73 hl.1 rfl rfl ⟨Nat.le_of_ble_eq_true rfl, Nat.le_of_ble_eq_true rfl⟩ (Nat.le_of_ble_eq_true rfl) ⟨Nat.le_of_ble_eq_true rfl, Nat.le_of_ble_eq_true rfl⟩) hS (fun _ h => h) (fun u => []) (fun _ => rfl) (fun u H9 locs hw hP9 hz9 hk9 hS => ?_)
      obtain ⟨w8, rfl⟩ : ∃ z, z = u := ⟨_, rfl⟩
      have hBw : Blk D tc A (shW ad) ad w8 H9 := hP9
      try dsimp only at hw
      refine lv_iinc (lv' := [(1, .int (y1 + (-1))), (0, .ref (ad 1))]) hx hb dX1_goOn_76 hl (k := 1) rfl (by rfl) (by decide) rfl (fun ls hl => ?_)
      refine lv_goto (tgt := 67) hx hb dX1_goOn_79 (by decide) ?_
      exact ih _ _ _ _ _ hw hBw hS (lv_sub hl [1, 0] rfl)
def wp_X1_goOn_49 (post : Dt → Prop)   : Nat → Int32 → Dt → Prop
  | 0, _, _ => False
  | n9 + 1, y1, w => (y1 < 0 → ∃ k9 : Nat, wp_X1_goOn_67 post   k9 8 w) ∧ (¬ y1 < 0 → wp_X1_dropIce (fun w9 => wp_X1_goOn_49 post   n9 (y1 + (-1)) w9) w y1)
set_option maxHeartbeats 4000000 in
set_option maxRecDepth 100000 in
theorem t_X1_goOn_49 {p : Program} {l : Launch} {e : Env} {s : State} {m : MethodId} {args : Array Value} {below : List Frame} {meth : Method} {c : Code} {D : va_G} {tc : Nat → ClassId} {h0 : Nat} {sa : Nat → Nat}  {ad : Nat → Nat} {A : Nat → Prop} {post : Dt → Prop}  (X : Cx p c s m meth cX1_goOn 2 RX1 D tc) (hr : meth.sig.returnType = (Option.none : Option FieldType)) (hT : ST h0 sa s s.heap) (hA0 : ∀ q, A q → h0 ≤ q)    : ∀ (n9 : Nat) (y1 : Int32) (w : Dt) (H : Heap) (locs : List Loc) (ls : Array Slot), wp_X1_goOn_49 post   n9 y1 w → (Blk D tc A (shW ad) ad w H) → va_S A s.heap H locs → lv_has ls 2 [(0, .ref (ad 1)), (1, .int y1)] → W p l e rm_X1_goOn s m args below meth c H locs 0 0 (MQ below (QB post (fun (u : Dt) (H1 : Heap) => Blk D tc A (shW ad) ad u H1) (fun _ : Dt => none) A) args s rm_X1_goOn.cells rm_X1_goOn.slots A) (F0 m 49 ls []) := by
  have hx := X.1
  have hb := X.2.1
  have hown := X.2.2.2.1
  have hU := X.2.2.2.2.1.1
  intro n9
  induction n9 with
  | zero =>
    intro y1 w H locs ls hw
    exact hw.elim
  | succ n9 ih =>
    intro y1 w H locs ls hw hBw hS hl
    unfold wp_X1_goOn_49 at hw
    refine lv_iload_n hx hb dX1_goOn_49 rfl (lv_at hl 1 rfl) ?_
    refine lv_if_lt (tgt := 64) hx hb dX1_goOn_50 (by decide) (fun c4 => ?_) (fun c4 => ?_)
    · have hw := hw.1 c4
      refine lv_bipush (v := 8) hx hb dX1_goOn_64 (by decide) ?_
      refine lv_istore_n (lv' := [(1, .int 8), (0, .ref (ad 1))]) hx hb dX1_goOn_66 rfl hl (by decide) rfl (fun ls hl => ?_)
      obtain ⟨k9, hw⟩ := hw
      exact t_X1_goOn_67 X hr hT hA0   k9 _ _ _ _ _ hw hBw hS (lv_sub hl [1, 0] rfl)
    · have hw := hw.2 c4
      refine lv_aload_n hx hb dX1_goOn_53 rfl (lv_at hl 0 rfl) ?_
      refine lv_iload_n hx hb dX1_goOn_54 rfl (lv_at hl 1 rfl) ?_
      refine g_after (st0 := .int y1 :: .ref (ad 1) :: []) (rest := []) (g_V X m_X1_40 (c_X1_dropIce l D tc h0 sa y1 _ hBw hA0 hw) (hBw.recv X 1 rfl (q := (RX1, TX1, 8)) rfl) hT hS hA0 dX1_goOn_55 hl.1 rfl rfl ⟨Nat.le_of_ble_eq_true rfl, Nat.le_of_ble_eq_true rfl⟩ (Nat.le_of_ble_eq_true rfl) ⟨Nat.le_of_ble_eq_true rfl, Nat.le_of_ble_eq_true rfl⟩) hS (fun _ h => h) (fun u => []) (fun _ => rfl) (fun u H9 locs hw hP9 hz9 hk9 hS => ?_)
      obtain ⟨w9, rfl⟩ : ∃ z, z = u := ⟨_, rfl⟩
      have hBw : Blk D tc A (shW ad) ad w9 H9 := hP9
      try dsimp only at hw
      refine lv_iinc (lv' := [(1, .int (y1 + (-1))), (0, .ref (ad 1))]) hx hb dX1_goOn_58 hl (k := 1) rfl (by rfl) (by decide) rfl (fun ls hl => ?_)
      refine lv_goto (tgt := 49) hx hb dX1_goOn_61 (by decide) ?_
      exact ih _ _ _ _ _ hw hBw hS (lv_sub hl [1, 0] rfl)
def wp_X1_goOn_29 (post : Dt → Prop)   : Nat → Int32 → Dt → Prop
  | 0, _, _ => False
  | n9 + 1, y1, w => (10 ≤ y1 → ∃ k9 : Nat, wp_X1_goOn_49 post   k9 8 w) ∧ (¬ 10 ≤ y1 → wp_X1_freezeOrThaw (fun w10 => wp_X1_goOn_29 post   n9 (y1 + 1) w10) w y1)
set_option maxHeartbeats 4000000 in
set_option maxRecDepth 100000 in
theorem t_X1_goOn_29 {p : Program} {l : Launch} {e : Env} {s : State} {m : MethodId} {args : Array Value} {below : List Frame} {meth : Method} {c : Code} {D : va_G} {tc : Nat → ClassId} {h0 : Nat} {sa : Nat → Nat}  {ad : Nat → Nat} {A : Nat → Prop} {post : Dt → Prop}  (X : Cx p c s m meth cX1_goOn 2 RX1 D tc) (hr : meth.sig.returnType = (Option.none : Option FieldType)) (hT : ST h0 sa s s.heap) (hA0 : ∀ q, A q → h0 ≤ q)    : ∀ (n9 : Nat) (y1 : Int32) (w : Dt) (H : Heap) (locs : List Loc) (ls : Array Slot), wp_X1_goOn_29 post   n9 y1 w → (Blk D tc A (shW ad) ad w H) → va_S A s.heap H locs → lv_has ls 2 [(0, .ref (ad 1)), (1, .int y1)] → W p l e rm_X1_goOn s m args below meth c H locs 0 0 (MQ below (QB post (fun (u : Dt) (H1 : Heap) => Blk D tc A (shW ad) ad u H1) (fun _ : Dt => none) A) args s rm_X1_goOn.cells rm_X1_goOn.slots A) (F0 m 29 ls []) := by
  have hx := X.1
  have hb := X.2.1
  have hown := X.2.2.2.1
  have hU := X.2.2.2.2.1.1
  intro n9
  induction n9 with
  | zero =>
    intro y1 w H locs ls hw
    exact hw.elim
  | succ n9 ih =>
    intro y1 w H locs ls hw hBw hS hl
    unfold wp_X1_goOn_29 at hw
    refine lv_iload_n hx hb dX1_goOn_29 rfl (lv_at hl 1 rfl) ?_
    refine lv_bipush (v := 10) hx hb dX1_goOn_30 (by decide) ?_
    refine lv_icmp_ge (tgt := 46) hx hb dX1_goOn_32 (by decide) (fun c3 => ?_) (fun c3 => ?_)
    · have hw := hw.1 c3
      refine lv_bipush (v := 8) hx hb dX1_goOn_46 (by decide) ?_
      refine lv_istore_n (lv' := [(1, .int 8), (0, .ref (ad 1))]) hx hb dX1_goOn_48 rfl hl (by decide) rfl (fun ls hl => ?_)
      obtain ⟨k9, hw⟩ := hw
      exact t_X1_goOn_49 X hr hT hA0   k9 _ _ _ _ _ hw hBw hS (lv_sub hl [1, 0] rfl)
    · have hw := hw.2 c3
      refine lv_aload_n hx hb dX1_goOn_35 rfl (lv_at hl 0 rfl) ?_
      refine lv_iload_n hx hb dX1_goOn_36 rfl (lv_at hl 1 rfl) ?_
      refine g_after (st0 := .int y1 :: .ref (ad 1) :: []) (rest := []) (g_V X m_X1_36 (c_X1_freezeOrThaw l D tc h0 sa y1 _ hBw hA0 hw) (hBw.recv X 1 rfl (q := (RX1, TX1, 8)) rfl) hT hS hA0 dX1_goOn_37 hl.1 rfl rfl ⟨Nat.le_of_ble_eq_true rfl, Nat.le_of_ble_eq_true rfl⟩ (Nat.le_of_ble_eq_true rfl) ⟨Nat.le_of_ble_eq_true rfl, Nat.le_of_ble_eq_true rfl⟩) hS (fun _ h => h) (fun u => []) (fun _ => rfl) (fun u H9 locs hw hP9 hz9 hk9 hS => ?_)
      obtain ⟨w10, rfl⟩ : ∃ z, z = u := ⟨_, rfl⟩
      have hBw : Blk D tc A (shW ad) ad w10 H9 := hP9
      try dsimp only at hw
      refine lv_iinc (lv' := [(1, .int (y1 + 1)), (0, .ref (ad 1))]) hx hb dX1_goOn_40 hl (k := 1) rfl (by rfl) (by decide) rfl (fun ls hl => ?_)
      refine lv_goto (tgt := 29) hx hb dX1_goOn_43 (by decide) ?_
      exact ih _ _ _ _ _ hw hBw hS (lv_sub hl [1, 0] rfl)
def wp_X1_goOn (post : Dt → Prop) (w : Dt) : Prop := ∀ w1 : Dt, w1 = up2 w 2 9 ((w 2 9) + (w 1 3)) → (∀ w2 : Dt, w2 = up2 w1 1 6 ((w1 1 6) + (w1 1 3)) → (∃ k9 : Nat, wp_X1_goOn_29 post   k9 0 w2))
set_option maxHeartbeats 4000000 in
set_option maxRecDepth 100000 in
theorem c_X1_goOn (l : Launch) (D : va_G) (tc : Nat → ClassId) (h0 : Nat) (sa : Nat → Nat)  (H0 : Heap) {ad : Nat → Nat} {A : Nat → Prop} {w : Dt} (hBw : Blk D tc A (shW ad) ad w H0) (hA0 : ∀ q, A q → h0 ≤ q) {post : Dt → Prop} (hw : wp_X1_goOn post w) : MB l yX1_goOn cX1_goOn 2 (Option.none : Option FieldType) rm_X1_goOn A [.ref (ad 1)] D tc h0 sa H0 post (fun (u : Dt) (H1 : Heap) => Blk D tc A (shW ad) ad u H1) (fun _ : Dt => none) := by
  refine MB.of RX1 [(0, .ref (ad 1))] (by decide +kernel) rfl (Nat.le_of_ble_eq_true rfl) rfl ?_
  intro p e s m below meth c ls X hr hin hT hH hS hl
  subst hH
  have hx := X.1
  have hb := X.2.1
  have hown := X.2.2.2.1
  have hU := X.2.2.2.2.1.1
  unfold wp_X1_goOn at hw
  refine lv_aload_n hx hb dX1_goOn_0 rfl (lv_at hl 0 rfl) ?_
  refine g_get X dX1_goOn_1 f_X1_9 hBw 1 (v := .ref (ad 2)) rfl rfl ?_
  refine lv_bipush (v := 9) hx hb dX1_goOn_4 (by decide) ?_
  refine lv_dup2_11 hx hb dX1_goOn_6 rfl rfl ?_
  refine g_iald X dX1_goOn_7 hBw 2 rfl (by unfold vp_in; decide) (k := 9) (by decide) ?_
  refine lv_aload_n hx hb dX1_goOn_8 rfl (lv_at hl 0 rfl) ?_
  refine g_get X dX1_goOn_9 f_X1_23 hBw 1 (v := .int (w 1 3)) rfl rfl ?_
  refine lv_iadd hx hb dX1_goOn_12 ?_
  refine g_iast X dX1_goOn_13 hBw hS 2 rfl (by unfold vp_in; decide) (k := 9) (by decide)  (fun H locs hBw oq hS => ?_)
  obtain ⟨w1, ew1⟩ : ∃ z : Dt, z = up2 w 2 9 ((w 2 9) + (w 1 3)) := ⟨_, rfl⟩
  rw [← ew1] at hBw
  have hw := hw w1 ew1
  refine lv_aload_n hx hb dX1_goOn_14 rfl (lv_at hl 0 rfl) ?_
  refine lv_dup hx hb dX1_goOn_15 rfl ?_
  refine g_get X dX1_goOn_16 f_X1_33 hBw 1 (v := .int (w1 1 6)) rfl rfl ?_
  refine lv_aload_n hx hb dX1_goOn_19 rfl (lv_at hl 0 rfl) ?_
  refine g_get X dX1_goOn_20 f_X1_23 hBw 1 (v := .int (w1 1 3)) rfl rfl ?_
  refine lv_iadd hx hb dX1_goOn_23 ?_
  refine g_puti X dX1_goOn_24 f_X1_33 hBw hS 1 rfl (x := ((w1 1 6) + (w1 1 3))) rfl rfl rfl (fun H locs hBw oq hS => ?_)
  obtain ⟨w2, ew2⟩ : ∃ z : Dt, z = up2 w1 1 6 ((w1 1 6) + (w1 1 3)) := ⟨_, rfl⟩
  rw [← ew2] at hBw
  have hw := hw w2 ew2
  refine lv_iconst (v := 0) hx hb dX1_goOn_27 (by decide) ?_
  refine lv_istore_n (lv' := [(1, .int 0), (0, .ref (ad 1))]) hx hb dX1_goOn_28 rfl hl (by decide) rfl (fun ls hl => ?_)
  obtain ⟨k9, hw⟩ := hw
  exact t_X1_goOn_29 X hr hT hA0   k9 _ _ _ _ _ hw hBw hS (lv_sub hl [1, 0] rfl)
abbrev rm_X1_isWarmForPlume : Room := { frames := 0, cells := 0, slots := 0, locals := 0 }
def wp_X1_isWarmForPlume_25 (post : Int32 → Prop)   (z0 : Int32) (w : Dt) : Prop := narrow .boolean (.int z0) = .int z0 ∧ (post z0)
set_option maxHeartbeats 4000000 in
set_option maxRecDepth 100000 in
theorem t_X1_isWarmForPlume_25 {p : Program} {l : Launch} {e : Env} {s : State} {m : MethodId} {args : Array Value} {below : List Frame} {meth : Method} {c : Code} {D : va_G} {tc : Nat → ClassId} {h0 : Nat} {sa : Nat → Nat}  {ad : Nat → Nat} {A : Nat → Prop} {post : Int32 → Prop}  (X : Cx p c s m meth cX1_isWarmForPlume 1 RX1 D tc) (hr : meth.sig.returnType = (Option.some FieldType.boolean)) (hT : ST h0 sa s s.heap) (hA0 : ∀ q, (fun _ => False) q → h0 ≤ q)    : ∀ (z0 : Int32) (w : Dt) (locs : List Loc) (ls : Array Slot), wp_X1_isWarmForPlume_25 post   z0 w → (Blk D tc A (shW ad) ad w s.heap) → va_S (fun _ => False) s.heap s.heap locs → lv_has ls 1 [] → W p l e rm_X1_isWarmForPlume s m args below meth c s.heap locs 0 0 (MQ below (QB post (fun (_ : Int32) (H1 : Heap) => H1 = s.heap) (fun u : Int32 => some (.int u)) (fun _ => False)) args s rm_X1_isWarmForPlume.cells rm_X1_isWarmForPlume.slots (fun _ => False)) (F0 m 25 ls [.int z0]) := by
  have hx := X.1
  have hb := X.2.1
  have hown := X.2.2.2.1
  have hU := X.2.2.2.2.1.1
  intro z0 w  locs ls hw hBw hS hl
  unfold wp_X1_isWarmForPlume_25 at hw
  obtain ⟨o2, hw⟩ := hw
  exact e_z X hr o2 dX1_isWarmForPlume_25 hS (z0) rfl hw rfl ⟨Nat.le_of_ble_eq_true rfl, Nat.le_of_ble_eq_true rfl⟩
def wp_X1_isWarmForPlume (post : Int32 → Prop) (w : Dt) : Prop := (((w 2 9) - (w 2 0)) < 200 → wp_X1_isWarmForPlume_25 post   0 w) ∧ (¬ ((w 2 9) - (w 2 0)) < 200 → wp_X1_isWarmForPlume_25 post   1 w)
set_option maxHeartbeats 4000000 in
set_option maxRecDepth 100000 in
theorem c_X1_isWarmForPlume (l : Launch) (D : va_G) (tc : Nat → ClassId) (h0 : Nat) (sa : Nat → Nat)  (H0 : Heap) {ad : Nat → Nat} {A : Nat → Prop} {w : Dt} (hBw : Blk D tc A (shW ad) ad w H0)  {post : Int32 → Prop} (hw : wp_X1_isWarmForPlume post w) : MB l yX1_isWarmForPlume cX1_isWarmForPlume 1 (Option.some FieldType.boolean) rm_X1_isWarmForPlume (fun _ => False) [.ref (ad 1)] D tc h0 sa H0 post (fun (_ : Int32) (H1 : Heap) => H1 = H0) (fun u : Int32 => some (.int u)) := by
  have hA0 : ∀ q : Nat, (fun _ : Nat => False) q → h0 ≤ q := fun _ h => h.elim
  refine MB.of RX1 [(0, .ref (ad 1))] (by decide +kernel) rfl (Nat.le_of_ble_eq_true rfl) rfl ?_
  intro p e s m below meth c ls X hr hin hT hH hS hl
  subst hH
  have hx := X.1
  have hb := X.2.1
  have hown := X.2.2.2.1
  have hU := X.2.2.2.2.1.1
  unfold wp_X1_isWarmForPlume at hw
  refine lv_aload_n hx hb dX1_isWarmForPlume_0 rfl (lv_at hl 0 rfl) ?_
  refine g_get X dX1_isWarmForPlume_1 f_X1_9 hBw 1 (v := .ref (ad 2)) rfl rfl ?_
  refine lv_bipush (v := 9) hx hb dX1_isWarmForPlume_4 (by decide) ?_
  refine g_iald X dX1_isWarmForPlume_6 hBw 2 rfl (by unfold vp_in; decide) (k := 9) (by decide) ?_
  refine lv_aload_n hx hb dX1_isWarmForPlume_7 rfl (lv_at hl 0 rfl) ?_
  refine g_get X dX1_isWarmForPlume_8 f_X1_9 hBw 1 (v := .ref (ad 2)) rfl rfl ?_
  refine lv_iconst (v := 0) hx hb dX1_isWarmForPlume_11 (by decide) ?_
  refine g_iald X dX1_isWarmForPlume_12 hBw 2 rfl (by unfold vp_in; decide) (k := 0) (by decide) ?_
  refine lv_isub hx hb dX1_isWarmForPlume_13 ?_
  refine lv_sipush (v := 200) hx hb dX1_isWarmForPlume_14 (by decide) ?_
  refine lv_icmp_lt (tgt := 24) hx hb dX1_isWarmForPlume_17 (by decide) (fun c1 => ?_) (fun c1 => ?_)
  · have hw := hw.1 c1
    refine lv_iconst (v := 0) hx hb dX1_isWarmForPlume_24 (by decide) ?_
    exact t_X1_isWarmForPlume_25 X hr hT hA0   _ _ _ _ hw hBw hS (lv_sub hl [] rfl)
  · have hw := hw.2 c1
    refine lv_iconst (v := 1) hx hb dX1_isWarmForPlume_20 (by decide) ?_
    refine lv_goto (tgt := 25) hx hb dX1_isWarmForPlume_21 (by decide) ?_
    exact t_X1_isWarmForPlume_25 X hr hT hA0   _ _ _ _ hw hBw hS (lv_sub hl [] rfl)
abbrev rm_X1_liftPlume : Room := { frames := 0, cells := 0, slots := 0, locals := 0 }
def wp_X1_liftPlume_2 (post : Dt → Prop)   : Nat → Int32 → Dt → Prop
  | 0, _, _ => False
  | n9 + 1, y1, w => (3 ≤ y1 → post w) ∧ (¬ 3 ≤ y1 → vp_in y1 3 ∧ (∀ v3 : Int32, v3 = ((w ((9 : Int32).toNatClampNeg + 22) y1.toNatClampNeg) / 2) → (∀ w4 : Dt, w4 = up2 w ((9 : Int32).toNatClampNeg + 22) y1.toNatClampNeg ((w ((9 : Int32).toNatClampNeg + 22) y1.toNatClampNeg) - v3) → (∀ w5 : Dt, w5 = up2 w4 ((3 : Int32).toNatClampNeg + 22) y1.toNatClampNeg ((w4 ((3 : Int32).toNatClampNeg + 22) y1.toNatClampNeg) + v3) → (wp_X1_liftPlume_2 post   n9 (y1 + 1) w5)))))
set_option maxHeartbeats 4000000 in
set_option maxRecDepth 100000 in
theorem t_X1_liftPlume_2 {p : Program} {l : Launch} {e : Env} {s : State} {m : MethodId} {args : Array Value} {below : List Frame} {meth : Method} {c : Code} {D : va_G} {tc : Nat → ClassId} {h0 : Nat} {sa : Nat → Nat}  {ad : Nat → Nat} {A : Nat → Prop} {post : Dt → Prop}  (X : Cx p c s m meth cX1_liftPlume 3 RX1 D tc) (hr : meth.sig.returnType = (Option.none : Option FieldType)) (hT : ST h0 sa s s.heap) (hA0 : ∀ q, A q → h0 ≤ q)    : ∀ (n9 : Nat) (y1 : Int32) (w : Dt) (H : Heap) (locs : List Loc) (ls : Array Slot), wp_X1_liftPlume_2 post   n9 y1 w → (Blk D tc A (shW ad) ad w H) → va_S A s.heap H locs → lv_has ls 3 [(0, .ref (ad 1)), (1, .int y1)] → W p l e rm_X1_liftPlume s m args below meth c H locs 0 0 (MQ below (QB post (fun (u : Dt) (H1 : Heap) => Blk D tc A (shW ad) ad u H1) (fun _ : Dt => none) A) args s rm_X1_liftPlume.cells rm_X1_liftPlume.slots A) (F0 m 2 ls []) := by
  have hx := X.1
  have hb := X.2.1
  have hown := X.2.2.2.1
  have hU := X.2.2.2.2.1.1
  intro n9
  induction n9 with
  | zero =>
    intro y1 w H locs ls hw
    exact hw.elim
  | succ n9 ih =>
    intro y1 w H locs ls hw hBw hS hl
    unfold wp_X1_liftPlume_2 at hw
    refine lv_iload_n hx hb dX1_liftPlume_2 rfl (lv_at hl 1 rfl) ?_
    refine lv_iconst (v := 3) hx hb dX1_liftPlume_3 (by decide) ?_
    refine lv_icmp_ge (tgt := 50) hx hb dX1_liftPlume_4 (by decide) (fun c1 => ?_) (fun c1 => ?_)
    · have hw := hw.1 c1
      exact e_v X hr dX1_liftPlume_50 hS (w) rfl hw hBw ⟨Nat.le_of_ble_eq_true rfl, Nat.le_of_ble_eq_true rfl⟩
    · have hw := hw.2 c1
      refine lv_aload_n hx hb dX1_liftPlume_7 rfl (lv_at hl 0 rfl) ?_
      refine g_get X dX1_liftPlume_8 f_X1_17 hBw 1 (v := .ref (ad 3)) rfl rfl ?_
      refine lv_bipush (v := 9) hx hb dX1_liftPlume_11 (by decide) ?_
      refine g_aaldA X dX1_liftPlume_13 hBw 3 rfl (by unfold vp_in; decide) (v := .ref (ad ((9 : Int32).toNatClampNeg + 22))) (rows_at (by unfold vp_in; decide)) ?_
      refine lv_iload_n hx hb dX1_liftPlume_14 rfl (lv_at hl 1 rfl) ?_
      obtain ⟨o2, hw⟩ := hw
      refine g_iald X dX1_liftPlume_15 hBw ((9 : Int32).toNatClampNeg + 22) (cw_row22 (by unfold vp_in; decide)) o2 rfl ?_
      refine lv_iconst (v := 2) hx hb dX1_liftPlume_16 (by decide) ?_
      refine lv_idiv hx hb dX1_liftPlume_17 (by decide) ?_
      refine lv_topi (fun v3 ev3 => ?_)
      have hw := hw v3 ev3
      refine lv_istore_n (lv' := [(2, .int v3), (0, .ref (ad 1)), (1, .int y1)]) hx hb dX1_liftPlume_18 rfl hl (by decide) rfl (fun ls hl => ?_)
      refine lv_aload_n hx hb dX1_liftPlume_19 rfl (lv_at hl 1 rfl) ?_
      refine g_get X dX1_liftPlume_20 f_X1_17 hBw 1 (v := .ref (ad 3)) rfl rfl ?_
      refine lv_bipush (v := 9) hx hb dX1_liftPlume_23 (by decide) ?_
      refine g_aaldA X dX1_liftPlume_25 hBw 3 rfl (by unfold vp_in; decide) (v := .ref (ad ((9 : Int32).toNatClampNeg + 22))) (rows_at (by unfold vp_in; decide)) ?_
      refine lv_iload_n hx hb dX1_liftPlume_26 rfl (lv_at hl 2 rfl) ?_
      refine lv_dup2_11 hx hb dX1_liftPlume_27 rfl rfl ?_
      refine g_iald X dX1_liftPlume_28 hBw ((9 : Int32).toNatClampNeg + 22) (cw_row22 (by unfold vp_in; decide)) o2 rfl ?_
      refine lv_iload_n hx hb dX1_liftPlume_29 rfl (lv_at hl 0 rfl) ?_
      refine lv_isub hx hb dX1_liftPlume_30 ?_
      refine g_iast X dX1_liftPlume_31 hBw hS ((9 : Int32).toNatClampNeg + 22) (cw_row22 (by unfold vp_in; decide)) o2 rfl  (fun H locs hBw oq hS => ?_)
      obtain ⟨w4, ew4⟩ : ∃ z : Dt, z = up2 w ((9 : Int32).toNatClampNeg + 22) y1.toNatClampNeg ((w ((9 : Int32).toNatClampNeg + 22) y1.toNatClampNeg) - v3) := ⟨_, rfl⟩
      rw [← ew4] at hBw
      have hw := hw w4 ew4
      refine lv_aload_n hx hb dX1_liftPlume_32 rfl (lv_at hl 1 rfl) ?_
      refine g_get X dX1_liftPlume_33 f_X1_17 hBw 1 (v := .ref (ad 3)) rfl rfl ?_
      refine lv_iconst (v := 3) hx hb dX1_liftPlume_36 (by decide) ?_
      refine g_aaldA X dX1_liftPlume_37 hBw 3 rfl (by unfold vp_in; decide) (v := .ref (ad ((3 : Int32).toNatClampNeg + 22))) (rows_at (by unfold vp_in; decide)) ?_
      refine lv_iload_n hx hb dX1_liftPlume_38 rfl (lv_at hl 2 rfl) ?_
      refine lv_dup2_11 hx hb dX1_liftPlume_39 rfl rfl ?_
      refine g_iald X dX1_liftPlume_40 hBw ((3 : Int32).toNatClampNeg + 22) (cw_row22 (by unfold vp_in; decide)) o2 rfl ?_
      refine lv_iload_n hx hb dX1_liftPlume_41 rfl (lv_at hl 0 rfl) ?_
      refine lv_iadd hx hb dX1_liftPlume_42 ?_
      refine g_iast X dX1_liftPlume_43 hBw hS ((3 : Int32).toNatClampNeg + 22) (cw_row22 (by unfold vp_in; decide)) o2 rfl  (fun H locs hBw oq hS => ?_)
      obtain ⟨w5, ew5⟩ : ∃ z : Dt, z = up2 w4 ((3 : Int32).toNatClampNeg + 22) y1.toNatClampNeg ((w4 ((3 : Int32).toNatClampNeg + 22) y1.toNatClampNeg) + v3) := ⟨_, rfl⟩
      rw [← ew5] at hBw
      have hw := hw w5 ew5
      refine lv_iinc (lv' := [(1, .int (y1 + 1)), (2, .int v3), (0, .ref (ad 1))]) hx hb dX1_liftPlume_44 hl (k := 2) rfl (by rfl) (by decide) rfl (fun ls hl => ?_)
      refine lv_goto (tgt := 2) hx hb dX1_liftPlume_47 (by decide) ?_
      exact ih _ _ _ _ _ hw hBw hS (lv_sub hl [2, 0] rfl)
def wp_X1_liftPlume (post : Dt → Prop) (w : Dt) : Prop := ∃ k9 : Nat, wp_X1_liftPlume_2 post   k9 0 w
set_option maxHeartbeats 4000000 in
set_option maxRecDepth 100000 in
theorem c_X1_liftPlume (l : Launch) (D : va_G) (tc : Nat → ClassId) (h0 : Nat) (sa : Nat → Nat)  (H0 : Heap) {ad : Nat → Nat} {A : Nat → Prop} {w : Dt} (hBw : Blk D tc A (shW ad) ad w H0) (hA0 : ∀ q, A q → h0 ≤ q) {post : Dt → Prop} (hw : wp_X1_liftPlume post w) : MB l yX1_liftPlume cX1_liftPlume 3 (Option.none : Option FieldType) rm_X1_liftPlume A [.ref (ad 1)] D tc h0 sa H0 post (fun (u : Dt) (H1 : Heap) => Blk D tc A (shW ad) ad u H1) (fun _ : Dt => none) := by
  refine MB.of RX1 [(0, .ref (ad 1))] (by decide +kernel) rfl (Nat.le_of_ble_eq_true rfl) rfl ?_
  intro p e s m below meth c ls X hr hin hT hH hS hl
  subst hH
  have hx := X.1
  have hb := X.2.1
  have hown := X.2.2.2.1
  have hU := X.2.2.2.2.1.1
  unfold wp_X1_liftPlume at hw
  refine lv_iconst (v := 0) hx hb dX1_liftPlume_0 (by decide) ?_
  refine lv_istore_n (lv' := [(1, .int 0), (0, .ref (ad 1))]) hx hb dX1_liftPlume_1 rfl hl (by decide) rfl (fun ls hl => ?_)
  obtain ⟨k9, hw⟩ := hw
  exact t_X1_liftPlume_2 X hr hT hA0   k9 _ _ _ _ _ hw hBw hS (lv_sub hl [1, 0] rfl)
abbrev rm_X1_isBalanced : Room := { frames := 2, cells := 0, slots := 0, locals := 46 }
def wp_X1_isBalanced_66 (post : Int32 → Prop)   (z0 : Int32) (w : Dt) : Prop := narrow .boolean (.int z0) = .int z0 ∧ (post z0)
set_option maxHeartbeats 4000000 in
set_option maxRecDepth 100000 in
theorem t_X1_isBalanced_66 {p : Program} {l : Launch} {e : Env} {s : State} {m : MethodId} {args : Array Value} {below : List Frame} {meth : Method} {c : Code} {D : va_G} {tc : Nat → ClassId} {h0 : Nat} {sa : Nat → Nat}  {ad : Nat → Nat} {A : Nat → Prop} {post : Int32 → Prop}  (X : Cx p c s m meth cX1_isBalanced 4 RX1 D tc) (hr : meth.sig.returnType = (Option.some FieldType.boolean)) (hT : ST h0 sa s s.heap) (hA0 : ∀ q, (fun _ => False) q → h0 ≤ q)    : ∀ (z0 : Int32) (w : Dt) (locs : List Loc) (ls : Array Slot), wp_X1_isBalanced_66 post   z0 w → (Blk D tc A (shW ad) ad w s.heap) → va_S (fun _ => False) s.heap s.heap locs → lv_has ls 4 [] → W p l e rm_X1_isBalanced s m args below meth c s.heap locs 0 0 (MQ below (QB post (fun (_ : Int32) (H1 : Heap) => H1 = s.heap) (fun u : Int32 => some (.int u)) (fun _ => False)) args s rm_X1_isBalanced.cells rm_X1_isBalanced.slots (fun _ => False)) (F0 m 66 ls [.int z0]) := by
  have hx := X.1
  have hb := X.2.1
  have hown := X.2.2.2.1
  have hU := X.2.2.2.2.1.1
  intro z0 w  locs ls hw hBw hS hl
  unfold wp_X1_isBalanced_66 at hw
  obtain ⟨o3, hw⟩ := hw
  exact e_z X hr o3 dX1_isBalanced_66 hS (z0) rfl hw rfl ⟨Nat.le_of_ble_eq_true rfl, Nat.le_of_ble_eq_true rfl⟩
def wp_X1_isBalanced_65 (post : Int32 → Prop)   (w : Dt) : Prop := wp_X1_isBalanced_66 post   0 w
set_option maxHeartbeats 4000000 in
set_option maxRecDepth 100000 in
theorem t_X1_isBalanced_65 {p : Program} {l : Launch} {e : Env} {s : State} {m : MethodId} {args : Array Value} {below : List Frame} {meth : Method} {c : Code} {D : va_G} {tc : Nat → ClassId} {h0 : Nat} {sa : Nat → Nat}  {ad : Nat → Nat} {A : Nat → Prop} {post : Int32 → Prop}  (X : Cx p c s m meth cX1_isBalanced 4 RX1 D tc) (hr : meth.sig.returnType = (Option.some FieldType.boolean)) (hT : ST h0 sa s s.heap) (hA0 : ∀ q, (fun _ => False) q → h0 ≤ q)    : ∀ (w : Dt) (locs : List Loc) (ls : Array Slot), wp_X1_isBalanced_65 post   w → (Blk D tc A (shW ad) ad w s.heap) → va_S (fun _ => False) s.heap s.heap locs → lv_has ls 4 [] → W p l e rm_X1_isBalanced s m args below meth c s.heap locs 0 0 (MQ below (QB post (fun (_ : Int32) (H1 : Heap) => H1 = s.heap) (fun u : Int32 => some (.int u)) (fun _ => False)) args s rm_X1_isBalanced.cells rm_X1_isBalanced.slots (fun _ => False)) (F0 m 65 ls []) := by
  have hx := X.1
  have hb := X.2.1
  have hown := X.2.2.2.1
  have hU := X.2.2.2.2.1.1
  intro w  locs ls hw hBw hS hl
  unfold wp_X1_isBalanced_65 at hw
  refine lv_iconst (v := 0) hx hb dX1_isBalanced_65 (by decide) ?_
  exact t_X1_isBalanced_66 X hr hT hA0   _ _ _ _ hw hBw hS (lv_sub hl [] rfl)
def wp_X1_isBalanced_6 (post : Int32 → Prop)   : Nat → Int32 → Int32 → Int32 → Dt → Prop
  | 0, _, _, _, _ => False
  | n9 + 1, y1, y2, y3, w => (10 ≤ y3 → (¬ y1 = (((w 1 5) - (w 1 4)) + (w 1 6)) → wp_X1_isBalanced_65 post   w) ∧ (y1 = (((w 1 5) - (w 1 4)) + (w 1 6)) → (¬ y2 = (w 1 7) → wp_X1_isBalanced_65 post   w) ∧ (y2 = (w 1 7) → wp_X1_isBalanced_66 post   1 w))) ∧ (¬ 10 ≤ y3 → vp_in y3 10 ∧ (∀ v6 : Int32, v6 = (y1 + (w 2 y3.toNatClampNeg)) → (wp_X1_amountIn (fun r7 => wp_X1_isBalanced_6 post   n9 v6 (y2 + r7) (y3 + 1) w) w y3)))
set_option maxHeartbeats 4000000 in
set_option maxRecDepth 100000 in
theorem t_X1_isBalanced_6 {p : Program} {l : Launch} {e : Env} {s : State} {m : MethodId} {args : Array Value} {below : List Frame} {meth : Method} {c : Code} {D : va_G} {tc : Nat → ClassId} {h0 : Nat} {sa : Nat → Nat}  {ad : Nat → Nat} {A : Nat → Prop} {post : Int32 → Prop}  (X : Cx p c s m meth cX1_isBalanced 4 RX1 D tc) (hr : meth.sig.returnType = (Option.some FieldType.boolean)) (hT : ST h0 sa s s.heap) (hA0 : ∀ q, (fun _ => False) q → h0 ≤ q)    : ∀ (n9 : Nat) (y1 : Int32) (y2 : Int32) (y3 : Int32) (w : Dt) (locs : List Loc) (ls : Array Slot), wp_X1_isBalanced_6 post   n9 y1 y2 y3 w → (Blk D tc A (shW ad) ad w s.heap) → va_S (fun _ => False) s.heap s.heap locs → lv_has ls 4 [(0, .ref (ad 1)), (1, .int y1), (2, .int y2), (3, .int y3)] → W p l e rm_X1_isBalanced s m args below meth c s.heap locs 0 0 (MQ below (QB post (fun (_ : Int32) (H1 : Heap) => H1 = s.heap) (fun u : Int32 => some (.int u)) (fun _ => False)) args s rm_X1_isBalanced.cells rm_X1_isBalanced.slots (fun _ => False)) (F0 m 6 ls []) := by
  have hx := X.1
  have hb := X.2.1
  have hown := X.2.2.2.1
  have hU := X.2.2.2.2.1.1
  intro n9
  induction n9 with
  | zero =>
    intro y1 y2 y3 w  locs ls hw
    exact hw.elim
  | succ n9 ih =>
    intro y1 y2 y3 w  locs ls hw hBw hS hl
    unfold wp_X1_isBalanced_6 at hw
    refine lv_iload_n hx hb dX1_isBalanced_6 rfl (lv_at hl 3 rfl) ?_
    refine lv_bipush (v := 10) hx hb dX1_isBalanced_7 (by decide) ?_
    refine lv_icmp_ge (tgt := 35) hx hb dX1_isBalanced_9 (by decide) (fun c1 => ?_) (fun c1 => ?_)
    · have hw := hw.1 c1
      refine lv_iload_n hx hb dX1_isBalanced_35 rfl (lv_at hl 1 rfl) ?_
      refine lv_aload_n hx hb dX1_isBalanced_36 rfl (lv_at hl 0 rfl) ?_
      refine g_get X dX1_isBalanced_37 f_X1_27 hBw 1 (v := .int (w 1 5)) rfl rfl ?_
      refine lv_aload_n hx hb dX1_isBalanced_40 rfl (lv_at hl 0 rfl) ?_
      refine g_get X dX1_isBalanced_41 f_X1_46 hBw 1 (v := .int (w 1 4)) rfl rfl ?_
      refine lv_isub hx hb dX1_isBalanced_44 ?_
      refine lv_aload_n hx hb dX1_isBalanced_45 rfl (lv_at hl 0 rfl) ?_
      refine g_get X dX1_isBalanced_46 f_X1_33 hBw 1 (v := .int (w 1 6)) rfl rfl ?_
      refine lv_iadd hx hb dX1_isBalanced_49 ?_
      refine lv_icmp_ne (tgt := 65) hx hb dX1_isBalanced_50 (by decide) (fun c2 => ?_) (fun c2 => ?_)
      · have hw := hw.1 c2
        exact t_X1_isBalanced_65 X hr hT hA0   _ _ _ hw hBw hS (lv_sub hl [] rfl)
      · have hw := hw.2 c2
        refine lv_iload_n hx hb dX1_isBalanced_53 rfl (lv_at hl 2 rfl) ?_
        refine lv_aload_n hx hb dX1_isBalanced_54 rfl (lv_at hl 0 rfl) ?_
        refine g_get X dX1_isBalanced_55 f_X1_30 hBw 1 (v := .int (w 1 7)) rfl rfl ?_
        refine lv_icmp_ne (tgt := 65) hx hb dX1_isBalanced_58 (by decide) (fun c4 => ?_) (fun c4 => ?_)
        · have hw := hw.1 c4
          exact t_X1_isBalanced_65 X hr hT hA0   _ _ _ hw hBw hS (lv_sub hl [] rfl)
        · have hw := hw.2 c4
          refine lv_iconst (v := 1) hx hb dX1_isBalanced_61 (by decide) ?_
          refine lv_goto (tgt := 66) hx hb dX1_isBalanced_62 (by decide) ?_
          exact t_X1_isBalanced_66 X hr hT hA0   _ _ _ _ hw hBw hS (lv_sub hl [] rfl)
    · have hw := hw.2 c1
      refine lv_iload_n hx hb dX1_isBalanced_12 rfl (lv_at hl 1 rfl) ?_
      refine lv_aload_n hx hb dX1_isBalanced_13 rfl (lv_at hl 0 rfl) ?_
      refine g_get X dX1_isBalanced_14 f_X1_9 hBw 1 (v := .ref (ad 2)) rfl rfl ?_
      refine lv_iload_n hx hb dX1_isBalanced_17 rfl (lv_at hl 3 rfl) ?_
      obtain ⟨o5, hw⟩ := hw
      refine g_iald X dX1_isBalanced_18 hBw 2 rfl o5 rfl ?_
      refine lv_iadd hx hb dX1_isBalanced_19 ?_
      refine lv_topi (fun v6 ev6 => ?_)
      have hw := hw v6 ev6
      refine lv_istore_n (lv' := [(1, .int v6), (0, .ref (ad 1)), (2, .int y2), (3, .int y3)]) hx hb dX1_isBalanced_20 rfl hl (by decide) rfl (fun ls hl => ?_)
      refine lv_iload_n hx hb dX1_isBalanced_21 rfl (lv_at hl 2 rfl) ?_
      refine lv_aload_n hx hb dX1_isBalanced_22 rfl (lv_at hl 1 rfl) ?_
      refine lv_iload_n hx hb dX1_isBalanced_23 rfl (lv_at hl 3 rfl) ?_
      refine g_after (st0 := .int y3 :: .ref (ad 1) :: [.int y2]) (rest := [.int y2]) (g_V X m_X1_68 (c_X1_amountIn l D tc h0 sa y3 _ hBw hw) (hBw.recv X 1 rfl (q := (RX1, TX1, 8)) rfl) hT hS hA0 dX1_isBalanced_24 hl.1 rfl rfl ⟨Nat.le_of_ble_eq_true rfl, Nat.le_of_ble_eq_true rfl⟩ (Nat.le_of_ble_eq_true rfl) ⟨Nat.le_of_ble_eq_true rfl, Nat.le_of_ble_eq_true rfl⟩) hS (fun _ h => h.elim) (fun u => .int u :: [.int y2]) (fun _ => rfl) (fun u H9 locs hw hP9 hz9 hk9 hS => ?_)
      have e9 : H9 = _ := hP9
      rw [e9] at hS ⊢
      obtain ⟨r7, rfl⟩ : ∃ z, z = u := ⟨_, rfl⟩
      try dsimp only at hw
      refine lv_iadd hx hb dX1_isBalanced_27 ?_
      refine lv_istore_n (lv' := [(2, .int (y2 + r7)), (1, .int v6), (0, .ref (ad 1)), (3, .int y3)]) hx hb dX1_isBalanced_28 rfl hl (by decide) rfl (fun ls hl => ?_)
      refine lv_iinc (lv' := [(3, .int (y3 + 1)), (2, .int (y2 + r7)), (1, .int v6), (0, .ref (ad 1))]) hx hb dX1_isBalanced_29 hl (k := 3) rfl (by rfl) (by decide) rfl (fun ls hl => ?_)
      refine lv_goto (tgt := 6) hx hb dX1_isBalanced_32 (by decide) ?_
      exact ih _ _ _ _ _ _ hw hBw hS (lv_sub hl [3, 2, 1, 0] rfl)
def wp_X1_isBalanced (post : Int32 → Prop) (w : Dt) : Prop := ∃ k9 : Nat, wp_X1_isBalanced_6 post   k9 0 0 0 w
set_option maxHeartbeats 4000000 in
set_option maxRecDepth 100000 in
theorem c_X1_isBalanced (l : Launch) (D : va_G) (tc : Nat → ClassId) (h0 : Nat) (sa : Nat → Nat)  (H0 : Heap) {ad : Nat → Nat} {A : Nat → Prop} {w : Dt} (hBw : Blk D tc A (shW ad) ad w H0)  {post : Int32 → Prop} (hw : wp_X1_isBalanced post w) : MB l yX1_isBalanced cX1_isBalanced 4 (Option.some FieldType.boolean) rm_X1_isBalanced (fun _ => False) [.ref (ad 1)] D tc h0 sa H0 post (fun (_ : Int32) (H1 : Heap) => H1 = H0) (fun u : Int32 => some (.int u)) := by
  have hA0 : ∀ q : Nat, (fun _ : Nat => False) q → h0 ≤ q := fun _ h => h.elim
  refine MB.of RX1 [(0, .ref (ad 1))] (by decide +kernel) rfl (Nat.le_of_ble_eq_true rfl) rfl ?_
  intro p e s m below meth c ls X hr hin hT hH hS hl
  subst hH
  have hx := X.1
  have hb := X.2.1
  have hown := X.2.2.2.1
  have hU := X.2.2.2.2.1.1
  unfold wp_X1_isBalanced at hw
  refine lv_iconst (v := 0) hx hb dX1_isBalanced_0 (by decide) ?_
  refine lv_istore_n (lv' := [(1, .int 0), (0, .ref (ad 1))]) hx hb dX1_isBalanced_1 rfl hl (by decide) rfl (fun ls hl => ?_)
  refine lv_iconst (v := 0) hx hb dX1_isBalanced_2 (by decide) ?_
  refine lv_istore_n (lv' := [(2, .int 0), (1, .int 0), (0, .ref (ad 1))]) hx hb dX1_isBalanced_3 rfl hl (by decide) rfl (fun ls hl => ?_)
  refine lv_iconst (v := 0) hx hb dX1_isBalanced_4 (by decide) ?_
  refine lv_istore_n (lv' := [(3, .int 0), (2, .int 0), (1, .int 0), (0, .ref (ad 1))]) hx hb dX1_isBalanced_5 rfl hl (by decide) rfl (fun ls hl => ?_)
  obtain ⟨k9, hw⟩ := hw
  exact t_X1_isBalanced_6 X hr hT hA0   k9 _ _ _ _ _ _ hw hBw hS (lv_sub hl [3, 2, 1, 0] rfl)
abbrev rm_X1_addTo : Room := { frames := 2, cells := 0, slots := 0, locals := 46 }
def wp_X1_addTo_5 (post : Int64 → Prop)   : Nat → Int64 → Int32 → Dt → Prop
  | 0, _, _, _ => False
  | n9 + 1, y3, y5, w => (10 ≤ y5 → post y3) ∧ (¬ 10 ≤ y5 → vp_in y5 10 ∧ (∀ v3 : Int64, v3 = ((31 * y3) + (w 2 y5.toNatClampNeg).toInt64) → (wp_X1_amountIn (fun r4 => wp_X1_addTo_5 post   n9 ((31 * v3) + r4.toInt64) (y5 + 1) w) w y5)))
set_option maxHeartbeats 4000000 in
set_option maxRecDepth 100000 in
theorem t_X1_addTo_5 {p : Program} {l : Launch} {e : Env} {s : State} {m : MethodId} {args : Array Value} {below : List Frame} {meth : Method} {c : Code} {D : va_G} {tc : Nat → ClassId} {h0 : Nat} {sa : Nat → Nat}  {ad : Nat → Nat} {A : Nat → Prop} {post : Int64 → Prop}  (X : Cx p c s m meth cX1_addTo 6 RX1 D tc) (hr : meth.sig.returnType = (Option.some FieldType.long)) (hT : ST h0 sa s s.heap) (hA0 : ∀ q, (fun _ => False) q → h0 ≤ q)    : ∀ (n9 : Nat) (y3 : Int64) (y5 : Int32) (w : Dt) (locs : List Loc) (ls : Array Slot), wp_X1_addTo_5 post   n9 y3 y5 w → (Blk D tc A (shW ad) ad w s.heap) → va_S (fun _ => False) s.heap s.heap locs → lv_has ls 6 [(0, .ref (ad 1)), (3, .long y3), (5, .int y5)] → W p l e rm_X1_addTo s m args below meth c s.heap locs 0 0 (MQ below (QB post (fun (_ : Int64) (H1 : Heap) => H1 = s.heap) (fun u : Int64 => some (.long u)) (fun _ => False)) args s rm_X1_addTo.cells rm_X1_addTo.slots (fun _ => False)) (F0 m 5 ls []) := by
  have hx := X.1
  have hb := X.2.1
  have hown := X.2.2.2.1
  have hU := X.2.2.2.2.1.1
  intro n9
  induction n9 with
  | zero =>
    intro y3 y5 w  locs ls hw
    exact hw.elim
  | succ n9 ih =>
    intro y3 y5 w  locs ls hw hBw hS hl
    unfold wp_X1_addTo_5 at hw
    refine lv_iload hx hb dX1_addTo_5 (lv_at hl 2 rfl) ?_
    refine lv_bipush (v := 10) hx hb dX1_addTo_7 (by decide) ?_
    refine lv_icmp_ge (tgt := 47) hx hb dX1_addTo_9 (by decide) (fun c1 => ?_) (fun c1 => ?_)
    · have hw := hw.1 c1
      refine lv_lload_n hx hb dX1_addTo_47 rfl (lv_at hl 1 rfl) ?_
      exact e_l X hr dX1_addTo_48 hS (y3) rfl hw rfl ⟨Nat.le_of_ble_eq_true rfl, Nat.le_of_ble_eq_true rfl⟩
    · have hw := hw.2 c1
      refine lv_ldc2 (v := 31) hx hb hown (hU.use w_282) dX1_addTo_12 ?_
      refine lv_lload_n hx hb dX1_addTo_15 rfl (lv_at hl 1 rfl) ?_
      refine lv_lmul hx hb dX1_addTo_16 ?_
      refine lv_aload_n hx hb dX1_addTo_17 rfl (lv_at hl 0 rfl) ?_
      refine g_get X dX1_addTo_18 f_X1_9 hBw 1 (v := .ref (ad 2)) rfl rfl ?_
      refine lv_iload hx hb dX1_addTo_21 (lv_at hl 2 rfl) ?_
      obtain ⟨o2, hw⟩ := hw
      refine g_iald X dX1_addTo_23 hBw 2 rfl o2 rfl ?_
      refine lv_i2l (v := (w 2 y5.toNatClampNeg).toInt64) hx hb dX1_addTo_24 rfl ?_
      refine lv_ladd hx hb dX1_addTo_25 ?_
      refine lv_topl (fun v3 ev3 => ?_)
      have hw := hw v3 ev3
      refine lv_lstore_n (lv' := [(3, .long v3), (0, .ref (ad 1)), (5, .int y5)]) hx hb dX1_addTo_26 rfl hl (by decide) rfl (fun ls hl => ?_)
      refine lv_ldc2 (v := 31) hx hb hown (hU.use w_282) dX1_addTo_27 ?_
      refine lv_lload_n hx hb dX1_addTo_30 rfl (lv_at hl 0 rfl) ?_
      refine lv_lmul hx hb dX1_addTo_31 ?_
      refine lv_aload_n hx hb dX1_addTo_32 rfl (lv_at hl 1 rfl) ?_
      refine lv_iload hx hb dX1_addTo_33 (lv_at hl 2 rfl) ?_
      refine g_after (st0 := .int y5 :: .ref (ad 1) :: [.long (31 * v3)]) (rest := [.long (31 * v3)]) (g_V X m_X1_68 (c_X1_amountIn l D tc h0 sa y5 _ hBw hw) (hBw.recv X 1 rfl (q := (RX1, TX1, 8)) rfl) hT hS hA0 dX1_addTo_35 hl.1 rfl rfl ⟨Nat.le_of_ble_eq_true rfl, Nat.le_of_ble_eq_true rfl⟩ (Nat.le_of_ble_eq_true rfl) ⟨Nat.le_of_ble_eq_true rfl, Nat.le_of_ble_eq_true rfl⟩) hS (fun _ h => h.elim) (fun u => .int u :: [.long (31 * v3)]) (fun _ => rfl) (fun u H9 locs hw hP9 hz9 hk9 hS => ?_)
      have e9 : H9 = _ := hP9
      rw [e9] at hS ⊢
      obtain ⟨r4, rfl⟩ : ∃ z, z = u := ⟨_, rfl⟩
      try dsimp only at hw
      refine lv_i2l (v := r4.toInt64) hx hb dX1_addTo_38 rfl ?_
      refine lv_ladd hx hb dX1_addTo_39 ?_
      refine lv_lstore_n (lv' := [(3, .long ((31 * v3) + r4.toInt64)), (0, .ref (ad 1)), (5, .int y5)]) hx hb dX1_addTo_40 rfl hl (by decide) rfl (fun ls hl => ?_)
      refine lv_iinc (lv' := [(5, .int (y5 + 1)), (3, .long ((31 * v3) + r4.toInt64)), (0, .ref (ad 1))]) hx hb dX1_addTo_41 hl (k := 2) rfl (by rfl) (by decide) rfl (fun ls hl => ?_)
      refine lv_goto (tgt := 5) hx hb dX1_addTo_44 (by decide) ?_
      exact ih _ _ _ _ _ hw hBw hS (lv_sub hl [2, 1, 0] rfl)
def wp_X1_addTo (post : Int64 → Prop) (w : Dt) (x1 : Int64) : Prop := ∃ k9 : Nat, wp_X1_addTo_5 post   k9 x1 0 w
set_option maxHeartbeats 4000000 in
set_option maxRecDepth 100000 in
theorem c_X1_addTo (l : Launch) (D : va_G) (tc : Nat → ClassId) (h0 : Nat) (sa : Nat → Nat) (x1 : Int64) (H0 : Heap) {ad : Nat → Nat} {A : Nat → Prop} {w : Dt} (hBw : Blk D tc A (shW ad) ad w H0)  {post : Int64 → Prop} (hw : wp_X1_addTo post w x1) : MB l yX1_addTo cX1_addTo 6 (Option.some FieldType.long) rm_X1_addTo (fun _ => False) [.ref (ad 1), .long x1] D tc h0 sa H0 post (fun (_ : Int64) (H1 : Heap) => H1 = H0) (fun u : Int64 => some (.long u)) := by
  have hA0 : ∀ q : Nat, (fun _ : Nat => False) q → h0 ≤ q := fun _ h => h.elim
  refine MB.of RX1 [(0, .ref (ad 1)), (1, .long x1)] (by decide +kernel) rfl (Nat.le_of_ble_eq_true rfl) rfl ?_
  intro p e s m below meth c ls X hr hin hT hH hS hl
  subst hH
  have hx := X.1
  have hb := X.2.1
  have hown := X.2.2.2.1
  have hU := X.2.2.2.2.1.1
  unfold wp_X1_addTo at hw
  refine lv_lload_n hx hb dX1_addTo_0 rfl (lv_at hl 1 rfl) ?_
  refine lv_lstore_n (lv' := [(3, .long x1), (0, .ref (ad 1)), (1, .long x1)]) hx hb dX1_addTo_1 rfl hl (by decide) rfl (fun ls hl => ?_)
  refine lv_iconst (v := 0) hx hb dX1_addTo_2 (by decide) ?_
  refine lv_istore (lv' := [(5, .int 0), (3, .long x1), (0, .ref (ad 1)), (1, .long x1)]) hx hb dX1_addTo_3 hl (by decide) rfl (fun ls hl => ?_)
  obtain ⟨k9, hw⟩ := hw
  exact t_X1_addTo_5 X hr hT hA0   k9 _ _ _ _ _ hw hBw hS (lv_sub hl [2, 1, 0] rfl)
abbrev rm_X1_copyFrom : Room := { frames := 0, cells := 0, slots := 0, locals := 0 }
def wp_X1_copyFrom_22 (post : Dt → Prop)  (K2 : Int32 → Dt → Dt → Prop) : Nat → Int32 → Int32 → Dt → Dt → Prop
  | 0, _, _, _, _ => False
  | n9 + 1, y2, y3, w, v => (3 ≤ y3 → K2 (y2 + 1) w v) ∧ (¬ 3 ≤ y3 → vp_in y2 10 ∧ (vp_in y3 3 ∧ (∀ w12 : Dt, w12 = up2 w (y2.toNatClampNeg + 22) y3.toNatClampNeg (v (y2.toNatClampNeg + 22) y3.toNatClampNeg) → (∀ w13 : Dt, w13 = up2 w12 (y2.toNatClampNeg + 32) y3.toNatClampNeg (v (y2.toNatClampNeg + 32) y3.toNatClampNeg) → (wp_X1_copyFrom_22 post  K2 n9 y2 (y3 + 1) w13 v)))))
set_option maxHeartbeats 4000000 in
set_option maxRecDepth 100000 in
theorem t_X1_copyFrom_22 {p : Program} {l : Launch} {e : Env} {s : State} {m : MethodId} {args : Array Value} {below : List Frame} {meth : Method} {c : Code} {D : va_G} {tc : Nat → ClassId} {h0 : Nat} {sa : Nat → Nat}  {ad : Nat → Nat} {A : Nat → Prop} {bd : Nat → Nat} {A2 : Nat → Prop} {post : Dt → Prop} {K2 : Int32 → Dt → Dt → Prop} (X : Cx p c s m meth cX1_copyFrom 4 RX1 D tc) (hr : meth.sig.returnType = (Option.none : Option FieldType)) (hT : ST h0 sa s s.heap) (hA0 : ∀ q, A q → h0 ≤ q) (hDv : ∀ q, A q → ¬ A2 q)  (hK2 : ∀ (y2 : Int32) (w : Dt) (v : Dt) (H : Heap) (locs : List Loc) (ls : Array Slot), K2 y2 w v → (Blk D tc A (shW ad) ad w H) → (Blk D tc A2 (shW bd) bd v H) → va_S A s.heap H locs → lv_has ls 4 [(0, .ref (ad 1)), (1, .ref (bd 1)), (2, .int y2)] → W p l e rm_X1_copyFrom s m args below meth c H locs 0 0 (MQ below (QB post (fun (u : Dt) (H1 : Heap) => Blk D tc A (shW ad) ad u H1) (fun _ : Dt => none) A) args s rm_X1_copyFrom.cells rm_X1_copyFrom.slots A) (F0 m 2 ls [])) : ∀ (n9 : Nat) (y2 : Int32) (y3 : Int32) (w : Dt) (v : Dt) (H : Heap) (locs : List Loc) (ls : Array Slot), wp_X1_copyFrom_22 post  K2 n9 y2 y3 w v → (Blk D tc A (shW ad) ad w H) → (Blk D tc A2 (shW bd) bd v H) → va_S A s.heap H locs → lv_has ls 4 [(0, .ref (ad 1)), (1, .ref (bd 1)), (2, .int y2), (3, .int y3)] → W p l e rm_X1_copyFrom s m args below meth c H locs 0 0 (MQ below (QB post (fun (u : Dt) (H1 : Heap) => Blk D tc A (shW ad) ad u H1) (fun _ : Dt => none) A) args s rm_X1_copyFrom.cells rm_X1_copyFrom.slots A) (F0 m 22 ls []) := by
  have hx := X.1
  have hb := X.2.1
  have hown := X.2.2.2.1
  have hU := X.2.2.2.2.1.1
  intro n9
  induction n9 with
  | zero =>
    intro y2 y3 w v H locs ls hw
    exact hw.elim
  | succ n9 ih =>
    intro y2 y3 w v H locs ls hw hBw hBv hS hl
    unfold wp_X1_copyFrom_22 at hw
    refine lv_iload_n hx hb dX1_copyFrom_22 rfl (lv_at hl 3 rfl) ?_
    refine lv_iconst (v := 3) hx hb dX1_copyFrom_23 (by decide) ?_
    refine lv_icmp_ge (tgt := 65) hx hb dX1_copyFrom_24 (by decide) (fun c9 => ?_) (fun c9 => ?_)
    · have hw := hw.1 c9
      refine lv_iinc (lv' := [(2, .int (y2 + 1)), (0, .ref (ad 1)), (1, .ref (bd 1)), (3, .int y3)]) hx hb dX1_copyFrom_65 hl (k := 2) rfl (by rfl) (by decide) rfl (fun ls hl => ?_)
      refine lv_goto (tgt := 2) hx hb dX1_copyFrom_68 (by decide) ?_
      exact hK2 _ _ _ _ _ _ hw hBw hBv hS (lv_sub hl [1, 2, 0] rfl)
    · have hw := hw.2 c9
      refine lv_aload_n hx hb dX1_copyFrom_27 rfl (lv_at hl 0 rfl) ?_
      refine g_get X dX1_copyFrom_28 f_X1_17 hBw 1 (v := .ref (ad 3)) rfl rfl ?_
      refine lv_iload_n hx hb dX1_copyFrom_31 rfl (lv_at hl 2 rfl) ?_
      obtain ⟨o10, hw⟩ := hw
      refine g_aaldA X dX1_copyFrom_32 hBw 3 rfl o10 (v := .ref (ad (y2.toNatClampNeg + 22))) (rows_at o10) ?_
      refine lv_iload_n hx hb dX1_copyFrom_33 rfl (lv_at hl 3 rfl) ?_
      refine lv_aload_n hx hb dX1_copyFrom_34 rfl (lv_at hl 1 rfl) ?_
      refine g_get X dX1_copyFrom_35 f_X1_17 hBv 1 (v := .ref (bd 3)) rfl rfl ?_
      refine lv_iload_n hx hb dX1_copyFrom_38 rfl (lv_at hl 2 rfl) ?_
      refine g_aaldA X dX1_copyFrom_39 hBv 3 rfl o10 (v := .ref (bd (y2.toNatClampNeg + 22))) (rows_at o10) ?_
      refine lv_iload_n hx hb dX1_copyFrom_40 rfl (lv_at hl 3 rfl) ?_
      obtain ⟨o11, hw⟩ := hw
      refine g_iald X dX1_copyFrom_41 hBv (y2.toNatClampNeg + 22) (cw_row22 o10) o11 rfl ?_
      refine g_iast X dX1_copyFrom_42 hBw hS (y2.toNatClampNeg + 22) (cw_row22 o10) o11 rfl  (fun H locs hBw oq hS => ?_)
      have hBv := hBv.kept1 oq (hDv _ (hBw.in (i := (y2.toNatClampNeg + 22)) (cw_row22 o10)))
      obtain ⟨w12, ew12⟩ : ∃ z : Dt, z = up2 w (y2.toNatClampNeg + 22) y3.toNatClampNeg (v (y2.toNatClampNeg + 22) y3.toNatClampNeg) := ⟨_, rfl⟩
      rw [← ew12] at hBw
      have hw := hw w12 ew12
      refine lv_aload_n hx hb dX1_copyFrom_43 rfl (lv_at hl 0 rfl) ?_
      refine g_get X dX1_copyFrom_44 f_X1_20 hBw 1 (v := .ref (ad 4)) rfl rfl ?_
      refine lv_iload_n hx hb dX1_copyFrom_47 rfl (lv_at hl 2 rfl) ?_
      refine g_aaldA X dX1_copyFrom_48 hBw 4 rfl o10 (v := .ref (ad (y2.toNatClampNeg + 32))) (rows_at o10) ?_
      refine lv_iload_n hx hb dX1_copyFrom_49 rfl (lv_at hl 3 rfl) ?_
      refine lv_aload_n hx hb dX1_copyFrom_50 rfl (lv_at hl 1 rfl) ?_
      refine g_get X dX1_copyFrom_51 f_X1_20 hBv 1 (v := .ref (bd 4)) rfl rfl ?_
      refine lv_iload_n hx hb dX1_copyFrom_54 rfl (lv_at hl 2 rfl) ?_
      refine g_aaldA X dX1_copyFrom_55 hBv 4 rfl o10 (v := .ref (bd (y2.toNatClampNeg + 32))) (rows_at o10) ?_
      refine lv_iload_n hx hb dX1_copyFrom_56 rfl (lv_at hl 3 rfl) ?_
      refine g_iald X dX1_copyFrom_57 hBv (y2.toNatClampNeg + 32) (cw_row32 o10) o11 rfl ?_
      refine g_iast X dX1_copyFrom_58 hBw hS (y2.toNatClampNeg + 32) (cw_row32 o10) o11 rfl  (fun H locs hBw oq hS => ?_)
      have hBv := hBv.kept1 oq (hDv _ (hBw.in (i := (y2.toNatClampNeg + 32)) (cw_row32 o10)))
      obtain ⟨w13, ew13⟩ : ∃ z : Dt, z = up2 w12 (y2.toNatClampNeg + 32) y3.toNatClampNeg (v (y2.toNatClampNeg + 32) y3.toNatClampNeg) := ⟨_, rfl⟩
      rw [← ew13] at hBw
      have hw := hw w13 ew13
      refine lv_iinc (lv' := [(3, .int (y3 + 1)), (0, .ref (ad 1)), (1, .ref (bd 1)), (2, .int y2)]) hx hb dX1_copyFrom_59 hl (k := 3) rfl (by rfl) (by decide) rfl (fun ls hl => ?_)
      refine lv_goto (tgt := 22) hx hb dX1_copyFrom_62 (by decide) ?_
      exact ih _ _ _ _ _ _ _ hw hBw hBv hS (lv_sub hl [1, 2, 3, 0] rfl)
def wp_X1_copyFrom_2 (post : Dt → Prop)   : Nat → Int32 → Dt → Dt → Prop
  | 0, _, _, _ => False
  | n9 + 1, y2, w, v => (10 ≤ y2 → ∀ w2 : Dt, w2 = up2 w 1 3 (v 1 3) → (∀ w3 : Dt, w3 = up2 w2 1 4 (v 1 4) → (∀ w4 : Dt, w4 = up2 w3 1 5 (v 1 5) → (∀ w5 : Dt, w5 = up2 w4 1 6 (v 1 6) → (∀ w6 : Dt, w6 = up2 w5 1 7 (v 1 7) → (post w6)))))) ∧ (¬ 10 ≤ y2 → vp_in y2 10 ∧ (∀ w8 : Dt, w8 = up2 w 2 y2.toNatClampNeg (v 2 y2.toNatClampNeg) → (∃ k9 : Nat, wp_X1_copyFrom_22 post  (fun a0 w v => wp_X1_copyFrom_2 post   n9 a0 w v) k9 y2 0 w8 v)))
set_option maxHeartbeats 4000000 in
set_option maxRecDepth 100000 in
theorem t_X1_copyFrom_2 {p : Program} {l : Launch} {e : Env} {s : State} {m : MethodId} {args : Array Value} {below : List Frame} {meth : Method} {c : Code} {D : va_G} {tc : Nat → ClassId} {h0 : Nat} {sa : Nat → Nat}  {ad : Nat → Nat} {A : Nat → Prop} {bd : Nat → Nat} {A2 : Nat → Prop} {post : Dt → Prop}  (X : Cx p c s m meth cX1_copyFrom 4 RX1 D tc) (hr : meth.sig.returnType = (Option.none : Option FieldType)) (hT : ST h0 sa s s.heap) (hA0 : ∀ q, A q → h0 ≤ q) (hDv : ∀ q, A q → ¬ A2 q)   : ∀ (n9 : Nat) (y2 : Int32) (w : Dt) (v : Dt) (H : Heap) (locs : List Loc) (ls : Array Slot), wp_X1_copyFrom_2 post   n9 y2 w v → (Blk D tc A (shW ad) ad w H) → (Blk D tc A2 (shW bd) bd v H) → va_S A s.heap H locs → lv_has ls 4 [(0, .ref (ad 1)), (1, .ref (bd 1)), (2, .int y2)] → W p l e rm_X1_copyFrom s m args below meth c H locs 0 0 (MQ below (QB post (fun (u : Dt) (H1 : Heap) => Blk D tc A (shW ad) ad u H1) (fun _ : Dt => none) A) args s rm_X1_copyFrom.cells rm_X1_copyFrom.slots A) (F0 m 2 ls []) := by
  have hx := X.1
  have hb := X.2.1
  have hown := X.2.2.2.1
  have hU := X.2.2.2.2.1.1
  intro n9
  induction n9 with
  | zero =>
    intro y2 w v H locs ls hw
    exact hw.elim
  | succ n9 ih =>
    intro y2 w v H locs ls hw hBw hBv hS hl
    unfold wp_X1_copyFrom_2 at hw
    refine lv_iload_n hx hb dX1_copyFrom_2 rfl (lv_at hl 2 rfl) ?_
    refine lv_bipush (v := 10) hx hb dX1_copyFrom_3 (by decide) ?_
    refine lv_icmp_ge (tgt := 71) hx hb dX1_copyFrom_5 (by decide) (fun c1 => ?_) (fun c1 => ?_)
    · have hw := hw.1 c1
      refine lv_aload_n hx hb dX1_copyFrom_71 rfl (lv_at hl 0 rfl) ?_
      refine lv_aload_n hx hb dX1_copyFrom_72 rfl (lv_at hl 1 rfl) ?_
      refine g_get X dX1_copyFrom_73 f_X1_23 hBv 1 (v := .int (v 1 3)) rfl rfl ?_
      refine g_puti X dX1_copyFrom_76 f_X1_23 hBw hS 1 rfl (x := (v 1 3)) rfl rfl rfl (fun H locs hBw oq hS => ?_)
      have hBv := hBv.kept1 oq (hDv _ (hBw.in (i := 1) rfl))
      obtain ⟨w2, ew2⟩ : ∃ z : Dt, z = up2 w 1 3 (v 1 3) := ⟨_, rfl⟩
      rw [← ew2] at hBw
      have hw := hw w2 ew2
      refine lv_aload_n hx hb dX1_copyFrom_79 rfl (lv_at hl 0 rfl) ?_
      refine lv_aload_n hx hb dX1_copyFrom_80 rfl (lv_at hl 1 rfl) ?_
      refine g_get X dX1_copyFrom_81 f_X1_46 hBv 1 (v := .int (v 1 4)) rfl rfl ?_
      refine g_puti X dX1_copyFrom_84 f_X1_46 hBw hS 1 rfl (x := (v 1 4)) rfl rfl rfl (fun H locs hBw oq hS => ?_)
      have hBv := hBv.kept1 oq (hDv _ (hBw.in (i := 1) rfl))
      obtain ⟨w3, ew3⟩ : ∃ z : Dt, z = up2 w2 1 4 (v 1 4) := ⟨_, rfl⟩
      rw [← ew3] at hBw
      have hw := hw w3 ew3
      refine lv_aload_n hx hb dX1_copyFrom_87 rfl (lv_at hl 0 rfl) ?_
      refine lv_aload_n hx hb dX1_copyFrom_88 rfl (lv_at hl 1 rfl) ?_
      refine g_get X dX1_copyFrom_89 f_X1_27 hBv 1 (v := .int (v 1 5)) rfl rfl ?_
      refine g_puti X dX1_copyFrom_92 f_X1_27 hBw hS 1 rfl (x := (v 1 5)) rfl rfl rfl (fun H locs hBw oq hS => ?_)
      have hBv := hBv.kept1 oq (hDv _ (hBw.in (i := 1) rfl))
      obtain ⟨w4, ew4⟩ : ∃ z : Dt, z = up2 w3 1 5 (v 1 5) := ⟨_, rfl⟩
      rw [← ew4] at hBw
      have hw := hw w4 ew4
      refine lv_aload_n hx hb dX1_copyFrom_95 rfl (lv_at hl 0 rfl) ?_
      refine lv_aload_n hx hb dX1_copyFrom_96 rfl (lv_at hl 1 rfl) ?_
      refine g_get X dX1_copyFrom_97 f_X1_33 hBv 1 (v := .int (v 1 6)) rfl rfl ?_
      refine g_puti X dX1_copyFrom_100 f_X1_33 hBw hS 1 rfl (x := (v 1 6)) rfl rfl rfl (fun H locs hBw oq hS => ?_)
      have hBv := hBv.kept1 oq (hDv _ (hBw.in (i := 1) rfl))
      obtain ⟨w5, ew5⟩ : ∃ z : Dt, z = up2 w4 1 6 (v 1 6) := ⟨_, rfl⟩
      rw [← ew5] at hBw
      have hw := hw w5 ew5
      refine lv_aload_n hx hb dX1_copyFrom_103 rfl (lv_at hl 0 rfl) ?_
      refine lv_aload_n hx hb dX1_copyFrom_104 rfl (lv_at hl 1 rfl) ?_
      refine g_get X dX1_copyFrom_105 f_X1_30 hBv 1 (v := .int (v 1 7)) rfl rfl ?_
      refine g_puti X dX1_copyFrom_108 f_X1_30 hBw hS 1 rfl (x := (v 1 7)) rfl rfl rfl (fun H locs hBw oq hS => ?_)
      have hBv := hBv.kept1 oq (hDv _ (hBw.in (i := 1) rfl))
      obtain ⟨w6, ew6⟩ : ∃ z : Dt, z = up2 w5 1 7 (v 1 7) := ⟨_, rfl⟩
      rw [← ew6] at hBw
      have hw := hw w6 ew6
      exact e_v X hr dX1_copyFrom_111 hS (w6) rfl hw hBw ⟨Nat.le_of_ble_eq_true rfl, Nat.le_of_ble_eq_true rfl⟩
    · have hw := hw.2 c1
      refine lv_aload_n hx hb dX1_copyFrom_8 rfl (lv_at hl 0 rfl) ?_
      refine g_get X dX1_copyFrom_9 f_X1_9 hBw 1 (v := .ref (ad 2)) rfl rfl ?_
      refine lv_iload_n hx hb dX1_copyFrom_12 rfl (lv_at hl 2 rfl) ?_
      refine lv_aload_n hx hb dX1_copyFrom_13 rfl (lv_at hl 1 rfl) ?_
      refine g_get X dX1_copyFrom_14 f_X1_9 hBv 1 (v := .ref (bd 2)) rfl rfl ?_
      refine lv_iload_n hx hb dX1_copyFrom_17 rfl (lv_at hl 2 rfl) ?_
      obtain ⟨o7, hw⟩ := hw
      refine g_iald X dX1_copyFrom_18 hBv 2 rfl o7 rfl ?_
      refine g_iast X dX1_copyFrom_19 hBw hS 2 rfl o7 rfl  (fun H locs hBw oq hS => ?_)
      have hBv := hBv.kept1 oq (hDv _ (hBw.in (i := 2) rfl))
      obtain ⟨w8, ew8⟩ : ∃ z : Dt, z = up2 w 2 y2.toNatClampNeg (v 2 y2.toNatClampNeg) := ⟨_, rfl⟩
      rw [← ew8] at hBw
      have hw := hw w8 ew8
      refine lv_iconst (v := 0) hx hb dX1_copyFrom_20 (by decide) ?_
      refine lv_istore_n (lv' := [(3, .int 0), (0, .ref (ad 1)), (1, .ref (bd 1)), (2, .int y2)]) hx hb dX1_copyFrom_21 rfl hl (by decide) rfl (fun ls hl => ?_)
      obtain ⟨k9, hw⟩ := hw
      exact t_X1_copyFrom_22 X hr hT hA0 hDv ih k9 _ _ _ _ _ _ _ hw hBw hBv hS (lv_sub hl [1, 2, 3, 0] rfl)
def wp_X1_copyFrom (post : Dt → Prop) (w : Dt) (v : Dt) : Prop := ∃ k9 : Nat, wp_X1_copyFrom_2 post   k9 0 w v
set_option maxHeartbeats 4000000 in
set_option maxRecDepth 100000 in
theorem c_X1_copyFrom (l : Launch) (D : va_G) (tc : Nat → ClassId) (h0 : Nat) (sa : Nat → Nat)  (H0 : Heap) {ad : Nat → Nat} {A : Nat → Prop} {bd : Nat → Nat} {A2 : Nat → Prop} {w : Dt} {v : Dt} (hBw : Blk D tc A (shW ad) ad w H0) (hBv : Blk D tc A2 (shW bd) bd v H0) (hDv : ∀ q, A q → ¬ A2 q) (hA0 : ∀ q, A q → h0 ≤ q) {post : Dt → Prop} (hw : wp_X1_copyFrom post w v) : MB l yX1_copyFrom cX1_copyFrom 4 (Option.none : Option FieldType) rm_X1_copyFrom A [.ref (ad 1), .ref (bd 1)] D tc h0 sa H0 post (fun (u : Dt) (H1 : Heap) => Blk D tc A (shW ad) ad u H1) (fun _ : Dt => none) := by
  refine MB.of RX1 [(0, .ref (ad 1)), (1, .ref (bd 1))] (by decide +kernel) rfl (Nat.le_of_ble_eq_true rfl) rfl ?_
  intro p e s m below meth c ls X hr hin hT hH hS hl
  subst hH
  have hx := X.1
  have hb := X.2.1
  have hown := X.2.2.2.1
  have hU := X.2.2.2.2.1.1
  unfold wp_X1_copyFrom at hw
  refine lv_iconst (v := 0) hx hb dX1_copyFrom_0 (by decide) ?_
  refine lv_istore_n (lv' := [(2, .int 0), (0, .ref (ad 1)), (1, .ref (bd 1))]) hx hb dX1_copyFrom_1 rfl hl (by decide) rfl (fun ls hl => ?_)
  obtain ⟨k9, hw⟩ := hw
  exact t_X1_copyFrom_2 X hr hT hA0 hDv  k9 _ _ _ _ _ _ hw hBw hBv hS (lv_sub hl [1, 2, 0] rfl)
