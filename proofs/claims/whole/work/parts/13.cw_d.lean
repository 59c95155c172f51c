abbrev rm_X8_distance : Room := { frames := 1, cells := 0, slots := 0, locals := 21 }
def wp_X8_distance (post : Int32 → Prop) (x1 : Int32) (x2 : Int32) : Prop := ∀ v1 : Int32, v1 = (if 0 ≤ (x1 - x2) then (x1 - x2) else 0 - (x1 - x2)) → (post (if (3600 - v1) < v1 then (3600 - v1) else v1))
set_option maxHeartbeats 4000000 in
set_option maxRecDepth 100000 in
theorem c_X8_distance (l : Launch) (D : va_G) (tc : Nat → ClassId) (h0 : Nat) (sa : Nat → Nat) (x1 : Int32) (x2 : Int32) (H0 : Heap)     {post : Int32 → Prop} (hw : wp_X8_distance post x1 x2) : MB l yX8_distance cX8_distance 3 (Option.some FieldType.int) rm_X8_distance (fun _ => False) [.int x1, .int x2] D tc h0 sa H0 post (fun (_ : Int32) (H1 : Heap) => H1 = H0) (fun u : Int32 => some (.int u)) := by
  have hA0 : ∀ q : Nat, (fun _ : Nat => False) q → h0 ≤ q := fun _ h => h.elim
  refine MB.of RX8 [(0, .int x1), (1, .int x2)] (by decide +kernel) rfl (Nat.le_of_ble_eq_true rfl) rfl ?_
  intro p e s m below meth c ls X hr hin hT hH hS hl
  subst hH
  have hx := X.1
  have hb := X.2.1
  have hown := X.2.2.2.1
  have hU := X.2.2.2.2.1.1
  unfold wp_X8_distance at hw
  refine lv_iload_n hx hb dX8_distance_0 rfl (lv_at hl 0 rfl) ?_
  refine lv_iload_n hx hb dX8_distance_1 rfl (lv_at hl 1 rfl) ?_
  refine lv_isub hx hb dX8_distance_2 ?_
  refine g_abs X hl.1 dX8_distance_3 w_620 w_611 w_21 w_612 ⟨Nat.le_of_ble_eq_true rfl, Nat.le_of_ble_eq_true rfl, Nat.le_of_ble_eq_true rfl, Nat.le_of_ble_eq_true rfl⟩ ?_
  refine lv_topi (fun v1 ev1 => ?_)
  have hw := hw v1 ev1
  refine lv_istore_n (lv' := [(2, .int v1), (0, .int x1), (1, .int x2)]) hx hb dX8_distance_6 rfl hl (by decide) rfl (fun ls hl => ?_)
  refine lv_iload_n hx hb dX8_distance_7 rfl (lv_at hl 0 rfl) ?_
  refine lv_sipush (v := 3600) hx hb dX8_distance_8 (by decide) ?_
  refine lv_iload_n hx hb dX8_distance_11 rfl (lv_at hl 0 rfl) ?_
  refine lv_isub hx hb dX8_distance_12 ?_
  refine g_min X hl.1 dX8_distance_13 w_675 w_607 w_21 w_608 ⟨Nat.le_of_ble_eq_true rfl, Nat.le_of_ble_eq_true rfl, Nat.le_of_ble_eq_true rfl, Nat.le_of_ble_eq_true rfl⟩ ?_
  exact e_i X hr dX8_distance_16 hS ((if (3600 - v1) < v1 then (3600 - v1) else v1)) rfl hw rfl ⟨Nat.le_of_ble_eq_true rfl, Nat.le_of_ble_eq_true rfl⟩
abbrev rm_J9_floorMod_7cf53 : Room := { frames := 0, cells := 0, slots := 0, locals := 0 }
def wp_J9_floorMod_7cf53_18 (post : Int32 → Prop)   (y2 : Int32) : Prop := post y2
set_option maxHeartbeats 4000000 in
set_option maxRecDepth 100000 in
theorem t_J9_floorMod_7cf53_18 {p : Program} {l : Launch} {e : Env} {s : State} {m : MethodId} {args : Array Value} {below : List Frame} {meth : Method} {c : Code} {D : va_G} {tc : Nat → ClassId} {h0 : Nat} {sa : Nat → Nat}   {post : Int32 → Prop}  (X : Cx p c s m meth cJ9_floorMod_7cf53 3 RJ9 D tc) (hr : meth.sig.returnType = (Option.some FieldType.int)) (hT : ST h0 sa s s.heap) (hA0 : ∀ q, (fun _ => False) q → h0 ≤ q)    : ∀ (y2 : Int32) (locs : List Loc) (ls : Array Slot), wp_J9_floorMod_7cf53_18 post   y2 → va_S (fun _ => False) s.heap s.heap locs → lv_has ls 3 [(2, .int y2)] → W p l e rm_J9_floorMod_7cf53 s m args below meth c s.heap locs 0 0 (MQ below (QB post (fun (_ : Int32) (H1 : Heap) => H1 = s.heap) (fun u : Int32 => some (.int u)) (fun _ => False)) args s rm_J9_floorMod_7cf53.cells rm_J9_floorMod_7cf53.slots (fun _ => False)) (F0 m 18 ls []) := by
  have hx := X.1
  have hb := X.2.1
  have hown := X.2.2.2.1
  have hU := X.2.2.2.2.1.1
  intro y2  locs ls hw  hS hl
  unfold wp_J9_floorMod_7cf53_18 at hw
  refine lv_iload_n hx hb dJ9_floorMod_7cf53_18 rfl (lv_at hl 0 rfl) ?_
  exact e_i X hr dJ9_floorMod_7cf53_19 hS (y2) rfl hw rfl ⟨Nat.le_of_ble_eq_true rfl, Nat.le_of_ble_eq_true rfl⟩
def wp_J9_floorMod_7cf53 (post : Int32 → Prop) (x1 : Int32) (x2 : Int32) : Prop := ¬ x2 = 0 ∧ ((0 ≤ (x1 ^^^ x2) → wp_J9_floorMod_7cf53_18 post   (x1 - x1 / x2 * x2)) ∧ (¬ 0 ≤ (x1 ^^^ x2) → ((x1 - x1 / x2 * x2) = 0 → wp_J9_floorMod_7cf53_18 post   (x1 - x1 / x2 * x2)) ∧ (¬ (x1 - x1 / x2 * x2) = 0 → post ((x1 - x1 / x2 * x2) + x2))))
set_option maxHeartbeats 4000000 in
set_option maxRecDepth 100000 in
theorem c_J9_floorMod_7cf53 (l : Launch) (D : va_G) (tc : Nat → ClassId) (h0 : Nat) (sa : Nat → Nat) (x1 : Int32) (x2 : Int32) (H0 : Heap)     {post : Int32 → Prop} (hw : wp_J9_floorMod_7cf53 post x1 x2) : MB l yJ9_floorMod_7cf53 cJ9_floorMod_7cf53 3 (Option.some FieldType.int) rm_J9_floorMod_7cf53 (fun _ => False) [.int x1, .int x2] D tc h0 sa H0 post (fun (_ : Int32) (H1 : Heap) => H1 = H0) (fun u : Int32 => some (.int u)) := by
  have hA0 : ∀ q : Nat, (fun _ : Nat => False) q → h0 ≤ q := fun _ h => h.elim
  refine MB.ofF RJ9 [(0, .int x1), (1, .int x2)] (by decide +kernel) rfl (Nat.le_of_ble_eq_true rfl) rfl ?_
  intro p e s m below meth c ls X hr hin hT hH hS hl
  subst hH
  have hx := X.1
  have hb := X.2.1
  have hown := X.2.2.2.1
  have hU := X.2.2.2.2.1.1
  unfold wp_J9_floorMod_7cf53 at hw
  refine lv_iload_n hx hb dJ9_floorMod_7cf53_0 rfl (lv_at hl 0 rfl) ?_
  refine lv_iload_n hx hb dJ9_floorMod_7cf53_1 rfl (lv_at hl 1 rfl) ?_
  obtain ⟨o1, hw⟩ := hw
  refine lv_irem hx hb dJ9_floorMod_7cf53_2 o1 ?_
  refine lv_istore_n (lv' := [(2, .int (x1 - x1 / x2 * x2)), (0, .int x1), (1, .int x2)]) hx hb dJ9_floorMod_7cf53_3 rfl hl (by decide) rfl (fun ls hl => ?_)
  refine lv_iload_n hx hb dJ9_floorMod_7cf53_4 rfl (lv_at hl 1 rfl) ?_
  refine lv_iload_n hx hb dJ9_floorMod_7cf53_5 rfl (lv_at hl 2 rfl) ?_
  refine lv_ixor hx hb dJ9_floorMod_7cf53_6 ?_
  refine lv_if_ge (tgt := 18) hx hb dJ9_floorMod_7cf53_7 (by decide) (fun c2 => ?_) (fun c2 => ?_)
  · have hw := hw.1 c2
    exact t_J9_floorMod_7cf53_18 X hr hT hA0   _ _ _ hw  hS (lv_sub hl [0] rfl)
  · have hw := hw.2 c2
    refine lv_iload_n hx hb dJ9_floorMod_7cf53_10 rfl (lv_at hl 0 rfl) ?_
    refine lv_if_eq (tgt := 18) hx hb dJ9_floorMod_7cf53_11 (by decide) (fun c3 => ?_) (fun c3 => ?_)
    · have hw := hw.1 c3
      exact t_J9_floorMod_7cf53_18 X hr hT hA0   _ _ _ hw  hS (lv_sub hl [0] rfl)
    · have hw := hw.2 c3
      refine lv_iload_n hx hb dJ9_floorMod_7cf53_14 rfl (lv_at hl 0 rfl) ?_
      refine lv_iload_n hx hb dJ9_floorMod_7cf53_15 rfl (lv_at hl 2 rfl) ?_
      refine lv_iadd hx hb dJ9_floorMod_7cf53_16 ?_
      exact e_i X hr dJ9_floorMod_7cf53_17 hS (((x1 - x1 / x2 * x2) + x2)) rfl hw rfl ⟨Nat.le_of_ble_eq_true rfl, Nat.le_of_ble_eq_true rfl⟩
abbrev rm_X6_begin : Room := { frames := 0, cells := 0, slots := 0, locals := 0 }
def wp_X6_begin_18 (post : Int32 → Dt → Prop)   (w : Dt) : Prop := post (-1) w
set_option maxHeartbeats 4000000 in
set_option maxRecDepth 100000 in
theorem t_X6_begin_18 {p : Program} {l : Launch} {e : Env} {s : State} {m : MethodId} {args : Array Value} {below : List Frame} {meth : Method} {c : Code} {D : va_G} {tc : Nat → ClassId} {h0 : Nat} {sa : Nat → Nat}  {ad : Nat → Nat} {A : Nat → Prop} {post : Int32 → Dt → Prop}  (X : Cx p c s m meth cX6_begin 5 RX6 D tc) (hr : meth.sig.returnType = (Option.some FieldType.int)) (hT : ST h0 sa s s.heap) (hA0 : ∀ q, A q → h0 ≤ q)    : ∀ (w : Dt) (locs : List Loc) (ls : Array Slot), wp_X6_begin_18 post   w → (Blk D tc A (shW ad) ad w s.heap) → va_S A s.heap s.heap locs → lv_has ls 5 [] → W p l e rm_X6_begin s m args below meth c s.heap locs 0 0 (MQ below (QB (fun u : Int32 × Dt => post u.1 u.2) (fun (u : Int32 × Dt) (H1 : Heap) => Blk D tc A (shW ad) ad u.2 H1) (fun u : Int32 × Dt => some (.int u.1)) A) args s rm_X6_begin.cells rm_X6_begin.slots A) (F0 m 18 ls []) := by
  have hx := X.1
  have hb := X.2.1
  have hown := X.2.2.2.1
  have hU := X.2.2.2.2.1.1
  intro w  locs ls hw hBw hS hl
  unfold wp_X6_begin_18 at hw
  refine lv_iconst (v := (-1)) hx hb dX6_begin_18 (by decide) ?_
  exact e_i X hr dX6_begin_19 hS ((-1), w) rfl hw hBw ⟨Nat.le_of_ble_eq_true rfl, Nat.le_of_ble_eq_true rfl⟩
def wp_X6_begin (post : Int32 → Dt → Prop) (w : Dt) (x1 : Int32) (x2 : Int32) (x3 : Int32) : Prop := ((w 7 0) < 0 → wp_X6_begin_18 post   w) ∧ (¬ (w 7 0) < 0 → ((w 7 0) < 12 → vp_in (w 7 0) 12 ∧ (∀ w4 : Dt, w4 = up2 w 8 (w 7 0).toNatClampNeg x1 → (∀ w5 : Dt, w5 = up2 w4 9 (w 7 0).toNatClampNeg x2 → (∀ w6 : Dt, w6 = up2 w5 10 (w 7 0).toNatClampNeg x3 → (∀ w7 : Dt, w7 = up2 w6 11 (w 7 0).toNatClampNeg 0 → (∀ w8 : Dt, w8 = up2 w7 12 (w 7 0).toNatClampNeg 45 → (∀ w9 : Dt, w9 = up2 w8 13 (w 7 0).toNatClampNeg 1 → (∀ w10 : Dt, w10 = up2 w9 14 (w 7 0).toNatClampNeg (-1) → (∀ w11 : Dt, w11 = up2 w10 7 0 ((w10 7 0) + 1) → (post (w 7 0) w11)))))))))) ∧ (¬ (w 7 0) < 12 → wp_X6_begin_18 post   w))
set_option maxHeartbeats 4000000 in
set_option maxRecDepth 100000 in
theorem c_X6_begin (l : Launch) (D : va_G) (tc : Nat → ClassId) (h0 : Nat) (sa : Nat → Nat) (x1 : Int32) (x2 : Int32) (x3 : Int32) (H0 : Heap) {ad : Nat → Nat} {A : Nat → Prop} {w : Dt} (hBw : Blk D tc A (shW ad) ad w H0) (hA0 : ∀ q, A q → h0 ≤ q) {post : Int32 → Dt → Prop} (hw : wp_X6_begin post w x1 x2 x3) : MB l yX6_begin cX6_begin 5 (Option.some FieldType.int) rm_X6_begin A [.ref (ad 7), .int x1, .int x2, .int x3] D tc h0 sa H0 (fun u : Int32 × Dt => post u.1 u.2) (fun (u : Int32 × Dt) (H1 : Heap) => Blk D tc A (shW ad) ad u.2 H1) (fun u : Int32 × Dt => some (.int u.1)) := by
  refine MB.of RX6 [(0, .ref (ad 7)), (1, .int x1), (2, .int x2), (3, .int x3)] (by decide +kernel) rfl (Nat.le_of_ble_eq_true rfl) rfl ?_
  intro p e s m below meth c ls X hr hin hT hH hS hl
  subst hH
  have hx := X.1
  have hb := X.2.1
  have hown := X.2.2.2.1
  have hU := X.2.2.2.2.1.1
  unfold wp_X6_begin at hw
  refine lv_aload_n hx hb dX6_begin_0 rfl (lv_at hl 0 rfl) ?_
  refine g_get X dX6_begin_1 f_X6_35 hBw 7 (v := .int (w 7 0)) rfl rfl ?_
  refine lv_istore (lv' := [(4, .int (w 7 0)), (0, .ref (ad 7)), (1, .int x1), (2, .int x2), (3, .int x3)]) hx hb dX6_begin_4 hl (by decide) rfl (fun ls hl => ?_)
  refine lv_iload hx hb dX6_begin_6 (lv_at hl 0 rfl) ?_
  refine lv_if_lt (tgt := 18) hx hb dX6_begin_8 (by decide) (fun c1 => ?_) (fun c1 => ?_)
  · have hw := hw.1 c1
    exact t_X6_begin_18 X hr hT hA0   _ _ _ hw hBw hS (lv_sub hl [] rfl)
  · have hw := hw.2 c1
    refine lv_iload hx hb dX6_begin_11 (lv_at hl 0 rfl) ?_
    refine lv_bipush (v := 12) hx hb dX6_begin_13 (by decide) ?_
    refine lv_icmp_lt (tgt := 20) hx hb dX6_begin_15 (by decide) (fun c2 => ?_) (fun c2 => ?_)
    · have hw := hw.1 c2
      refine lv_aload_n hx hb dX6_begin_20 rfl (lv_at hl 1 rfl) ?_
      refine g_get X dX6_begin_21 f_X6_9 hBw 7 (v := .ref (ad 8)) rfl rfl ?_
      refine lv_iload hx hb dX6_begin_24 (lv_at hl 0 rfl) ?_
      refine lv_iload_n hx hb dX6_begin_26 rfl (lv_at hl 2 rfl) ?_
      obtain ⟨o3, hw⟩ := hw
      refine g_iast X dX6_begin_27 hBw hS 8 rfl o3 rfl  (fun H locs hBw oq hS => ?_)
      obtain ⟨w4, ew4⟩ : ∃ z : Dt, z = up2 w 8 (w 7 0).toNatClampNeg x1 := ⟨_, rfl⟩
      rw [← ew4] at hBw
      have hw := hw w4 ew4
      refine lv_aload_n hx hb dX6_begin_28 rfl (lv_at hl 1 rfl) ?_
      refine g_get X dX6_begin_29 f_X6_15 hBw 7 (v := .ref (ad 9)) rfl rfl ?_
      refine lv_iload hx hb dX6_begin_32 (lv_at hl 0 rfl) ?_
      refine lv_iload_n hx hb dX6_begin_34 rfl (lv_at hl 3 rfl) ?_
      refine g_iast X dX6_begin_35 hBw hS 9 rfl o3 rfl  (fun H locs hBw oq hS => ?_)
      obtain ⟨w5, ew5⟩ : ∃ z : Dt, z = up2 w4 9 (w 7 0).toNatClampNeg x2 := ⟨_, rfl⟩
      rw [← ew5] at hBw
      have hw := hw w5 ew5
      refine lv_aload_n hx hb dX6_begin_36 rfl (lv_at hl 1 rfl) ?_
      refine g_get X dX6_begin_37 f_X6_18 hBw 7 (v := .ref (ad 10)) rfl rfl ?_
      refine lv_iload hx hb dX6_begin_40 (lv_at hl 0 rfl) ?_
      refine lv_iload_n hx hb dX6_begin_42 rfl (lv_at hl 4 rfl) ?_
      refine g_iast X dX6_begin_43 hBw hS 10 rfl o3 rfl  (fun H locs hBw oq hS => ?_)
      obtain ⟨w6, ew6⟩ : ∃ z : Dt, z = up2 w5 10 (w 7 0).toNatClampNeg x3 := ⟨_, rfl⟩
      rw [← ew6] at hBw
      have hw := hw w6 ew6
      refine lv_aload_n hx hb dX6_begin_44 rfl (lv_at hl 1 rfl) ?_
      refine g_get X dX6_begin_45 f_X6_21 hBw 7 (v := .ref (ad 11)) rfl rfl ?_
      refine lv_iload hx hb dX6_begin_48 (lv_at hl 0 rfl) ?_
      refine lv_iconst (v := 0) hx hb dX6_begin_50 (by decide) ?_
      refine g_iast X dX6_begin_51 hBw hS 11 rfl o3 rfl  (fun H locs hBw oq hS => ?_)
      obtain ⟨w7, ew7⟩ : ∃ z : Dt, z = up2 w6 11 (w 7 0).toNatClampNeg 0 := ⟨_, rfl⟩
      rw [← ew7] at hBw
      have hw := hw w7 ew7
      refine lv_aload_n hx hb dX6_begin_52 rfl (lv_at hl 1 rfl) ?_
      refine g_get X dX6_begin_53 f_X6_24 hBw 7 (v := .ref (ad 12)) rfl rfl ?_
      refine lv_iload hx hb dX6_begin_56 (lv_at hl 0 rfl) ?_
      refine lv_bipush (v := 45) hx hb dX6_begin_58 (by decide) ?_
      refine g_cast X dX6_begin_60 hBw hS 12 rfl o3 rfl rfl (fun H locs hBw oq hS => ?_)
      obtain ⟨w8, ew8⟩ : ∃ z : Dt, z = up2 w7 12 (w 7 0).toNatClampNeg 45 := ⟨_, rfl⟩
      rw [← ew8] at hBw
      have hw := hw w8 ew8
      refine lv_aload_n hx hb dX6_begin_61 rfl (lv_at hl 1 rfl) ?_
      refine g_get X dX6_begin_62 f_X6_28 hBw 7 (v := .ref (ad 13)) rfl rfl ?_
      refine lv_iload hx hb dX6_begin_65 (lv_at hl 0 rfl) ?_
      refine lv_iconst (v := 1) hx hb dX6_begin_67 (by decide) ?_
      refine g_zast X dX6_begin_68 hBw hS 13 rfl o3 rfl rfl (fun H locs hBw oq hS => ?_)
      obtain ⟨w9, ew9⟩ : ∃ z : Dt, z = up2 w8 13 (w 7 0).toNatClampNeg 1 := ⟨_, rfl⟩
      rw [← ew9] at hBw
      have hw := hw w9 ew9
      refine lv_aload_n hx hb dX6_begin_69 rfl (lv_at hl 1 rfl) ?_
      refine g_get X dX6_begin_70 f_X6_32 hBw 7 (v := .ref (ad 14)) rfl rfl ?_
      refine lv_iload hx hb dX6_begin_73 (lv_at hl 0 rfl) ?_
      refine lv_iconst (v := (-1)) hx hb dX6_begin_75 (by decide) ?_
      refine g_iast X dX6_begin_76 hBw hS 14 rfl o3 rfl  (fun H locs hBw oq hS => ?_)
      obtain ⟨w10, ew10⟩ : ∃ z : Dt, z = up2 w9 14 (w 7 0).toNatClampNeg (-1) := ⟨_, rfl⟩
      rw [← ew10] at hBw
      have hw := hw w10 ew10
      refine lv_aload_n hx hb dX6_begin_77 rfl (lv_at hl 1 rfl) ?_
      refine lv_dup hx hb dX6_begin_78 rfl ?_
      refine g_get X dX6_begin_79 f_X6_35 hBw 7 (v := .int (w10 7 0)) rfl rfl ?_
      refine lv_iconst (v := 1) hx hb dX6_begin_82 (by decide) ?_
      refine lv_iadd hx hb dX6_begin_83 ?_
      refine g_puti X dX6_begin_84 f_X6_35 hBw hS 7 rfl (x := ((w10 7 0) + 1)) rfl rfl rfl (fun H locs hBw oq hS => ?_)
      obtain ⟨w11, ew11⟩ : ∃ z : Dt, z = up2 w10 7 0 ((w10 7 0) + 1) := ⟨_, rfl⟩
      rw [← ew11] at hBw
      have hw := hw w11 ew11
      refine lv_iload hx hb dX6_begin_87 (lv_at hl 0 rfl) ?_
      exact e_i X hr dX6_begin_89 hS ((w 7 0), w11) rfl hw hBw ⟨Nat.le_of_ble_eq_true rfl, Nat.le_of_ble_eq_true rfl⟩
    · have hw := hw.2 c2
      exact t_X6_begin_18 X hr hT hA0   _ _ _ hw hBw hS (lv_sub hl [] rfl)
abbrev rm_X6_bearerOf : Room := { frames := 0, cells := 0, slots := 0, locals := 0 }
def wp_X6_bearerOf_43 (post : Int32 → Prop)   (w : Dt) : Prop := post (-1)
set_option maxHeartbeats 4000000 in
set_option maxRecDepth 100000 in
theorem t_X6_bearerOf_43 {p : Program} {l : Launch} {e : Env} {s : State} {m : MethodId} {args : Array Value} {below : List Frame} {meth : Method} {c : Code} {D : va_G} {tc : Nat → ClassId} {h0 : Nat} {sa : Nat → Nat}  {ad : Nat → Nat} {A : Nat → Prop} {post : Int32 → Prop}  (X : Cx p c s m meth cX6_bearerOf 3 RX6 D tc) (hr : meth.sig.returnType = (Option.some FieldType.int)) (hT : ST h0 sa s s.heap) (hA0 : ∀ q, (fun _ => False) q → h0 ≤ q)    : ∀ (w : Dt) (locs : List Loc) (ls : Array Slot), wp_X6_bearerOf_43 post   w → (Blk D tc A (shW ad) ad w s.heap) → va_S (fun _ => False) s.heap s.heap locs → lv_has ls 3 [] → W p l e rm_X6_bearerOf s m args below meth c s.heap locs 0 0 (MQ below (QB post (fun (_ : Int32) (H1 : Heap) => H1 = s.heap) (fun u : Int32 => some (.int u)) (fun _ => False)) args s rm_X6_bearerOf.cells rm_X6_bearerOf.slots (fun _ => False)) (F0 m 43 ls []) := by
  have hx := X.1
  have hb := X.2.1
  have hown := X.2.2.2.1
  have hU := X.2.2.2.2.1.1
  intro w  locs ls hw hBw hS hl
  unfold wp_X6_bearerOf_43 at hw
  refine lv_iconst (v := (-1)) hx hb dX6_bearerOf_43 (by decide) ?_
  exact e_i X hr dX6_bearerOf_44 hS ((-1)) rfl hw rfl ⟨Nat.le_of_ble_eq_true rfl, Nat.le_of_ble_eq_true rfl⟩
def wp_X6_bearerOf_37 (post : Int32 → Prop)  (K2 : Int32 → Int32 → Dt → Prop) (y1 : Int32) (y2 : Int32) (w : Dt) : Prop := K2 y1 (y2 + 1) w
set_option maxHeartbeats 4000000 in
set_option maxRecDepth 100000 in
theorem t_X6_bearerOf_37 {p : Program} {l : Launch} {e : Env} {s : State} {m : MethodId} {args : Array Value} {below : List Frame} {meth : Method} {c : Code} {D : va_G} {tc : Nat → ClassId} {h0 : Nat} {sa : Nat → Nat}  {ad : Nat → Nat} {A : Nat → Prop} {post : Int32 → Prop} {K2 : Int32 → Int32 → Dt → Prop} (X : Cx p c s m meth cX6_bearerOf 3 RX6 D tc) (hr : meth.sig.returnType = (Option.some FieldType.int)) (hT : ST h0 sa s s.heap) (hA0 : ∀ q, (fun _ => False) q → h0 ≤ q)   (hK2 : ∀ (y1 : Int32) (y2 : Int32) (w : Dt) (locs : List Loc) (ls : Array Slot), K2 y1 y2 w → (Blk D tc A (shW ad) ad w s.heap) → va_S (fun _ => False) s.heap s.heap locs → lv_has ls 3 [(0, .ref (ad 7)), (1, .int y1), (2, .int y2)] → W p l e rm_X6_bearerOf s m args below meth c s.heap locs 0 0 (MQ below (QB post (fun (_ : Int32) (H1 : Heap) => H1 = s.heap) (fun u : Int32 => some (.int u)) (fun _ => False)) args s rm_X6_bearerOf.cells rm_X6_bearerOf.slots (fun _ => False)) (F0 m 2 ls [])) : ∀ (y1 : Int32) (y2 : Int32) (w : Dt) (locs : List Loc) (ls : Array Slot), wp_X6_bearerOf_37 post  K2 y1 y2 w → (Blk D tc A (shW ad) ad w s.heap) → va_S (fun _ => False) s.heap s.heap locs → lv_has ls 3 [(0, .ref (ad 7)), (1, .int y1), (2, .int y2)] → W p l e rm_X6_bearerOf s m args below meth c s.heap locs 0 0 (MQ below (QB post (fun (_ : Int32) (H1 : Heap) => H1 = s.heap) (fun u : Int32 => some (.int u)) (fun _ => False)) args s rm_X6_bearerOf.cells rm_X6_bearerOf.slots (fun _ => False)) (F0 m 37 ls []) := by
  have hx := X.1
  have hb := X.2.1
  have hown := X.2.2.2.1
  have hU := X.2.2.2.2.1.1
  intro y1 y2 w  locs ls hw hBw hS hl
  unfold wp_X6_bearerOf_37 at hw
  refine lv_iinc (lv' := [(2, .int (y2 + 1)), (0, .ref (ad 7)), (1, .int y1)]) hx hb dX6_bearerOf_37 hl (k := 2) rfl (by rfl) (by decide) rfl (fun ls hl => ?_)
  refine lv_goto (tgt := 2) hx hb dX6_bearerOf_40 (by decide) ?_
  exact hK2 _ _ _ _ _ hw hBw hS (lv_sub hl [1, 2, 0] rfl)
def wp_X6_bearerOf_2 (post : Int32 → Prop)   : Nat → Int32 → Int32 → Dt → Prop
  | 0, _, _, _ => False
  | n9 + 1, y1, y2, w => ((w 7 0) ≤ y2 → wp_X6_bearerOf_43 post   w) ∧ (¬ (w 7 0) ≤ y2 → (12 ≤ y2 → wp_X6_bearerOf_43 post   w) ∧ (¬ 12 ≤ y2 → vp_in y2 12 ∧ (((w 13 y2.toNatClampNeg) = 0 → wp_X6_bearerOf_37 post  (fun a0 a1 w => wp_X6_bearerOf_2 post   n9 a0 a1 w) y1 y2 w) ∧ (¬ (w 13 y2.toNatClampNeg) = 0 → (¬ (w 12 y2.toNatClampNeg) = y1 → wp_X6_bearerOf_37 post  (fun a0 a1 w => wp_X6_bearerOf_2 post   n9 a0 a1 w) y1 y2 w) ∧ ((w 12 y2.toNatClampNeg) = y1 → post y2)))))
set_option maxHeartbeats 4000000 in
set_option maxRecDepth 100000 in
theorem t_X6_bearerOf_2 {p : Program} {l : Launch} {e : Env} {s : State} {m : MethodId} {args : Array Value} {below : List Frame} {meth : Method} {c : Code} {D : va_G} {tc : Nat → ClassId} {h0 : Nat} {sa : Nat → Nat}  {ad : Nat → Nat} {A : Nat → Prop} {post : Int32 → Prop}  (X : Cx p c s m meth cX6_bearerOf 3 RX6 D tc) (hr : meth.sig.returnType = (Option.some FieldType.int)) (hT : ST h0 sa s s.heap) (hA0 : ∀ q, (fun _ => False) q → h0 ≤ q)    : ∀ (n9 : Nat) (y1 : Int32) (y2 : Int32) (w : Dt) (locs : List Loc) (ls : Array Slot), wp_X6_bearerOf_2 post   n9 y1 y2 w → (Blk D tc A (shW ad) ad w s.heap) → va_S (fun _ => False) s.heap s.heap locs → lv_has ls 3 [(0, .ref (ad 7)), (1, .int y1), (2, .int y2)] → W p l e rm_X6_bearerOf s m args below meth c s.heap locs 0 0 (MQ below (QB post (fun (_ : Int32) (H1 : Heap) => H1 = s.heap) (fun u : Int32 => some (.int u)) (fun _ => False)) args s rm_X6_bearerOf.cells rm_X6_bearerOf.slots (fun _ => False)) (F0 m 2 ls []) := by
  have hx := X.1
  have hb := X.2.1
  have hown := X.2.2.2.1
  have hU := X.2.2.2.2.1.1
  intro n9
  induction n9 with
  | zero =>
    intro y1 y2 w  locs ls hw
    exact hw.elim
  | succ n9 ih =>
    intro y1 y2 w  locs ls hw hBw hS hl
    unfold wp_X6_bearerOf_2 at hw
    refine lv_iload_n hx hb dX6_bearerOf_2 rfl (lv_at hl 2 rfl) ?_
    refine lv_aload_n hx hb dX6_bearerOf_3 rfl (lv_at hl 0 rfl) ?_
    refine g_get X dX6_bearerOf_4 f_X6_35 hBw 7 (v := .int (w 7 0)) rfl rfl ?_
    refine lv_icmp_ge (tgt := 43) hx hb dX6_bearerOf_7 (by decide) (fun c1 => ?_) (fun c1 => ?_)
    · have hw := hw.1 c1
      exact t_X6_bearerOf_43 X hr hT hA0   _ _ _ hw hBw hS (lv_sub hl [] rfl)
    · have hw := hw.2 c1
      refine lv_iload_n hx hb dX6_bearerOf_10 rfl (lv_at hl 2 rfl) ?_
      refine lv_bipush (v := 12) hx hb dX6_bearerOf_11 (by decide) ?_
      refine lv_icmp_ge (tgt := 43) hx hb dX6_bearerOf_13 (by decide) (fun c2 => ?_) (fun c2 => ?_)
      · have hw := hw.1 c2
        exact t_X6_bearerOf_43 X hr hT hA0   _ _ _ hw hBw hS (lv_sub hl [] rfl)
      · have hw := hw.2 c2
        refine lv_aload_n hx hb dX6_bearerOf_16 rfl (lv_at hl 0 rfl) ?_
        refine g_get X dX6_bearerOf_17 f_X6_28 hBw 7 (v := .ref (ad 13)) rfl rfl ?_
        refine lv_iload_n hx hb dX6_bearerOf_20 rfl (lv_at hl 2 rfl) ?_
        obtain ⟨o3, hw⟩ := hw
        refine g_zald X dX6_bearerOf_21 hBw 13 rfl o3 rfl ?_
        refine lv_if_eq (tgt := 37) hx hb dX6_bearerOf_22 (by decide) (fun c4 => ?_) (fun c4 => ?_)
        · have hw := hw.1 c4
          exact t_X6_bearerOf_37 X hr hT hA0  ih _ _ _ _ _ hw hBw hS (lv_sub hl [0, 1, 2] rfl)
        · have hw := hw.2 c4
          refine lv_aload_n hx hb dX6_bearerOf_25 rfl (lv_at hl 0 rfl) ?_
          refine g_get X dX6_bearerOf_26 f_X6_24 hBw 7 (v := .ref (ad 12)) rfl rfl ?_
          refine lv_iload_n hx hb dX6_bearerOf_29 rfl (lv_at hl 2 rfl) ?_
          refine g_cald X dX6_bearerOf_30 hBw 12 rfl o3 rfl ?_
          refine lv_iload_n hx hb dX6_bearerOf_31 rfl (lv_at hl 1 rfl) ?_
          refine lv_icmp_ne (tgt := 37) hx hb dX6_bearerOf_32 (by decide) (fun c5 => ?_) (fun c5 => ?_)
          · have hw := hw.1 c5
            exact t_X6_bearerOf_37 X hr hT hA0  ih _ _ _ _ _ hw hBw hS (lv_sub hl [0, 1, 2] rfl)
          · have hw := hw.2 c5
            refine lv_iload_n hx hb dX6_bearerOf_35 rfl (lv_at hl 2 rfl) ?_
            exact e_i X hr dX6_bearerOf_36 hS (y2) rfl hw rfl ⟨Nat.le_of_ble_eq_true rfl, Nat.le_of_ble_eq_true rfl⟩
def wp_X6_bearerOf (post : Int32 → Prop) (w : Dt) (x1 : Int32) : Prop := ∃ k9 : Nat, wp_X6_bearerOf_2 post   k9 x1 0 w
set_option maxHeartbeats 4000000 in
set_option maxRecDepth 100000 in
theorem c_X6_bearerOf (l : Launch) (D : va_G) (tc : Nat → ClassId) (h0 : Nat) (sa : Nat → Nat) (x1 : Int32) (H0 : Heap) {ad : Nat → Nat} {A : Nat → Prop} {w : Dt} (hBw : Blk D tc A (shW ad) ad w H0)  {post : Int32 → Prop} (hw : wp_X6_bearerOf post w x1) : MB l yX6_bearerOf cX6_bearerOf 3 (Option.some FieldType.int) rm_X6_bearerOf (fun _ => False) [.ref (ad 7), .int x1] D tc h0 sa H0 post (fun (_ : Int32) (H1 : Heap) => H1 = H0) (fun u : Int32 => some (.int u)) := by
  have hA0 : ∀ q : Nat, (fun _ : Nat => False) q → h0 ≤ q := fun _ h => h.elim
  refine MB.of RX6 [(0, .ref (ad 7)), (1, .int x1)] (by decide +kernel) rfl (Nat.le_of_ble_eq_true rfl) rfl ?_
  intro p e s m below meth c ls X hr hin hT hH hS hl
  subst hH
  have hx := X.1
  have hb := X.2.1
  have hown := X.2.2.2.1
  have hU := X.2.2.2.2.1.1
  unfold wp_X6_bearerOf at hw
  refine lv_iconst (v := 0) hx hb dX6_bearerOf_0 (by decide) ?_
  refine lv_istore_n (lv' := [(2, .int 0), (0, .ref (ad 7)), (1, .int x1)]) hx hb dX6_bearerOf_1 rfl hl (by decide) rfl (fun ls hl => ?_)
  obtain ⟨k9, hw⟩ := hw
  exact t_X6_bearerOf_2 X hr hT hA0   k9 _ _ _ _ _ hw hBw hS (lv_sub hl [1, 2, 0] rfl)
abbrev rm_X6_heirOf : Room := { frames := 0, cells := 0, slots := 0, locals := 0 }
def wp_X6_heirOf_20 (post : Int32 → Prop)   (w : Dt) : Prop := post (-1)
set_option maxHeartbeats 4000000 in
set_option maxRecDepth 100000 in
theorem t_X6_heirOf_20 {p : Program} {l : Launch} {e : Env} {s : State} {m : MethodId} {args : Array Value} {below : List Frame} {meth : Method} {c : Code} {D : va_G} {tc : Nat → ClassId} {h0 : Nat} {sa : Nat → Nat}  {ad : Nat → Nat} {A : Nat → Prop} {post : Int32 → Prop}  (X : Cx p c s m meth cX6_heirOf 4 RX6 D tc) (hr : meth.sig.returnType = (Option.some FieldType.int)) (hT : ST h0 sa s s.heap) (hA0 : ∀ q, (fun _ => False) q → h0 ≤ q)    : ∀ (w : Dt) (locs : List Loc) (ls : Array Slot), wp_X6_heirOf_20 post   w → (Blk D tc A (shW ad) ad w s.heap) → va_S (fun _ => False) s.heap s.heap locs → lv_has ls 4 [] → W p l e rm_X6_heirOf s m args below meth c s.heap locs 0 0 (MQ below (QB post (fun (_ : Int32) (H1 : Heap) => H1 = s.heap) (fun u : Int32 => some (.int u)) (fun _ => False)) args s rm_X6_heirOf.cells rm_X6_heirOf.slots (fun _ => False)) (F0 m 20 ls []) := by
  have hx := X.1
  have hb := X.2.1
  have hown := X.2.2.2.1
  have hU := X.2.2.2.2.1.1
  intro w  locs ls hw hBw hS hl
  unfold wp_X6_heirOf_20 at hw
  refine lv_iconst (v := (-1)) hx hb dX6_heirOf_20 (by decide) ?_
  exact e_i X hr dX6_heirOf_21 hS ((-1)) rfl hw rfl ⟨Nat.le_of_ble_eq_true rfl, Nat.le_of_ble_eq_true rfl⟩
def wp_X6_heirOf_4 (post : Int32 → Prop)   : Nat → Int32 → Int32 → Dt → Prop
  | 0, _, _, _ => False
  | n9 + 1, y2, y3, w => (12 ≤ y3 → post (-1)) ∧ (¬ 12 ≤ y3 → (y2 < 0 → wp_X6_heirOf_20 post   w) ∧ (¬ y2 < 0 → (y2 < 12 → vp_in y2 12 ∧ (((w 13 y2.toNatClampNeg) = 0 → wp_X6_heirOf_4 post   n9 (w 14 y2.toNatClampNeg) (y3 + 1) w) ∧ (¬ (w 13 y2.toNatClampNeg) = 0 → post y2))) ∧ (¬ y2 < 12 → wp_X6_heirOf_20 post   w)))
set_option maxHeartbeats 4000000 in
set_option maxRecDepth 100000 in
theorem t_X6_heirOf_4 {p : Program} {l : Launch} {e : Env} {s : State} {m : MethodId} {args : Array Value} {below : List Frame} {meth : Method} {c : Code} {D : va_G} {tc : Nat → ClassId} {h0 : Nat} {sa : Nat → Nat}  {ad : Nat → Nat} {A : Nat → Prop} {post : Int32 → Prop}  (X : Cx p c s m meth cX6_heirOf 4 RX6 D tc) (hr : meth.sig.returnType = (Option.some FieldType.int)) (hT : ST h0 sa s s.heap) (hA0 : ∀ q, (fun _ => False) q → h0 ≤ q)    : ∀ (n9 : Nat) (y2 : Int32) (y3 : Int32) (w : Dt) (locs : List Loc) (ls : Array Slot), wp_X6_heirOf_4 post   n9 y2 y3 w → (Blk D tc A (shW ad) ad w s.heap) → va_S (fun _ => False) s.heap s.heap locs → lv_has ls 4 [(0, .ref (ad 7)), (2, .int y2), (3, .int y3)] → W p l e rm_X6_heirOf s m args below meth c s.heap locs 0 0 (MQ below (QB post (fun (_ : Int32) (H1 : Heap) => H1 = s.heap) (fun u : Int32 => some (.int u)) (fun _ => False)) args s rm_X6_heirOf.cells rm_X6_heirOf.slots (fun _ => False)) (F0 m 4 ls []) := by
  have hx := X.1
  have hb := X.2.1
  have hown := X.2.2.2.1
  have hU := X.2.2.2.2.1.1
  intro n9
  induction n9 with
  | zero =>
    intro y2 y3 w  locs ls hw
    exact hw.elim
  | succ n9 ih =>
    intro y2 y3 w  locs ls hw hBw hS hl
    unfold wp_X6_heirOf_4 at hw
    refine lv_iload_n hx hb dX6_heirOf_4 rfl (lv_at hl 2 rfl) ?_
    refine lv_bipush (v := 12) hx hb dX6_heirOf_5 (by decide) ?_
    refine lv_icmp_ge (tgt := 46) hx hb dX6_heirOf_7 (by decide) (fun c1 => ?_) (fun c1 => ?_)
    · have hw := hw.1 c1
      refine lv_iconst (v := (-1)) hx hb dX6_heirOf_46 (by decide) ?_
      exact e_i X hr dX6_heirOf_47 hS ((-1)) rfl hw rfl ⟨Nat.le_of_ble_eq_true rfl, Nat.le_of_ble_eq_true rfl⟩
    · have hw := hw.2 c1
      refine lv_iload_n hx hb dX6_heirOf_10 rfl (lv_at hl 1 rfl) ?_
      refine lv_if_lt (tgt := 20) hx hb dX6_heirOf_11 (by decide) (fun c2 => ?_) (fun c2 => ?_)
      · have hw := hw.1 c2
        exact t_X6_heirOf_20 X hr hT hA0   _ _ _ hw hBw hS (lv_sub hl [] rfl)
      · have hw := hw.2 c2
        refine lv_iload_n hx hb dX6_heirOf_14 rfl (lv_at hl 1 rfl) ?_
        refine lv_bipush (v := 12) hx hb dX6_heirOf_15 (by decide) ?_
        refine lv_icmp_lt (tgt := 22) hx hb dX6_heirOf_17 (by decide) (fun c3 => ?_) (fun c3 => ?_)
        · have hw := hw.1 c3
          refine lv_aload_n hx hb dX6_heirOf_22 rfl (lv_at hl 0 rfl) ?_
          refine g_get X dX6_heirOf_23 f_X6_28 hBw 7 (v := .ref (ad 13)) rfl rfl ?_
          refine lv_iload_n hx hb dX6_heirOf_26 rfl (lv_at hl 1 rfl) ?_
          obtain ⟨o4, hw⟩ := hw
          refine g_zald X dX6_heirOf_27 hBw 13 rfl o4 rfl ?_
          refine lv_if_eq (tgt := 33) hx hb dX6_heirOf_28 (by decide) (fun c5 => ?_) (fun c5 => ?_)
          · have hw := hw.1 c5
            refine lv_aload_n hx hb dX6_heirOf_33 rfl (lv_at hl 0 rfl) ?_
            refine g_get X dX6_heirOf_34 f_X6_32 hBw 7 (v := .ref (ad 14)) rfl rfl ?_
            refine lv_iload_n hx hb dX6_heirOf_37 rfl (lv_at hl 1 rfl) ?_
            refine g_iald X dX6_heirOf_38 hBw 14 rfl o4 rfl ?_
            refine lv_istore_n (lv' := [(2, .int (w 14 y2.toNatClampNeg)), (0, .ref (ad 7)), (3, .int y3)]) hx hb dX6_heirOf_39 rfl hl (by decide) rfl (fun ls hl => ?_)
            refine lv_iinc (lv' := [(3, .int (y3 + 1)), (2, .int (w 14 y2.toNatClampNeg)), (0, .ref (ad 7))]) hx hb dX6_heirOf_40 hl (k := 2) rfl (by rfl) (by decide) rfl (fun ls hl => ?_)
            refine lv_goto (tgt := 4) hx hb dX6_heirOf_43 (by decide) ?_
            exact ih _ _ _ _ _ hw hBw hS (lv_sub hl [2, 1, 0] rfl)
          · have hw := hw.2 c5
            refine lv_iload_n hx hb dX6_heirOf_31 rfl (lv_at hl 1 rfl) ?_
            exact e_i X hr dX6_heirOf_32 hS (y2) rfl hw rfl ⟨Nat.le_of_ble_eq_true rfl, Nat.le_of_ble_eq_true rfl⟩
        · have hw := hw.2 c3
          exact t_X6_heirOf_20 X hr hT hA0   _ _ _ hw hBw hS (lv_sub hl [] rfl)
def wp_X6_heirOf (post : Int32 → Prop) (w : Dt) (x1 : Int32) : Prop := ∃ k9 : Nat, wp_X6_heirOf_4 post   k9 x1 0 w
set_option maxHeartbeats 4000000 in
set_option maxRecDepth 100000 in
theorem c_X6_heirOf (l : Launch) (D : va_G) (tc : Nat → ClassId) (h0 : Nat) (sa : Nat → Nat) (x1 : Int32) (H0 : Heap) {ad : Nat → Nat} {A : Nat → Prop} {w : Dt} (hBw : Blk D tc A (shW ad) ad w H0)  {post : Int32 → Prop} (hw : wp_X6_heirOf post w x1) : MB l yX6_heirOf cX6_heirOf 4 (Option.some FieldType.int) rm_X6_heirOf (fun _ => False) [.ref (ad 7), .int x1] D tc h0 sa H0 post (fun (_ : Int32) (H1 : Heap) => H1 = H0) (fun u : Int32 => some (.int u)) := by
  have hA0 : ∀ q : Nat, (fun _ : Nat => False) q → h0 ≤ q := fun _ h => h.elim
  refine MB.of RX6 [(0, .ref (ad 7)), (1, .int x1)] (by decide +kernel) rfl (Nat.le_of_ble_eq_true rfl) rfl ?_
  intro p e s m below meth c ls X hr hin hT hH hS hl
  subst hH
  have hx := X.1
  have hb := X.2.1
  have hown := X.2.2.2.1
  have hU := X.2.2.2.2.1.1
  unfold wp_X6_heirOf at hw
  refine lv_iload_n hx hb dX6_heirOf_0 rfl (lv_at hl 1 rfl) ?_
  refine lv_istore_n (lv' := [(2, .int x1), (0, .ref (ad 7)), (1, .int x1)]) hx hb dX6_heirOf_1 rfl hl (by decide) rfl (fun ls hl => ?_)
  refine lv_iconst (v := 0) hx hb dX6_heirOf_2 (by decide) ?_
  refine lv_istore_n (lv' := [(3, .int 0), (2, .int x1), (0, .ref (ad 7)), (1, .int x1)]) hx hb dX6_heirOf_3 rfl hl (by decide) rfl (fun ls hl => ?_)
  obtain ⟨k9, hw⟩ := hw
  exact t_X6_heirOf_4 X hr hT hA0   k9 _ _ _ _ _ hw hBw hS (lv_sub hl [2, 1, 0] rfl)
abbrev rm_X6_countThere : Room := { frames := 0, cells := 0, slots := 0, locals := 0 }
def wp_X6_countThere_41 (post : Int32 → Prop)   (y1 : Int32) (w : Dt) : Prop := post y1
set_option maxHeartbeats 4000000 in
set_option maxRecDepth 100000 in
theorem t_X6_countThere_41 {p : Program} {l : Launch} {e : Env} {s : State} {m : MethodId} {args : Array Value} {below : List Frame} {meth : Method} {c : Code} {D : va_G} {tc : Nat → ClassId} {h0 : Nat} {sa : Nat → Nat}  {ad : Nat → Nat} {A : Nat → Prop} {post : Int32 → Prop}  (X : Cx p c s m meth cX6_countThere 3 RX6 D tc) (hr : meth.sig.returnType = (Option.some FieldType.int)) (hT : ST h0 sa s s.heap) (hA0 : ∀ q, (fun _ => False) q → h0 ≤ q)    : ∀ (y1 : Int32) (w : Dt) (locs : List Loc) (ls : Array Slot), wp_X6_countThere_41 post   y1 w → (Blk D tc A (shW ad) ad w s.heap) → va_S (fun _ => False) s.heap s.heap locs → lv_has ls 3 [(1, .int y1)] → W p l e rm_X6_countThere s m args below meth c s.heap locs 0 0 (MQ below (QB post (fun (_ : Int32) (H1 : Heap) => H1 = s.heap) (fun u : Int32 => some (.int u)) (fun _ => False)) args s rm_X6_countThere.cells rm_X6_countThere.slots (fun _ => False)) (F0 m 41 ls []) := by
  have hx := X.1
  have hb := X.2.1
  have hown := X.2.2.2.1
  have hU := X.2.2.2.2.1.1
  intro y1 w  locs ls hw hBw hS hl
  unfold wp_X6_countThere_41 at hw
  refine lv_iload_n hx hb dX6_countThere_41 rfl (lv_at hl 0 rfl) ?_
  exact e_i X hr dX6_countThere_42 hS (y1) rfl hw rfl ⟨Nat.le_of_ble_eq_true rfl, Nat.le_of_ble_eq_true rfl⟩
def wp_X6_countThere_33 (post : Int32 → Prop)  (K4 : Int32 → Int32 → Dt → Prop) (y2 : Int32) (z0 : Int32) (z1 : Int32) (w : Dt) : Prop := K4 (z1 + z0) (y2 + 1) w
set_option maxHeartbeats 4000000 in
set_option maxRecDepth 100000 in
theorem t_X6_countThere_33 {p : Program} {l : Launch} {e : Env} {s : State} {m : MethodId} {args : Array Value} {below : List Frame} {meth : Method} {c : Code} {D : va_G} {tc : Nat → ClassId} {h0 : Nat} {sa : Nat → Nat}  {ad : Nat → Nat} {A : Nat → Prop} {post : Int32 → Prop} {K4 : Int32 → Int32 → Dt → Prop} (X : Cx p c s m meth cX6_countThere 3 RX6 D tc) (hr : meth.sig.returnType = (Option.some FieldType.int)) (hT : ST h0 sa s s.heap) (hA0 : ∀ q, (fun _ => False) q → h0 ≤ q)   (hK4 : ∀ (y1 : Int32) (y2 : Int32) (w : Dt) (locs : List Loc) (ls : Array Slot), K4 y1 y2 w → (Blk D tc A (shW ad) ad w s.heap) → va_S (fun _ => False) s.heap s.heap locs → lv_has ls 3 [(0, .ref (ad 7)), (1, .int y1), (2, .int y2)] → W p l e rm_X6_countThere s m args below meth c s.heap locs 0 0 (MQ below (QB post (fun (_ : Int32) (H1 : Heap) => H1 = s.heap) (fun u : Int32 => some (.int u)) (fun _ => False)) args s rm_X6_countThere.cells rm_X6_countThere.slots (fun _ => False)) (F0 m 4 ls [])) : ∀ (y2 : Int32) (z0 : Int32) (z1 : Int32) (w : Dt) (locs : List Loc) (ls : Array Slot), wp_X6_countThere_33 post  K4 y2 z0 z1 w → (Blk D tc A (shW ad) ad w s.heap) → va_S (fun _ => False) s.heap s.heap locs → lv_has ls 3 [(0, .ref (ad 7)), (2, .int y2)] → W p l e rm_X6_countThere s m args below meth c s.heap locs 0 0 (MQ below (QB post (fun (_ : Int32) (H1 : Heap) => H1 = s.heap) (fun u : Int32 => some (.int u)) (fun _ => False)) args s rm_X6_countThere.cells rm_X6_countThere.slots (fun _ => False)) (F0 m 33 ls [.int z0, .int z1]) := by
  have hx := X.1
  have hb := X.2.1
  have hown := X.2.2.2.1
  have hU := X.2.2.2.2.1.1
  intro y2 z0 z1 w  locs ls hw hBw hS hl
  unfold wp_X6_countThere_33 at hw
  refine lv_iadd hx hb dX6_countThere_33 ?_
  refine lv_istore_n (lv' := [(1, .int (z1 + z0)), (0, .ref (ad 7)), (2, .int y2)]) hx hb dX6_countThere_34 rfl hl (by decide) rfl (fun ls hl => ?_)
  refine lv_iinc (lv' := [(2, .int (y2 + 1)), (1, .int (z1 + z0)), (0, .ref (ad 7))]) hx hb dX6_countThere_35 hl (k := 2) rfl (by rfl) (by decide) rfl (fun ls hl => ?_)
  refine lv_goto (tgt := 4) hx hb dX6_countThere_38 (by decide) ?_
  exact hK4 _ _ _ _ _ hw hBw hS (lv_sub hl [2, 1, 0] rfl)
def wp_X6_countThere_4 (post : Int32 → Prop)   : Nat → Int32 → Int32 → Dt → Prop
  | 0, _, _, _ => False
  | n9 + 1, y1, y2, w => ((w 7 0) ≤ y2 → wp_X6_countThere_41 post   y1 w) ∧ (¬ (w 7 0) ≤ y2 → (12 ≤ y2 → wp_X6_countThere_41 post   y1 w) ∧ (¬ 12 ≤ y2 → vp_in y2 12 ∧ (((w 13 y2.toNatClampNeg) = 0 → wp_X6_countThere_33 post  (fun a0 a1 w => wp_X6_countThere_4 post   n9 a0 a1 w) y2 0 y1 w) ∧ (¬ (w 13 y2.toNatClampNeg) = 0 → wp_X6_countThere_33 post  (fun a0 a1 w => wp_X6_countThere_4 post   n9 a0 a1 w) y2 1 y1 w))))
set_option maxHeartbeats 4000000 in
set_option maxRecDepth 100000 in
theorem t_X6_countThere_4 {p : Program} {l : Launch} {e : Env} {s : State} {m : MethodId} {args : Array Value} {below : List Frame} {meth : Method} {c : Code} {D : va_G} {tc : Nat → ClassId} {h0 : Nat} {sa : Nat → Nat}  {ad : Nat → Nat} {A : Nat → Prop} {post : Int32 → Prop}  (X : Cx p c s m meth cX6_countThere 3 RX6 D tc) (hr : meth.sig.returnType = (Option.some FieldType.int)) (hT : ST h0 sa s s.heap) (hA0 : ∀ q, (fun _ => False) q → h0 ≤ q)    : ∀ (n9 : Nat) (y1 : Int32) (y2 : Int32) (w : Dt) (locs : List Loc) (ls : Array Slot), wp_X6_countThere_4 post   n9 y1 y2 w → (Blk D tc A (shW ad) ad w s.heap) → va_S (fun _ => False) s.heap s.heap locs → lv_has ls 3 [(0, .ref (ad 7)), (1, .int y1), (2, .int y2)] → W p l e rm_X6_countThere s m args below meth c s.heap locs 0 0 (MQ below (QB post (fun (_ : Int32) (H1 : Heap) => H1 = s.heap) (fun u : Int32 => some (.int u)) (fun _ => False)) args s rm_X6_countThere.cells rm_X6_countThere.slots (fun _ => False)) (F0 m 4 ls []) := by
  have hx := X.1
  have hb := X.2.1
  have hown := X.2.2.2.1
  have hU := X.2.2.2.2.1.1
  intro n9
  induction n9 with
  | zero =>
    intro y1 y2 w  locs ls hw
    exact hw.elim
  | succ n9 ih =>
    intro y1 y2 w  locs ls hw hBw hS hl
    unfold wp_X6_countThere_4 at hw
    refine lv_iload_n hx hb dX6_countThere_4 rfl (lv_at hl 2 rfl) ?_
    refine lv_aload_n hx hb dX6_countThere_5 rfl (lv_at hl 0 rfl) ?_
    refine g_get X dX6_countThere_6 f_X6_35 hBw 7 (v := .int (w 7 0)) rfl rfl ?_
    refine lv_icmp_ge (tgt := 41) hx hb dX6_countThere_9 (by decide) (fun c1 => ?_) (fun c1 => ?_)
    · have hw := hw.1 c1
      exact t_X6_countThere_41 X hr hT hA0   _ _ _ _ hw hBw hS (lv_sub hl [1] rfl)
    · have hw := hw.2 c1
      refine lv_iload_n hx hb dX6_countThere_12 rfl (lv_at hl 2 rfl) ?_
      refine lv_bipush (v := 12) hx hb dX6_countThere_13 (by decide) ?_
      refine lv_icmp_ge (tgt := 41) hx hb dX6_countThere_15 (by decide) (fun c2 => ?_) (fun c2 => ?_)
      · have hw := hw.1 c2
        exact t_X6_countThere_41 X hr hT hA0   _ _ _ _ hw hBw hS (lv_sub hl [1] rfl)
      · have hw := hw.2 c2
        refine lv_iload_n hx hb dX6_countThere_18 rfl (lv_at hl 1 rfl) ?_
        refine lv_aload_n hx hb dX6_countThere_19 rfl (lv_at hl 0 rfl) ?_
        refine g_get X dX6_countThere_20 f_X6_28 hBw 7 (v := .ref (ad 13)) rfl rfl ?_
        refine lv_iload_n hx hb dX6_countThere_23 rfl (lv_at hl 2 rfl) ?_
        obtain ⟨o3, hw⟩ := hw
        refine g_zald X dX6_countThere_24 hBw 13 rfl o3 rfl ?_
        refine lv_if_eq (tgt := 32) hx hb dX6_countThere_25 (by decide) (fun c4 => ?_) (fun c4 => ?_)
        · have hw := hw.1 c4
          refine lv_iconst (v := 0) hx hb dX6_countThere_32 (by decide) ?_
          exact t_X6_countThere_33 X hr hT hA0  ih _ _ _ _ _ _ hw hBw hS (lv_sub hl [0, 2] rfl)
        · have hw := hw.2 c4
          refine lv_iconst (v := 1) hx hb dX6_countThere_28 (by decide) ?_
          refine lv_goto (tgt := 33) hx hb dX6_countThere_29 (by decide) ?_
          exact t_X6_countThere_33 X hr hT hA0  ih _ _ _ _ _ _ hw hBw hS (lv_sub hl [0, 2] rfl)
def wp_X6_countThere (post : Int32 → Prop) (w : Dt) : Prop := ∃ k9 : Nat, wp_X6_countThere_4 post   k9 0 0 w
set_option maxHeartbeats 4000000 in
set_option maxRecDepth 100000 in
theorem c_X6_countThere (l : Launch) (D : va_G) (tc : Nat → ClassId) (h0 : Nat) (sa : Nat → Nat)  (H0 : Heap) {ad : Nat → Nat} {A : Nat → Prop} {w : Dt} (hBw : Blk D tc A (shW ad) ad w H0)  {post : Int32 → Prop} (hw : wp_X6_countThere post w) : MB l yX6_countThere cX6_countThere 3 (Option.some FieldType.int) rm_X6_countThere (fun _ => False) [.ref (ad 7)] D tc h0 sa H0 post (fun (_ : Int32) (H1 : Heap) => H1 = H0) (fun u : Int32 => some (.int u)) := by
  have hA0 : ∀ q : Nat, (fun _ : Nat => False) q → h0 ≤ q := fun _ h => h.elim
  refine MB.of RX6 [(0, .ref (ad 7))] (by decide +kernel) rfl (Nat.le_of_ble_eq_true rfl) rfl ?_
  intro p e s m below meth c ls X hr hin hT hH hS hl
  subst hH
  have hx := X.1
  have hb := X.2.1
  have hown := X.2.2.2.1
  have hU := X.2.2.2.2.1.1
  unfold wp_X6_countThere at hw
  refine lv_iconst (v := 0) hx hb dX6_countThere_0 (by decide) ?_
  refine lv_istore_n (lv' := [(1, .int 0), (0, .ref (ad 7))]) hx hb dX6_countThere_1 rfl hl (by decide) rfl (fun ls hl => ?_)
  refine lv_iconst (v := 0) hx hb dX6_countThere_2 (by decide) ?_
  refine lv_istore_n (lv' := [(2, .int 0), (1, .int 0), (0, .ref (ad 7))]) hx hb dX6_countThere_3 rfl hl (by decide) rfl (fun ls hl => ?_)
  obtain ⟨k9, hw⟩ := hw
  exact t_X6_countThere_4 X hr hT hA0   k9 _ _ _ _ _ hw hBw hS (lv_sub hl [2, 1, 0] rfl)
abbrev rm_X6_blow : Room := { frames := 1, cells := 0, slots := 0, locals := 22 }
def wp_X6_blow_72 (post : Dt → Prop)   (w : Dt) : Prop := post w
set_option maxHeartbeats 4000000 in
set_option maxRecDepth 100000 in
theorem t_X6_blow_72 {p : Program} {l : Launch} {e : Env} {s : State} {m : MethodId} {args : Array Value} {below : List Frame} {meth : Method} {c : Code} {D : va_G} {tc : Nat → ClassId} {h0 : Nat} {sa : Nat → Nat}  {ad : Nat → Nat} {A : Nat → Prop} {post : Dt → Prop}  (X : Cx p c s m meth cX6_blow 4 RX6 D tc) (hr : meth.sig.returnType = (Option.none : Option FieldType)) (hT : ST h0 sa s s.heap) (hA0 : ∀ q, A q → h0 ≤ q)    : ∀ (w : Dt) (H : Heap) (locs : List Loc) (ls : Array Slot), wp_X6_blow_72 post   w → (Blk D tc A (shW ad) ad w H) → va_S A s.heap H locs → lv_has ls 4 [] → W p l e rm_X6_blow s m args below meth c H locs 0 0 (MQ below (QB post (fun (u : Dt) (H1 : Heap) => Blk D tc A (shW ad) ad u H1) (fun _ : Dt => none) A) args s rm_X6_blow.cells rm_X6_blow.slots A) (F0 m 72 ls []) := by
  have hx := X.1
  have hb := X.2.1
  have hown := X.2.2.2.1
  have hU := X.2.2.2.2.1.1
  intro w H locs ls hw hBw hS hl
  unfold wp_X6_blow_72 at hw
  exact e_v X hr dX6_blow_72 hS (w) rfl hw hBw ⟨Nat.le_of_ble_eq_true rfl, Nat.le_of_ble_eq_true rfl⟩
def wp_X6_blow_66 (post : Dt → Prop)  (K2 : Int32 → Dt → Prop) (y2 : Int32) (w : Dt) : Prop := K2 (y2 + 1) w
set_option maxHeartbeats 4000000 in
set_option maxRecDepth 100000 in
theorem t_X6_blow_66 {p : Program} {l : Launch} {e : Env} {s : State} {m : MethodId} {args : Array Value} {below : List Frame} {meth : Method} {c : Code} {D : va_G} {tc : Nat → ClassId} {h0 : Nat} {sa : Nat → Nat}  {ad : Nat → Nat} {A : Nat → Prop} {post : Dt → Prop} {K2 : Int32 → Dt → Prop} (X : Cx p c s m meth cX6_blow 4 RX6 D tc) (hr : meth.sig.returnType = (Option.none : Option FieldType)) (hT : ST h0 sa s s.heap) (hA0 : ∀ q, A q → h0 ≤ q)   (hK2 : ∀ (y2 : Int32) (w : Dt) (H : Heap) (locs : List Loc) (ls : Array Slot), K2 y2 w → (Blk D tc A (shW ad) ad w H) → va_S A s.heap H locs → lv_has ls 4 [(0, .ref (ad 7)), (1, .ref (ad 5)), (2, .int y2)] → W p l e rm_X6_blow s m args below meth c H locs 0 0 (MQ below (QB post (fun (u : Dt) (H1 : Heap) => Blk D tc A (shW ad) ad u H1) (fun _ : Dt => none) A) args s rm_X6_blow.cells rm_X6_blow.slots A) (F0 m 2 ls [])) : ∀ (y2 : Int32) (w : Dt) (H : Heap) (locs : List Loc) (ls : Array Slot), wp_X6_blow_66 post  K2 y2 w → (Blk D tc A (shW ad) ad w H) → va_S A s.heap H locs → lv_has ls 4 [(0, .ref (ad 7)), (1, .ref (ad 5)), (2, .int y2)] → W p l e rm_X6_blow s m args below meth c H locs 0 0 (MQ below (QB post (fun (u : Dt) (H1 : Heap) => Blk D tc A (shW ad) ad u H1) (fun _ : Dt => none) A) args s rm_X6_blow.cells rm_X6_blow.slots A) (F0 m 66 ls []) := by
  have hx := X.1
  have hb := X.2.1
  have hown := X.2.2.2.1
  have hU := X.2.2.2.2.1.1
  intro y2 w H locs ls hw hBw hS hl
  unfold wp_X6_blow_66 at hw
  refine lv_iinc (lv' := [(2, .int (y2 + 1)), (0, .ref (ad 7)), (1, .ref (ad 5))]) hx hb dX6_blow_66 hl (k := 2) rfl (by rfl) (by decide) rfl (fun ls hl => ?_)
  refine lv_goto (tgt := 2) hx hb dX6_blow_69 (by decide) ?_
  exact hK2 _ _ _ _ _ hw hBw hS (lv_sub hl [1, 2, 0] rfl)
def wp_X6_blow_2 (post : Dt → Prop)   : Nat → Int32 → Dt → Prop
  | 0, _, _ => False
  | n9 + 1, y2, w => ((w 7 0) ≤ y2 → wp_X6_blow_72 post   w) ∧ (¬ (w 7 0) ≤ y2 → (12 ≤ y2 → wp_X6_blow_72 post   w) ∧ (¬ 12 ≤ y2 → vp_in y2 12 ∧ (((w 13 y2.toNatClampNeg) = 0 → wp_X6_blow_66 post  (fun a0 w => wp_X6_blow_2 post   n9 a0 w) y2 w) ∧ (¬ (w 13 y2.toNatClampNeg) = 0 → wp_X0_windOf (fun r5 => ∀ v6 : Int32, v6 = ((w 9 y2.toNatClampNeg) + r5) → (wp_J9_floorMod_7cf53 (fun r7 => ∀ w8 : Dt, w8 = up2 w 9 y2.toNatClampNeg r7 → (∀ w9 : Dt, w9 = up2 w8 11 y2.toNatClampNeg ((w8 11 y2.toNatClampNeg) + 1) → (wp_X6_blow_66 post  (fun a0 w => wp_X6_blow_2 post   n9 a0 w) y2 w9))) v6 3600)) w (w 8 y2.toNatClampNeg)))))
set_option maxHeartbeats 4000000 in
set_option maxRecDepth 100000 in
theorem t_X6_blow_2 {p : Program} {l : Launch} {e : Env} {s : State} {m : MethodId} {args : Array Value} {below : List Frame} {meth : Method} {c : Code} {D : va_G} {tc : Nat → ClassId} {h0 : Nat} {sa : Nat → Nat}  {ad : Nat → Nat} {A : Nat → Prop} {post : Dt → Prop}  (X : Cx p c s m meth cX6_blow 4 RX6 D tc) (hr : meth.sig.returnType = (Option.none : Option FieldType)) (hT : ST h0 sa s s.heap) (hA0 : ∀ q, A q → h0 ≤ q)    : ∀ (n9 : Nat) (y2 : Int32) (w : Dt) (H : Heap) (locs : List Loc) (ls : Array Slot), wp_X6_blow_2 post   n9 y2 w → (Blk D tc A (shW ad) ad w H) → va_S A s.heap H locs → lv_has ls 4 [(0, .ref (ad 7)), (1, .ref (ad 5)), (2, .int y2)] → W p l e rm_X6_blow s m args below meth c H locs 0 0 (MQ below (QB post (fun (u : Dt) (H1 : Heap) => Blk D tc A (shW ad) ad u H1) (fun _ : Dt => none) A) args s rm_X6_blow.cells rm_X6_blow.slots A) (F0 m 2 ls []) := by
  have hx := X.1
  have hb := X.2.1
  have hown := X.2.2.2.1
  have hU := X.2.2.2.2.1.1
  intro n9
  induction n9 with
  | zero =>
    intro y2 w H locs ls hw
    exact hw.elim
  | succ n9 ih =>
    intro y2 w H locs ls hw hBw hS hl
    unfold wp_X6_blow_2 at hw
    refine lv_iload_n hx hb dX6_blow_2 rfl (lv_at hl 2 rfl) ?_
    refine lv_aload_n hx hb dX6_blow_3 rfl (lv_at hl 0 rfl) ?_
    refine g_get X dX6_blow_4 f_X6_35 hBw 7 (v := .int (w 7 0)) rfl rfl ?_
    refine lv_icmp_ge (tgt := 72) hx hb dX6_blow_7 (by decide) (fun c1 => ?_) (fun c1 => ?_)
    · have hw := hw.1 c1
      exact t_X6_blow_72 X hr hT hA0   _ _ _ _ hw hBw hS (lv_sub hl [] rfl)
    · have hw := hw.2 c1
      refine lv_iload_n hx hb dX6_blow_10 rfl (lv_at hl 2 rfl) ?_
      refine lv_bipush (v := 12) hx hb dX6_blow_11 (by decide) ?_
      refine lv_icmp_ge (tgt := 72) hx hb dX6_blow_13 (by decide) (fun c2 => ?_) (fun c2 => ?_)
      · have hw := hw.1 c2
        exact t_X6_blow_72 X hr hT hA0   _ _ _ _ hw hBw hS (lv_sub hl [] rfl)
      · have hw := hw.2 c2
        refine lv_aload_n hx hb dX6_blow_16 rfl (lv_at hl 0 rfl) ?_
        refine g_get X dX6_blow_17 f_X6_28 hBw 7 (v := .ref (ad 13)) rfl rfl ?_
        refine lv_iload_n hx hb dX6_blow_20 rfl (lv_at hl 2 rfl) ?_
        obtain ⟨o3, hw⟩ := hw
        refine g_zald X dX6_blow_21 hBw 13 rfl o3 rfl ?_
        refine lv_if_eq (tgt := 66) hx hb dX6_blow_22 (by decide) (fun c4 => ?_) (fun c4 => ?_)
        · have hw := hw.1 c4
          exact t_X6_blow_66 X hr hT hA0  ih _ _ _ _ _ hw hBw hS (lv_sub hl [0, 1, 2] rfl)
        · have hw := hw.2 c4
          refine lv_aload_n hx hb dX6_blow_25 rfl (lv_at hl 0 rfl) ?_
          refine g_get X dX6_blow_26 f_X6_15 hBw 7 (v := .ref (ad 9)) rfl rfl ?_
          refine lv_iload_n hx hb dX6_blow_29 rfl (lv_at hl 2 rfl) ?_
          refine g_iald X dX6_blow_30 hBw 9 rfl o3 rfl ?_
          refine lv_aload_n hx hb dX6_blow_31 rfl (lv_at hl 1 rfl) ?_
          refine lv_aload_n hx hb dX6_blow_32 rfl (lv_at hl 0 rfl) ?_
          refine g_get X dX6_blow_33 f_X6_9 hBw 7 (v := .ref (ad 8)) rfl rfl ?_
          refine lv_iload_n hx hb dX6_blow_36 rfl (lv_at hl 2 rfl) ?_
          refine g_iald X dX6_blow_37 hBw 8 rfl o3 rfl ?_
          refine g_after (st0 := .int (w 8 y2.toNatClampNeg) :: .ref (ad 5) :: [.int (w 9 y2.toNatClampNeg)]) (rest := [.int (w 9 y2.toNatClampNeg)]) (g_V X m_X6_54 (c_X0_windOf l D tc h0 sa (w 8 y2.toNatClampNeg) _ hBw hw) (hBw.recv X 5 rfl (q := (RX0, TX0, 4)) rfl) hT hS hA0 dX6_blow_38 hl.1 rfl rfl ⟨Nat.le_of_ble_eq_true rfl, Nat.le_of_ble_eq_true rfl⟩ (Nat.le_of_ble_eq_true rfl) ⟨Nat.le_of_ble_eq_true rfl, Nat.le_of_ble_eq_true rfl⟩) hS (fun _ h => h.elim) (fun u => .int u :: [.int (w 9 y2.toNatClampNeg)]) (fun _ => rfl) (fun u H9 locs hw hP9 hz9 hk9 hS => ?_)
          have e9 : H9 = _ := hP9
          rw [e9] at hS ⊢
          obtain ⟨r5, rfl⟩ : ∃ z, z = u := ⟨_, rfl⟩
          try dsimp only at hw
          refine lv_iadd hx hb dX6_blow_41 ?_
          refine lv_topi (fun v6 ev6 => ?_)
          have hw := hw v6 ev6
          refine lv_istore_n (lv' := [(3, .int v6), (0, .ref (ad 7)), (1, .ref (ad 5)), (2, .int y2)]) hx hb dX6_blow_42 rfl hl (by decide) rfl (fun ls hl => ?_)
          refine lv_aload_n hx hb dX6_blow_43 rfl (lv_at hl 1 rfl) ?_
          refine g_get X dX6_blow_44 f_X6_15 hBw 7 (v := .ref (ad 9)) rfl rfl ?_
          refine lv_iload_n hx hb dX6_blow_47 rfl (lv_at hl 3 rfl) ?_
          refine lv_iload_n hx hb dX6_blow_48 rfl (lv_at hl 0 rfl) ?_
          refine lv_sipush (v := 3600) hx hb dX6_blow_49 (by decide) ?_
          refine g_after (st0 := .int 3600 :: .int v6 :: [.int y2, .ref (ad 9)]) (rest := [.int y2, .ref (ad 9)]) (g_S X m_X6_60 (c_J9_floorMod_7cf53 l D tc h0 sa v6 3600 _  hw) hT hS hA0 dX6_blow_52 hl.1 rfl rfl ⟨Nat.le_of_ble_eq_true rfl, Nat.le_of_ble_eq_true rfl⟩ (Nat.le_of_ble_eq_true rfl) ⟨Nat.le_of_ble_eq_true rfl, Nat.le_of_ble_eq_true rfl⟩) hS (fun _ h => h.elim) (fun u => .int u :: [.int y2, .ref (ad 9)]) (fun _ => rfl) (fun u H9 locs hw hP9 hz9 hk9 hS => ?_)
          have e9 : H9 = _ := hP9
          rw [e9] at hS ⊢
          obtain ⟨r7, rfl⟩ : ∃ z, z = u := ⟨_, rfl⟩
          try dsimp only at hw
          refine g_iast X dX6_blow_55 hBw hS 9 rfl o3 rfl  (fun H locs hBw oq hS => ?_)
          obtain ⟨w8, ew8⟩ : ∃ z : Dt, z = up2 w 9 y2.toNatClampNeg r7 := ⟨_, rfl⟩
          rw [← ew8] at hBw
          have hw := hw w8 ew8
          refine lv_aload_n hx hb dX6_blow_56 rfl (lv_at hl 1 rfl) ?_
          refine g_get X dX6_blow_57 f_X6_21 hBw 7 (v := .ref (ad 11)) rfl rfl ?_
          refine lv_iload_n hx hb dX6_blow_60 rfl (lv_at hl 3 rfl) ?_
          refine lv_dup2_11 hx hb dX6_blow_61 rfl rfl ?_
          refine g_iald X dX6_blow_62 hBw 11 rfl o3 rfl ?_
          refine lv_iconst (v := 1) hx hb dX6_blow_63 (by decide) ?_
          refine lv_iadd hx hb dX6_blow_64 ?_
          refine g_iast X dX6_blow_65 hBw hS 11 rfl o3 rfl  (fun H locs hBw oq hS => ?_)
          obtain ⟨w9, ew9⟩ : ∃ z : Dt, z = up2 w8 11 y2.toNatClampNeg ((w8 11 y2.toNatClampNeg) + 1) := ⟨_, rfl⟩
          rw [← ew9] at hBw
          have hw := hw w9 ew9
          exact t_X6_blow_66 X hr hT hA0  ih _ _ _ _ _ hw hBw hS (lv_sub hl [1, 2, 3] rfl)
def wp_X6_blow (post : Dt → Prop) (w : Dt) : Prop := ∃ k9 : Nat, wp_X6_blow_2 post   k9 0 w
set_option maxHeartbeats 4000000 in
set_option maxRecDepth 100000 in
theorem c_X6_blow (l : Launch) (D : va_G) (tc : Nat → ClassId) (h0 : Nat) (sa : Nat → Nat)  (H0 : Heap) {ad : Nat → Nat} {A : Nat → Prop} {w : Dt} (hBw : Blk D tc A (shW ad) ad w H0) (hA0 : ∀ q, A q → h0 ≤ q) {post : Dt → Prop} (hw : wp_X6_blow post w) : MB l yX6_blow cX6_blow 4 (Option.none : Option FieldType) rm_X6_blow A [.ref (ad 7), .ref (ad 5)] D tc h0 sa H0 post (fun (u : Dt) (H1 : Heap) => Blk D tc A (shW ad) ad u H1) (fun _ : Dt => none) := by
  refine MB.of RX6 [(0, .ref (ad 7)), (1, .ref (ad 5))] (by decide +kernel) rfl (Nat.le_of_ble_eq_true rfl) rfl ?_
  intro p e s m below meth c ls X hr hin hT hH hS hl
  subst hH
  have hx := X.1
  have hb := X.2.1
  have hown := X.2.2.2.1
  have hU := X.2.2.2.2.1.1
  unfold wp_X6_blow at hw
  refine lv_iconst (v := 0) hx hb dX6_blow_0 (by decide) ?_
  refine lv_istore_n (lv' := [(2, .int 0), (0, .ref (ad 7)), (1, .ref (ad 5))]) hx hb dX6_blow_1 rfl hl (by decide) rfl (fun ls hl => ?_)
  obtain ⟨k9, hw⟩ := hw
  exact t_X6_blow_2 X hr hT hA0   k9 _ _ _ _ _ hw hBw hS (lv_sub hl [1, 2, 0] rfl)
abbrev rm_X6_doMeet : Room := { frames := 2, cells := 0, slots := 0, locals := 43 }
def wp_X6_doMeet_71 (post : Int32 → Prop)   (z0 : Int32) (w : Dt) : Prop := narrow .boolean (.int z0) = .int z0 ∧ (post z0)
set_option maxHeartbeats 4000000 in
set_option maxRecDepth 100000 in
theorem t_X6_doMeet_71 {p : Program} {l : Launch} {e : Env} {s : State} {m : MethodId} {args : Array Value} {below : List Frame} {meth : Method} {c : Code} {D : va_G} {tc : Nat → ClassId} {h0 : Nat} {sa : Nat → Nat}  {ad : Nat → Nat} {A : Nat → Prop} {post : Int32 → Prop}  (X : Cx p c s m meth cX6_doMeet 3 RX6 D tc) (hr : meth.sig.returnType = (Option.some FieldType.boolean)) (hT : ST h0 sa s s.heap) (hA0 : ∀ q, (fun _ => False) q → h0 ≤ q)    : ∀ (z0 : Int32) (w : Dt) (locs : List Loc) (ls : Array Slot), wp_X6_doMeet_71 post   z0 w → (Blk D tc A (shW ad) ad w s.heap) → va_S (fun _ => False) s.heap s.heap locs → lv_has ls 3 [] → W p l e rm_X6_doMeet s m args below meth c s.heap locs 0 0 (MQ below (QB post (fun (_ : Int32) (H1 : Heap) => H1 = s.heap) (fun u : Int32 => some (.int u)) (fun _ => False)) args s rm_X6_doMeet.cells rm_X6_doMeet.slots (fun _ => False)) (F0 m 71 ls [.int z0]) := by
  have hx := X.1
  have hb := X.2.1
  have hown := X.2.2.2.1
  have hU := X.2.2.2.2.1.1
  intro z0 w  locs ls hw hBw hS hl
  unfold wp_X6_doMeet_71 at hw
  obtain ⟨o3, hw⟩ := hw
  exact e_z X hr o3 dX6_doMeet_71 hS (z0) rfl hw rfl ⟨Nat.le_of_ble_eq_true rfl, Nat.le_of_ble_eq_true rfl⟩
def wp_X6_doMeet_70 (post : Int32 → Prop)   (w : Dt) : Prop := wp_X6_doMeet_71 post   0 w
set_option maxHeartbeats 4000000 in
set_option maxRecDepth 100000 in
theorem t_X6_doMeet_70 {p : Program} {l : Launch} {e : Env} {s : State} {m : MethodId} {args : Array Value} {below : List Frame} {meth : Method} {c : Code} {D : va_G} {tc : Nat → ClassId} {h0 : Nat} {sa : Nat → Nat}  {ad : Nat → Nat} {A : Nat → Prop} {post : Int32 → Prop}  (X : Cx p c s m meth cX6_doMeet 3 RX6 D tc) (hr : meth.sig.returnType = (Option.some FieldType.boolean)) (hT : ST h0 sa s s.heap) (hA0 : ∀ q, (fun _ => False) q → h0 ≤ q)    : ∀ (w : Dt) (locs : List Loc) (ls : Array Slot), wp_X6_doMeet_70 post   w → (Blk D tc A (shW ad) ad w s.heap) → va_S (fun _ => False) s.heap s.heap locs → lv_has ls 3 [] → W p l e rm_X6_doMeet s m args below meth c s.heap locs 0 0 (MQ below (QB post (fun (_ : Int32) (H1 : Heap) => H1 = s.heap) (fun u : Int32 => some (.int u)) (fun _ => False)) args s rm_X6_doMeet.cells rm_X6_doMeet.slots (fun _ => False)) (F0 m 70 ls []) := by
  have hx := X.1
  have hb := X.2.1
  have hown := X.2.2.2.1
  have hU := X.2.2.2.2.1.1
  intro w  locs ls hw hBw hS hl
  unfold wp_X6_doMeet_70 at hw
  refine lv_iconst (v := 0) hx hb dX6_doMeet_70 (by decide) ?_
  exact t_X6_doMeet_71 X hr hT hA0   _ _ _ _ hw hBw hS (lv_sub hl [] rfl)
def wp_X6_doMeet (post : Int32 → Prop) (w : Dt) (x1 : Int32) (x2 : Int32) : Prop := vp_in x1 12 ∧ (((w 13 x1.toNatClampNeg) = 0 → wp_X6_doMeet_70 post   w) ∧ (¬ (w 13 x1.toNatClampNeg) = 0 → vp_in x2 12 ∧ (((w 13 x2.toNatClampNeg) = 0 → wp_X6_doMeet_70 post   w) ∧ (¬ (w 13 x2.toNatClampNeg) = 0 → (¬ (w 8 x1.toNatClampNeg) = (w 8 x2.toNatClampNeg) → wp_X6_doMeet_70 post   w) ∧ ((w 8 x1.toNatClampNeg) = (w 8 x2.toNatClampNeg) → wp_X8_distance (fun r7 => ((((w 10 x1.toNatClampNeg) + (w 10 x2.toNatClampNeg)) / 2) ≤ r7 → wp_X6_doMeet_70 post   w) ∧ (¬ (((w 10 x1.toNatClampNeg) + (w 10 x2.toNatClampNeg)) / 2) ≤ r7 → wp_X6_doMeet_71 post   1 w)) (w 9 x1.toNatClampNeg) (w 9 x2.toNatClampNeg))))))
set_option maxHeartbeats 4000000 in
set_option maxRecDepth 100000 in
theorem c_X6_doMeet (l : Launch) (D : va_G) (tc : Nat → ClassId) (h0 : Nat) (sa : Nat → Nat) (x1 : Int32) (x2 : Int32) (H0 : Heap) {ad : Nat → Nat} {A : Nat → Prop} {w : Dt} (hBw : Blk D tc A (shW ad) ad w H0)  {post : Int32 → Prop} (hw : wp_X6_doMeet post w x1 x2) : MB l yX6_doMeet cX6_doMeet 3 (Option.some FieldType.boolean) rm_X6_doMeet (fun _ => False) [.ref (ad 7), .int x1, .int x2] D tc h0 sa H0 post (fun (_ : Int32) (H1 : Heap) => H1 = H0) (fun u : Int32 => some (.int u)) := by
  have hA0 : ∀ q : Nat, (fun _ : Nat => False) q → h0 ≤ q := fun _ h => h.elim
  refine MB.of RX6 [(0, .ref (ad 7)), (1, .int x1), (2, .int x2)] (by decide +kernel) rfl (Nat.le_of_ble_eq_true rfl) rfl ?_
  intro p e s m below meth c ls X hr hin hT hH hS hl
  subst hH
  have hx := X.1
  have hb := X.2.1
  have hown := X.2.2.2.1
  have hU := X.2.2.2.2.1.1
  unfold wp_X6_doMeet at hw
  refine lv_aload_n hx hb dX6_doMeet_0 rfl (lv_at hl 0 rfl) ?_
  refine g_get X dX6_doMeet_1 f_X6_28 hBw 7 (v := .ref (ad 13)) rfl rfl ?_
  refine lv_iload_n hx hb dX6_doMeet_4 rfl (lv_at hl 1 rfl) ?_
  obtain ⟨o1, hw⟩ := hw
  refine g_zald X dX6_doMeet_5 hBw 13 rfl o1 rfl ?_
  refine lv_if_eq (tgt := 70) hx hb dX6_doMeet_6 (by decide) (fun c2 => ?_) (fun c2 => ?_)
  · have hw := hw.1 c2
    exact t_X6_doMeet_70 X hr hT hA0   _ _ _ hw hBw hS (lv_sub hl [] rfl)
  · have hw := hw.2 c2
    refine lv_aload_n hx hb dX6_doMeet_9 rfl (lv_at hl 0 rfl) ?_
    refine g_get X dX6_doMeet_10 f_X6_28 hBw 7 (v := .ref (ad 13)) rfl rfl ?_
    refine lv_iload_n hx hb dX6_doMeet_13 rfl (lv_at hl 2 rfl) ?_
    obtain ⟨o4, hw⟩ := hw
    refine g_zald X dX6_doMeet_14 hBw 13 rfl o4 rfl ?_
    refine lv_if_eq (tgt := 70) hx hb dX6_doMeet_15 (by decide) (fun c5 => ?_) (fun c5 => ?_)
    · have hw := hw.1 c5
      exact t_X6_doMeet_70 X hr hT hA0   _ _ _ hw hBw hS (lv_sub hl [] rfl)
    · have hw := hw.2 c5
      refine lv_aload_n hx hb dX6_doMeet_18 rfl (lv_at hl 0 rfl) ?_
      refine g_get X dX6_doMeet_19 f_X6_9 hBw 7 (v := .ref (ad 8)) rfl rfl ?_
      refine lv_iload_n hx hb dX6_doMeet_22 rfl (lv_at hl 1 rfl) ?_
      refine g_iald X dX6_doMeet_23 hBw 8 rfl o1 rfl ?_
      refine lv_aload_n hx hb dX6_doMeet_24 rfl (lv_at hl 0 rfl) ?_
      refine g_get X dX6_doMeet_25 f_X6_9 hBw 7 (v := .ref (ad 8)) rfl rfl ?_
      refine lv_iload_n hx hb dX6_doMeet_28 rfl (lv_at hl 2 rfl) ?_
      refine g_iald X dX6_doMeet_29 hBw 8 rfl o4 rfl ?_
      refine lv_icmp_ne (tgt := 70) hx hb dX6_doMeet_30 (by decide) (fun c6 => ?_) (fun c6 => ?_)
      · have hw := hw.1 c6
        exact t_X6_doMeet_70 X hr hT hA0   _ _ _ hw hBw hS (lv_sub hl [] rfl)
      · have hw := hw.2 c6
        refine lv_aload_n hx hb dX6_doMeet_33 rfl (lv_at hl 0 rfl) ?_
        refine g_get X dX6_doMeet_34 f_X6_15 hBw 7 (v := .ref (ad 9)) rfl rfl ?_
        refine lv_iload_n hx hb dX6_doMeet_37 rfl (lv_at hl 1 rfl) ?_
        refine g_iald X dX6_doMeet_38 hBw 9 rfl o1 rfl ?_
        refine lv_aload_n hx hb dX6_doMeet_39 rfl (lv_at hl 0 rfl) ?_
        refine g_get X dX6_doMeet_40 f_X6_15 hBw 7 (v := .ref (ad 9)) rfl rfl ?_
        refine lv_iload_n hx hb dX6_doMeet_43 rfl (lv_at hl 2 rfl) ?_
        refine g_iald X dX6_doMeet_44 hBw 9 rfl o4 rfl ?_
        refine g_after (st0 := .int (w 9 x2.toNatClampNeg) :: .int (w 9 x1.toNatClampNeg) :: []) (rest := []) (g_SN X m_X6_74 (c_X8_distance l D tc h0 sa (w 9 x1.toNatClampNeg) (w 9 x2.toNatClampNeg) _  hw) hT hS hA0 dX6_doMeet_45 hl.1 rfl rfl ⟨Nat.le_of_ble_eq_true rfl, Nat.le_of_ble_eq_true rfl⟩ (Nat.le_of_ble_eq_true rfl) ⟨Nat.le_of_ble_eq_true rfl, Nat.le_of_ble_eq_true rfl⟩) hS (fun _ h => h.elim) (fun u => .int u :: []) (fun _ => rfl) (fun u H9 locs hw hP9 hz9 hk9 hS => ?_)
        have e9 : H9 = _ := hP9
        rw [e9] at hS ⊢
        obtain ⟨r7, rfl⟩ : ∃ z, z = u := ⟨_, rfl⟩
        try dsimp only at hw
        refine lv_aload_n hx hb dX6_doMeet_48 rfl (lv_at hl 0 rfl) ?_
        refine g_get X dX6_doMeet_49 f_X6_18 hBw 7 (v := .ref (ad 10)) rfl rfl ?_
        refine lv_iload_n hx hb dX6_doMeet_52 rfl (lv_at hl 1 rfl) ?_
        refine g_iald X dX6_doMeet_53 hBw 10 rfl o1 rfl ?_
        refine lv_aload_n hx hb dX6_doMeet_54 rfl (lv_at hl 0 rfl) ?_
        refine g_get X dX6_doMeet_55 f_X6_18 hBw 7 (v := .ref (ad 10)) rfl rfl ?_
        refine lv_iload_n hx hb dX6_doMeet_58 rfl (lv_at hl 2 rfl) ?_
        refine g_iald X dX6_doMeet_59 hBw 10 rfl o4 rfl ?_
        refine lv_iadd hx hb dX6_doMeet_60 ?_
        refine lv_iconst (v := 2) hx hb dX6_doMeet_61 (by decide) ?_
        refine lv_idiv hx hb dX6_doMeet_62 (by decide) ?_
        refine lv_icmp_ge (tgt := 70) hx hb dX6_doMeet_63 (by decide) (fun c8 => ?_) (fun c8 => ?_)
        · have hw := hw.1 c8
          exact t_X6_doMeet_70 X hr hT hA0   _ _ _ hw hBw hS (lv_sub hl [] rfl)
        · have hw := hw.2 c8
          refine lv_iconst (v := 1) hx hb dX6_doMeet_66 (by decide) ?_
          refine lv_goto (tgt := 71) hx hb dX6_doMeet_67 (by decide) ?_
          exact t_X6_doMeet_71 X hr hT hA0   _ _ _ _ hw hBw hS (lv_sub hl [] rfl)
abbrev rm_X6_isGreater : Room := { frames := 0, cells := 0, slots := 0, locals := 0 }
def wp_X6_isGreater_56 (post : Int32 → Prop)   (z0 : Int32) (w : Dt) : Prop := narrow .boolean (.int z0) = .int z0 ∧ (post z0)
set_option maxHeartbeats 4000000 in
set_option maxRecDepth 100000 in
theorem t_X6_isGreater_56 {p : Program} {l : Launch} {e : Env} {s : State} {m : MethodId} {args : Array Value} {below : List Frame} {meth : Method} {c : Code} {D : va_G} {tc : Nat → ClassId} {h0 : Nat} {sa : Nat → Nat}  {ad : Nat → Nat} {A : Nat → Prop} {post : Int32 → Prop}  (X : Cx p c s m meth cX6_isGreater 3 RX6 D tc) (hr : meth.sig.returnType = (Option.some FieldType.boolean)) (hT : ST h0 sa s s.heap) (hA0 : ∀ q, (fun _ => False) q → h0 ≤ q)    : ∀ (z0 : Int32) (w : Dt) (locs : List Loc) (ls : Array Slot), wp_X6_isGreater_56 post   z0 w → (Blk D tc A (shW ad) ad w s.heap) → va_S (fun _ => False) s.heap s.heap locs → lv_has ls 3 [] → W p l e rm_X6_isGreater s m args below meth c s.heap locs 0 0 (MQ below (QB post (fun (_ : Int32) (H1 : Heap) => H1 = s.heap) (fun u : Int32 => some (.int u)) (fun _ => False)) args s rm_X6_isGreater.cells rm_X6_isGreater.slots (fun _ => False)) (F0 m 56 ls [.int z0]) := by
  have hx := X.1
  have hb := X.2.1
  have hown := X.2.2.2.1
  have hU := X.2.2.2.2.1.1
  intro z0 w  locs ls hw hBw hS hl
  unfold wp_X6_isGreater_56 at hw
  obtain ⟨o5, hw⟩ := hw
  exact e_z X hr o5 dX6_isGreater_56 hS (z0) rfl hw rfl ⟨Nat.le_of_ble_eq_true rfl, Nat.le_of_ble_eq_true rfl⟩
def wp_X6_isGreater_35 (post : Int32 → Prop)   (z0 : Int32) (w : Dt) : Prop := narrow .boolean (.int z0) = .int z0 ∧ (post z0)
set_option maxHeartbeats 4000000 in
set_option maxRecDepth 100000 in
theorem t_X6_isGreater_35 {p : Program} {l : Launch} {e : Env} {s : State} {m : MethodId} {args : Array Value} {below : List Frame} {meth : Method} {c : Code} {D : va_G} {tc : Nat → ClassId} {h0 : Nat} {sa : Nat → Nat}  {ad : Nat → Nat} {A : Nat → Prop} {post : Int32 → Prop}  (X : Cx p c s m meth cX6_isGreater 3 RX6 D tc) (hr : meth.sig.returnType = (Option.some FieldType.boolean)) (hT : ST h0 sa s s.heap) (hA0 : ∀ q, (fun _ => False) q → h0 ≤ q)    : ∀ (z0 : Int32) (w : Dt) (locs : List Loc) (ls : Array Slot), wp_X6_isGreater_35 post   z0 w → (Blk D tc A (shW ad) ad w s.heap) → va_S (fun _ => False) s.heap s.heap locs → lv_has ls 3 [] → W p l e rm_X6_isGreater s m args below meth c s.heap locs 0 0 (MQ below (QB post (fun (_ : Int32) (H1 : Heap) => H1 = s.heap) (fun u : Int32 => some (.int u)) (fun _ => False)) args s rm_X6_isGreater.cells rm_X6_isGreater.slots (fun _ => False)) (F0 m 35 ls [.int z0]) := by
  have hx := X.1
  have hb := X.2.1
  have hown := X.2.2.2.1
  have hU := X.2.2.2.2.1.1
  intro z0 w  locs ls hw hBw hS hl
  unfold wp_X6_isGreater_35 at hw
  obtain ⟨o7, hw⟩ := hw
  exact e_z X hr o7 dX6_isGreater_35 hS (z0) rfl hw rfl ⟨Nat.le_of_ble_eq_true rfl, Nat.le_of_ble_eq_true rfl⟩
def wp_X6_isGreater (post : Int32 → Prop) (w : Dt) (x1 : Int32) (x2 : Int32) : Prop := vp_in x1 12 ∧ (vp_in x2 12 ∧ (((w 10 x1.toNatClampNeg) = (w 10 x2.toNatClampNeg) → ((w 11 x1.toNatClampNeg) ≤ (w 11 x2.toNatClampNeg) → wp_X6_isGreater_56 post   0 w) ∧ (¬ (w 11 x1.toNatClampNeg) ≤ (w 11 x2.toNatClampNeg) → wp_X6_isGreater_56 post   1 w)) ∧ (¬ (w 10 x1.toNatClampNeg) = (w 10 x2.toNatClampNeg) → ((w 10 x1.toNatClampNeg) ≤ (w 10 x2.toNatClampNeg) → wp_X6_isGreater_35 post   0 w) ∧ (¬ (w 10 x1.toNatClampNeg) ≤ (w 10 x2.toNatClampNeg) → wp_X6_isGreater_35 post   1 w))))
set_option maxHeartbeats 4000000 in
set_option maxRecDepth 100000 in
theorem c_X6_isGreater (l : Launch) (D : va_G) (tc : Nat → ClassId) (h0 : Nat) (sa : Nat → Nat) (x1 : Int32) (x2 : Int32) (H0 : Heap) {ad : Nat → Nat} {A : Nat → Prop} {w : Dt} (hBw : Blk D tc A (shW ad) ad w H0)  {post : Int32 → Prop} (hw : wp_X6_isGreater post w x1 x2) : MB l yX6_isGreater cX6_isGreater 3 (Option.some FieldType.boolean) rm_X6_isGreater (fun _ => False) [.ref (ad 7), .int x1, .int x2] D tc h0 sa H0 post (fun (_ : Int32) (H1 : Heap) => H1 = H0) (fun u : Int32 => some (.int u)) := by
  have hA0 : ∀ q : Nat, (fun _ : Nat => False) q → h0 ≤ q := fun _ h => h.elim
  refine MB.of RX6 [(0, .ref (ad 7)), (1, .int x1), (2, .int x2)] (by decide +kernel) rfl (Nat.le_of_ble_eq_true rfl) rfl ?_
  intro p e s m below meth c ls X hr hin hT hH hS hl
  subst hH
  have hx := X.1
  have hb := X.2.1
  have hown := X.2.2.2.1
  have hU := X.2.2.2.2.1.1
  unfold wp_X6_isGreater at hw
  refine lv_aload_n hx hb dX6_isGreater_0 rfl (lv_at hl 0 rfl) ?_
  refine g_get X dX6_isGreater_1 f_X6_18 hBw 7 (v := .ref (ad 10)) rfl rfl ?_
  refine lv_iload_n hx hb dX6_isGreater_4 rfl (lv_at hl 1 rfl) ?_
  obtain ⟨o1, hw⟩ := hw
  refine g_iald X dX6_isGreater_5 hBw 10 rfl o1 rfl ?_
  refine lv_aload_n hx hb dX6_isGreater_6 rfl (lv_at hl 0 rfl) ?_
  refine g_get X dX6_isGreater_7 f_X6_18 hBw 7 (v := .ref (ad 10)) rfl rfl ?_
  refine lv_iload_n hx hb dX6_isGreater_10 rfl (lv_at hl 2 rfl) ?_
  obtain ⟨o2, hw⟩ := hw
  refine g_iald X dX6_isGreater_11 hBw 10 rfl o2 rfl ?_
  refine lv_icmp_eq (tgt := 36) hx hb dX6_isGreater_12 (by decide) (fun c3 => ?_) (fun c3 => ?_)
  · have hw := hw.1 c3
    refine lv_aload_n hx hb dX6_isGreater_36 rfl (lv_at hl 0 rfl) ?_
    refine g_get X dX6_isGreater_37 f_X6_21 hBw 7 (v := .ref (ad 11)) rfl rfl ?_
    refine lv_iload_n hx hb dX6_isGreater_40 rfl (lv_at hl 1 rfl) ?_
    refine g_iald X dX6_isGreater_41 hBw 11 rfl o1 rfl ?_
    refine lv_aload_n hx hb dX6_isGreater_42 rfl (lv_at hl 0 rfl) ?_
    refine g_get X dX6_isGreater_43 f_X6_21 hBw 7 (v := .ref (ad 11)) rfl rfl ?_
    refine lv_iload_n hx hb dX6_isGreater_46 rfl (lv_at hl 2 rfl) ?_
    refine g_iald X dX6_isGreater_47 hBw 11 rfl o2 rfl ?_
    refine lv_icmp_le (tgt := 55) hx hb dX6_isGreater_48 (by decide) (fun c4 => ?_) (fun c4 => ?_)
    · have hw := hw.1 c4
      refine lv_iconst (v := 0) hx hb dX6_isGreater_55 (by decide) ?_
      exact t_X6_isGreater_56 X hr hT hA0   _ _ _ _ hw hBw hS (lv_sub hl [] rfl)
    · have hw := hw.2 c4
      refine lv_iconst (v := 1) hx hb dX6_isGreater_51 (by decide) ?_
      refine lv_goto (tgt := 56) hx hb dX6_isGreater_52 (by decide) ?_
      exact t_X6_isGreater_56 X hr hT hA0   _ _ _ _ hw hBw hS (lv_sub hl [] rfl)
  · have hw := hw.2 c3
    refine lv_aload_n hx hb dX6_isGreater_15 rfl (lv_at hl 0 rfl) ?_
    refine g_get X dX6_isGreater_16 f_X6_18 hBw 7 (v := .ref (ad 10)) rfl rfl ?_
    refine lv_iload_n hx hb dX6_isGreater_19 rfl (lv_at hl 1 rfl) ?_
    refine g_iald X dX6_isGreater_20 hBw 10 rfl o1 rfl ?_
    refine lv_aload_n hx hb dX6_isGreater_21 rfl (lv_at hl 0 rfl) ?_
    refine g_get X dX6_isGreater_22 f_X6_18 hBw 7 (v := .ref (ad 10)) rfl rfl ?_
    refine lv_iload_n hx hb dX6_isGreater_25 rfl (lv_at hl 2 rfl) ?_
    refine g_iald X dX6_isGreater_26 hBw 10 rfl o2 rfl ?_
    refine lv_icmp_le (tgt := 34) hx hb dX6_isGreater_27 (by decide) (fun c6 => ?_) (fun c6 => ?_)
    · have hw := hw.1 c6
      refine lv_iconst (v := 0) hx hb dX6_isGreater_34 (by decide) ?_
      exact t_X6_isGreater_35 X hr hT hA0   _ _ _ _ hw hBw hS (lv_sub hl [] rfl)
    · have hw := hw.2 c6
      refine lv_iconst (v := 1) hx hb dX6_isGreater_30 (by decide) ?_
      refine lv_goto (tgt := 35) hx hb dX6_isGreater_31 (by decide) ?_
      exact t_X6_isGreater_35 X hr hT hA0   _ _ _ _ hw hBw hS (lv_sub hl [] rfl)
