abbrev rm_X3_write : Room := { frames := 0, cells := 0, slots := 0, locals := 0 }
def wp_X3_write_16 (post : Dt → Prop)   (w : Dt) : Prop := post w
set_option maxHeartbeats 4000000 in
set_option maxRecDepth 100000 in
theorem t_X3_write_16 {p : Program} {l : Launch} {e : Env} {s : State} {m : MethodId} {args : Array Value} {below : List Frame} {meth : Method} {c : Code} {D : va_G} {tc : Nat → ClassId} {h0 : Nat} {sa : Nat → Nat}  {ad : Nat → Nat} {A : Nat → Prop} {post : Dt → Prop}  (X : Cx p c s m meth cX3_write 3 RX3 D tc) (hr : meth.sig.returnType = (Option.none : Option FieldType)) (hT : ST h0 sa s s.heap) (hA0 : ∀ q, A q → h0 ≤ q)    : ∀ (w : Dt) (locs : List Loc) (ls : Array Slot), wp_X3_write_16 post   w → (Blk D tc A (shW ad) ad w s.heap) → va_S A s.heap s.heap locs → lv_has ls 3 [] → W p l e rm_X3_write s m args below meth c s.heap locs 0 0 (MQ below (QB post (fun (u : Dt) (H1 : Heap) => Blk D tc A (shW ad) ad u H1) (fun _ : Dt => none) A) args s rm_X3_write.cells rm_X3_write.slots A) (F0 m 16 ls []) := by
  have hx := X.1
  have hb := X.2.1
  have hown := X.2.2.2.1
  have hU := X.2.2.2.2.1.1
  intro w  locs ls hw hBw hS hl
  unfold wp_X3_write_16 at hw
  exact e_v X hr dX3_write_16 hS (w) rfl hw hBw ⟨Nat.le_of_ble_eq_true rfl, Nat.le_of_ble_eq_true rfl⟩
def wp_X3_write (post : Dt → Prop) (w : Dt) (x1 : Int32) (x2 : Int32) : Prop := ((w 19 0) < 0 → wp_X3_write_16 post   w) ∧ (¬ (w 19 0) < 0 → ((w 19 0) < 60 → vp_in (w 19 0) 60 ∧ (narrow .char (.int x1) = .int x1 ∧ (∀ w5 : Dt, w5 = up2 w 20 (w 19 0).toNatClampNeg x1 → (vp_in (w5 19 0) 60 ∧ (∀ w7 : Dt, w7 = up2 w5 21 (w5 19 0).toNatClampNeg x2 → (∀ w8 : Dt, w8 = up2 w7 19 0 ((w7 19 0) + 1) → (post w8))))))) ∧ (¬ (w 19 0) < 60 → wp_X3_write_16 post   w))
set_option maxHeartbeats 4000000 in
set_option maxRecDepth 100000 in
theorem c_X3_write (l : Launch) (D : va_G) (tc : Nat → ClassId) (h0 : Nat) (sa : Nat → Nat) (x1 : Int32) (x2 : Int32) (H0 : Heap) {ad : Nat → Nat} {A : Nat → Prop} {w : Dt} (hBw : Blk D tc A (shW ad) ad w H0) (hA0 : ∀ q, A q → h0 ≤ q) {post : Dt → Prop} (hw : wp_X3_write post w x1 x2) : MB l yX3_write cX3_write 3 (Option.none : Option FieldType) rm_X3_write A [.ref (ad 19), .int x1, .int x2] D tc h0 sa H0 post (fun (u : Dt) (H1 : Heap) => Blk D tc A (shW ad) ad u H1) (fun _ : Dt => none) := by
  refine MB.of RX3 [(0, .ref (ad 19)), (1, .int x1), (2, .int x2)] (by decide +kernel) rfl (Nat.le_of_ble_eq_true rfl) rfl ?_
  intro p e s m below meth c ls X hr hin hT hH hS hl
  subst hH
  have hx := X.1
  have hb := X.2.1
  have hown := X.2.2.2.1
  have hU := X.2.2.2.2.1.1
  unfold wp_X3_write at hw
  refine lv_aload_n hx hb dX3_write_0 rfl (lv_at hl 0 rfl) ?_
  refine g_get X dX3_write_1 f_X3_19 hBw 19 (v := .int (w 19 0)) rfl rfl ?_
  refine lv_if_lt (tgt := 16) hx hb dX3_write_4 (by decide) (fun c1 => ?_) (fun c1 => ?_)
  · have hw := hw.1 c1
    exact t_X3_write_16 X hr hT hA0   _ _ _ hw hBw hS (lv_sub hl [] rfl)
  · have hw := hw.2 c1
    refine lv_aload_n hx hb dX3_write_7 rfl (lv_at hl 0 rfl) ?_
    refine g_get X dX3_write_8 f_X3_19 hBw 19 (v := .int (w 19 0)) rfl rfl ?_
    refine lv_bipush (v := 60) hx hb dX3_write_11 (by decide) ?_
    refine lv_icmp_lt (tgt := 17) hx hb dX3_write_13 (by decide) (fun c2 => ?_) (fun c2 => ?_)
    · have hw := hw.1 c2
      refine lv_aload_n hx hb dX3_write_17 rfl (lv_at hl 0 rfl) ?_
      refine g_get X dX3_write_18 f_X3_9 hBw 19 (v := .ref (ad 20)) rfl rfl ?_
      refine lv_aload_n hx hb dX3_write_21 rfl (lv_at hl 0 rfl) ?_
      refine g_get X dX3_write_22 f_X3_19 hBw 19 (v := .int (w 19 0)) rfl rfl ?_
      refine lv_iload_n hx hb dX3_write_25 rfl (lv_at hl 1 rfl) ?_
      obtain ⟨o3, hw⟩ := hw
      obtain ⟨o4, hw⟩ := hw
      refine g_cast X dX3_write_26 hBw hS 20 rfl o3 rfl o4 (fun H locs hBw oq hS => ?_)
      obtain ⟨w5, ew5⟩ : ∃ z : Dt, z = up2 w 20 (w 19 0).toNatClampNeg x1 := ⟨_, rfl⟩
      rw [← ew5] at hBw
      have hw := hw w5 ew5
      refine lv_aload_n hx hb dX3_write_27 rfl (lv_at hl 0 rfl) ?_
      refine g_get X dX3_write_28 f_X3_15 hBw 19 (v := .ref (ad 21)) rfl rfl ?_
      refine lv_aload_n hx hb dX3_write_31 rfl (lv_at hl 0 rfl) ?_
      refine g_get X dX3_write_32 f_X3_19 hBw 19 (v := .int (w5 19 0)) rfl rfl ?_
      refine lv_iload_n hx hb dX3_write_35 rfl (lv_at hl 2 rfl) ?_
      obtain ⟨o6, hw⟩ := hw
      refine g_iast X dX3_write_36 hBw hS 21 rfl o6 rfl  (fun H locs hBw oq hS => ?_)
      obtain ⟨w7, ew7⟩ : ∃ z : Dt, z = up2 w5 21 (w5 19 0).toNatClampNeg x2 := ⟨_, rfl⟩
      rw [← ew7] at hBw
      have hw := hw w7 ew7
      refine lv_aload_n hx hb dX3_write_37 rfl (lv_at hl 0 rfl) ?_
      refine lv_dup hx hb dX3_write_38 rfl ?_
      refine g_get X dX3_write_39 f_X3_19 hBw 19 (v := .int (w7 19 0)) rfl rfl ?_
      refine lv_iconst (v := 1) hx hb dX3_write_42 (by decide) ?_
      refine lv_iadd hx hb dX3_write_43 ?_
      refine g_puti X dX3_write_44 f_X3_19 hBw hS 19 rfl (x := ((w7 19 0) + 1)) rfl rfl rfl (fun H locs hBw oq hS => ?_)
      obtain ⟨w8, ew8⟩ : ∃ z : Dt, z = up2 w7 19 0 ((w7 19 0) + 1) := ⟨_, rfl⟩
      rw [← ew8] at hBw
      have hw := hw w8 ew8
      exact e_v X hr dX3_write_47 hS (w8) rfl hw hBw ⟨Nat.le_of_ble_eq_true rfl, Nat.le_of_ble_eq_true rfl⟩
    · have hw := hw.2 c2
      exact t_X3_write_16 X hr hT hA0   _ _ _ hw hBw hS (lv_sub hl [] rfl)
abbrev rm_X3_copyFrom : Room := { frames := 0, cells := 0, slots := 0, locals := 0 }
def wp_X3_copyFrom_10 (post : Dt → Prop)   : Nat → Int32 → Dt → Dt → Prop
  | 0, _, _, _ => False
  | n9 + 1, y2, w, v => (60 ≤ y2 → post w) ∧ (¬ 60 ≤ y2 → vp_in y2 60 ∧ (narrow .char (.int (v 20 y2.toNatClampNeg)) = .int (v 20 y2.toNatClampNeg) ∧ (∀ w5 : Dt, w5 = up2 w 20 y2.toNatClampNeg (v 20 y2.toNatClampNeg) → (∀ w6 : Dt, w6 = up2 w5 21 y2.toNatClampNeg (v 21 y2.toNatClampNeg) → (wp_X3_copyFrom_10 post   n9 (y2 + 1) w6 v)))))
set_option maxHeartbeats 4000000 in
set_option maxRecDepth 100000 in
theorem t_X3_copyFrom_10 {p : Program} {l : Launch} {e : Env} {s : State} {m : MethodId} {args : Array Value} {below : List Frame} {meth : Method} {c : Code} {D : va_G} {tc : Nat → ClassId} {h0 : Nat} {sa : Nat → Nat}  {ad : Nat → Nat} {A : Nat → Prop} {bd : Nat → Nat} {A2 : Nat → Prop} {post : Dt → Prop}  (X : Cx p c s m meth cX3_copyFrom 3 RX3 D tc) (hr : meth.sig.returnType = (Option.none : Option FieldType)) (hT : ST h0 sa s s.heap) (hA0 : ∀ q, A q → h0 ≤ q) (hDv : ∀ q, A q → ¬ A2 q)   : ∀ (n9 : Nat) (y2 : Int32) (w : Dt) (v : Dt) (H : Heap) (locs : List Loc) (ls : Array Slot), wp_X3_copyFrom_10 post   n9 y2 w v → (Blk D tc A (shW ad) ad w H) → (Blk D tc A2 (shW bd) bd v H) → va_S A s.heap H locs → lv_has ls 3 [(0, .ref (ad 19)), (1, .ref (bd 19)), (2, .int y2)] → W p l e rm_X3_copyFrom s m args below meth c H locs 0 0 (MQ below (QB post (fun (u : Dt) (H1 : Heap) => Blk D tc A (shW ad) ad u H1) (fun _ : Dt => none) A) args s rm_X3_copyFrom.cells rm_X3_copyFrom.slots A) (F0 m 10 ls []) := by
  have hx := X.1
  have hb := X.2.1
  have hown := X.2.2.2.1
  have hU := X.2.2.2.2.1.1
  intro n9
  induction n9 with
  | zero =>
    intro y2 w v H locs ls hw
    exact hw.elim
  | succ n9 ih =>
    intro y2 w v H locs ls hw hBw hBv hS hl
    unfold wp_X3_copyFrom_10 at hw
    refine lv_iload_n hx hb dX3_copyFrom_10 rfl (lv_at hl 2 rfl) ?_
    refine lv_bipush (v := 60) hx hb dX3_copyFrom_11 (by decide) ?_
    refine lv_icmp_ge (tgt := 46) hx hb dX3_copyFrom_13 (by decide) (fun c2 => ?_) (fun c2 => ?_)
    · have hw := hw.1 c2
      exact e_v X hr dX3_copyFrom_46 hS (w) rfl hw hBw ⟨Nat.le_of_ble_eq_true rfl, Nat.le_of_ble_eq_true rfl⟩
    · have hw := hw.2 c2
      refine lv_aload_n hx hb dX3_copyFrom_16 rfl (lv_at hl 0 rfl) ?_
      refine g_get X dX3_copyFrom_17 f_X3_9 hBw 19 (v := .ref (ad 20)) rfl rfl ?_
      refine lv_iload_n hx hb dX3_copyFrom_20 rfl (lv_at hl 2 rfl) ?_
      refine lv_aload_n hx hb dX3_copyFrom_21 rfl (lv_at hl 1 rfl) ?_
      refine g_get X dX3_copyFrom_22 f_X3_9 hBv 19 (v := .ref (bd 20)) rfl rfl ?_
      refine lv_iload_n hx hb dX3_copyFrom_25 rfl (lv_at hl 2 rfl) ?_
      obtain ⟨o3, hw⟩ := hw
      refine g_cald X dX3_copyFrom_26 hBv 20 rfl o3 rfl ?_
      obtain ⟨o4, hw⟩ := hw
      refine g_cast X dX3_copyFrom_27 hBw hS 20 rfl o3 rfl o4 (fun H locs hBw oq hS => ?_)
      have hBv := hBv.kept1 oq (hDv _ (hBw.in (i := 20) rfl))
      obtain ⟨w5, ew5⟩ : ∃ z : Dt, z = up2 w 20 y2.toNatClampNeg (v 20 y2.toNatClampNeg) := ⟨_, rfl⟩
      rw [← ew5] at hBw
      have hw := hw w5 ew5
      refine lv_aload_n hx hb dX3_copyFrom_28 rfl (lv_at hl 0 rfl) ?_
      refine g_get X dX3_copyFrom_29 f_X3_15 hBw 19 (v := .ref (ad 21)) rfl rfl ?_
      refine lv_iload_n hx hb dX3_copyFrom_32 rfl (lv_at hl 2 rfl) ?_
      refine lv_aload_n hx hb dX3_copyFrom_33 rfl (lv_at hl 1 rfl) ?_
      refine g_get X dX3_copyFrom_34 f_X3_15 hBv 19 (v := .ref (bd 21)) rfl rfl ?_
      refine lv_iload_n hx hb dX3_copyFrom_37 rfl (lv_at hl 2 rfl) ?_
      refine g_iald X dX3_copyFrom_38 hBv 21 rfl o3 rfl ?_
      refine g_iast X dX3_copyFrom_39 hBw hS 21 rfl o3 rfl  (fun H locs hBw oq hS => ?_)
      have hBv := hBv.kept1 oq (hDv _ (hBw.in (i := 21) rfl))
      obtain ⟨w6, ew6⟩ : ∃ z : Dt, z = up2 w5 21 y2.toNatClampNeg (v 21 y2.toNatClampNeg) := ⟨_, rfl⟩
      rw [← ew6] at hBw
      have hw := hw w6 ew6
      refine lv_iinc (lv' := [(2, .int (y2 + 1)), (0, .ref (ad 19)), (1, .ref (bd 19))]) hx hb dX3_copyFrom_40 hl (k := 2) rfl (by rfl) (by decide) rfl (fun ls hl => ?_)
      refine lv_goto (tgt := 10) hx hb dX3_copyFrom_43 (by decide) ?_
      exact ih _ _ _ _ _ _ hw hBw hBv hS (lv_sub hl [1, 2, 0] rfl)
def wp_X3_copyFrom (post : Dt → Prop) (w : Dt) (v : Dt) : Prop := ∀ w1 : Dt, w1 = up2 w 19 0 (v 19 0) → (∃ k9 : Nat, wp_X3_copyFrom_10 post   k9 0 w1 v)
set_option maxHeartbeats 4000000 in
set_option maxRecDepth 100000 in
theorem c_X3_copyFrom (l : Launch) (D : va_G) (tc : Nat → ClassId) (h0 : Nat) (sa : Nat → Nat)  (H0 : Heap) {ad : Nat → Nat} {A : Nat → Prop} {bd : Nat → Nat} {A2 : Nat → Prop} {w : Dt} {v : Dt} (hBw : Blk D tc A (shW ad) ad w H0) (hBv : Blk D tc A2 (shW bd) bd v H0) (hDv : ∀ q, A q → ¬ A2 q) (hA0 : ∀ q, A q → h0 ≤ q) {post : Dt → Prop} (hw : wp_X3_copyFrom post w v) : MB l yX3_copyFrom cX3_copyFrom 3 (Option.none : Option FieldType) rm_X3_copyFrom A [.ref (ad 19), .ref (bd 19)] D tc h0 sa H0 post (fun (u : Dt) (H1 : Heap) => Blk D tc A (shW ad) ad u H1) (fun _ : Dt => none) := by
  refine MB.of RX3 [(0, .ref (ad 19)), (1, .ref (bd 19))] (by decide +kernel) rfl (Nat.le_of_ble_eq_true rfl) rfl ?_
  intro p e s m below meth c ls X hr hin hT hH hS hl
  subst hH
  have hx := X.1
  have hb := X.2.1
  have hown := X.2.2.2.1
  have hU := X.2.2.2.2.1.1
  unfold wp_X3_copyFrom at hw
  refine lv_aload_n hx hb dX3_copyFrom_0 rfl (lv_at hl 0 rfl) ?_
  refine lv_aload_n hx hb dX3_copyFrom_1 rfl (lv_at hl 1 rfl) ?_
  refine g_get X dX3_copyFrom_2 f_X3_19 hBv 19 (v := .int (v 19 0)) rfl rfl ?_
  refine g_puti X dX3_copyFrom_5 f_X3_19 hBw hS 19 rfl (x := (v 19 0)) rfl rfl rfl (fun H locs hBw oq hS => ?_)
  have hBv := hBv.kept1 oq (hDv _ (hBw.in (i := 19) rfl))
  obtain ⟨w1, ew1⟩ : ∃ z : Dt, z = up2 w 19 0 (v 19 0) := ⟨_, rfl⟩
  rw [← ew1] at hBw
  have hw := hw w1 ew1
  refine lv_iconst (v := 0) hx hb dX3_copyFrom_8 (by decide) ?_
  refine lv_istore_n (lv' := [(2, .int 0), (0, .ref (ad 19)), (1, .ref (bd 19))]) hx hb dX3_copyFrom_9 rfl hl (by decide) rfl (fun ls hl => ?_)
  obtain ⟨k9, hw⟩ := hw
  exact t_X3_copyFrom_10 X hr hT hA0 hDv  k9 _ _ _ _ _ _ hw hBw hBv hS (lv_sub hl [1, 2, 0] rfl)
abbrev rm_X5_begin : Room := { frames := 0, cells := 0, slots := 0, locals := 0 }
def wp_X5_begin_15 (post : Int32 → Dt → Prop)   (w : Dt) : Prop := post (-1) w
set_option maxHeartbeats 4000000 in
set_option maxRecDepth 100000 in
theorem t_X5_begin_15 {p : Program} {l : Launch} {e : Env} {s : State} {m : MethodId} {args : Array Value} {below : List Frame} {meth : Method} {c : Code} {D : va_G} {tc : Nat → ClassId} {h0 : Nat} {sa : Nat → Nat}  {ad : Nat → Nat} {A : Nat → Prop} {post : Int32 → Dt → Prop}  (X : Cx p c s m meth cX5_begin 4 RX5 D tc) (hr : meth.sig.returnType = (Option.some FieldType.int)) (hT : ST h0 sa s s.heap) (hA0 : ∀ q, A q → h0 ≤ q)    : ∀ (w : Dt) (locs : List Loc) (ls : Array Slot), wp_X5_begin_15 post   w → (Blk D tc A (shW ad) ad w s.heap) → va_S A s.heap s.heap locs → lv_has ls 4 [] → W p l e rm_X5_begin s m args below meth c s.heap locs 0 0 (MQ below (QB (fun u : Int32 × Dt => post u.1 u.2) (fun (u : Int32 × Dt) (H1 : Heap) => Blk D tc A (shW ad) ad u.2 H1) (fun u : Int32 × Dt => some (.int u.1)) A) args s rm_X5_begin.cells rm_X5_begin.slots A) (F0 m 15 ls []) := by
  have hx := X.1
  have hb := X.2.1
  have hown := X.2.2.2.1
  have hU := X.2.2.2.2.1.1
  intro w  locs ls hw hBw hS hl
  unfold wp_X5_begin_15 at hw
  refine lv_iconst (v := (-1)) hx hb dX5_begin_15 (by decide) ?_
  exact e_i X hr dX5_begin_16 hS ((-1), w) rfl hw hBw ⟨Nat.le_of_ble_eq_true rfl, Nat.le_of_ble_eq_true rfl⟩
def wp_X5_begin (post : Int32 → Dt → Prop) (w : Dt) (x1 : Int32) (x2 : Int32) : Prop := ((w 15 0) < 0 → wp_X5_begin_15 post   w) ∧ (¬ (w 15 0) < 0 → ((w 15 0) < 8 → vp_in (w 15 0) 8 ∧ (∀ w4 : Dt, w4 = up2 w 16 (w 15 0).toNatClampNeg x1 → (∀ w5 : Dt, w5 = up2 w4 17 (w 15 0).toNatClampNeg x2 → (∀ w6 : Dt, w6 = up2 w5 18 (w 15 0).toNatClampNeg x2 → (∀ w7 : Dt, w7 = up2 w6 15 0 ((w6 15 0) + 1) → (post (w 15 0) w7)))))) ∧ (¬ (w 15 0) < 8 → wp_X5_begin_15 post   w))
set_option maxHeartbeats 4000000 in
set_option maxRecDepth 100000 in
theorem c_X5_begin (l : Launch) (D : va_G) (tc : Nat → ClassId) (h0 : Nat) (sa : Nat → Nat) (x1 : Int32) (x2 : Int32) (H0 : Heap) {ad : Nat → Nat} {A : Nat → Prop} {w : Dt} (hBw : Blk D tc A (shW ad) ad w H0) (hA0 : ∀ q, A q → h0 ≤ q) {post : Int32 → Dt → Prop} (hw : wp_X5_begin post w x1 x2) : MB l yX5_begin cX5_begin 4 (Option.some FieldType.int) rm_X5_begin A [.ref (ad 15), .int x1, .int x2] D tc h0 sa H0 (fun u : Int32 × Dt => post u.1 u.2) (fun (u : Int32 × Dt) (H1 : Heap) => Blk D tc A (shW ad) ad u.2 H1) (fun u : Int32 × Dt => some (.int u.1)) := by
  refine MB.of RX5 [(0, .ref (ad 15)), (1, .int x1), (2, .int x2)] (by decide +kernel) rfl (Nat.le_of_ble_eq_true rfl) rfl ?_
  intro p e s m below meth c ls X hr hin hT hH hS hl
  subst hH
  have hx := X.1
  have hb := X.2.1
  have hown := X.2.2.2.1
  have hU := X.2.2.2.2.1.1
  unfold wp_X5_begin at hw
  refine lv_aload_n hx hb dX5_begin_0 rfl (lv_at hl 0 rfl) ?_
  refine g_get X dX5_begin_1 f_X5_21 hBw 15 (v := .int (w 15 0)) rfl rfl ?_
  refine lv_istore_n (lv' := [(3, .int (w 15 0)), (0, .ref (ad 15)), (1, .int x1), (2, .int x2)]) hx hb dX5_begin_4 rfl hl (by decide) rfl (fun ls hl => ?_)
  refine lv_iload_n hx hb dX5_begin_5 rfl (lv_at hl 0 rfl) ?_
  refine lv_if_lt (tgt := 15) hx hb dX5_begin_6 (by decide) (fun c1 => ?_) (fun c1 => ?_)
  · have hw := hw.1 c1
    exact t_X5_begin_15 X hr hT hA0   _ _ _ hw hBw hS (lv_sub hl [] rfl)
  · have hw := hw.2 c1
    refine lv_iload_n hx hb dX5_begin_9 rfl (lv_at hl 0 rfl) ?_
    refine lv_bipush (v := 8) hx hb dX5_begin_10 (by decide) ?_
    refine lv_icmp_lt (tgt := 17) hx hb dX5_begin_12 (by decide) (fun c2 => ?_) (fun c2 => ?_)
    · have hw := hw.1 c2
      refine lv_aload_n hx hb dX5_begin_17 rfl (lv_at hl 1 rfl) ?_
      refine g_get X dX5_begin_18 f_X5_9 hBw 15 (v := .ref (ad 16)) rfl rfl ?_
      refine lv_iload_n hx hb dX5_begin_21 rfl (lv_at hl 0 rfl) ?_
      refine lv_iload_n hx hb dX5_begin_22 rfl (lv_at hl 2 rfl) ?_
      obtain ⟨o3, hw⟩ := hw
      refine g_iast X dX5_begin_23 hBw hS 16 rfl o3 rfl  (fun H locs hBw oq hS => ?_)
      obtain ⟨w4, ew4⟩ : ∃ z : Dt, z = up2 w 16 (w 15 0).toNatClampNeg x1 := ⟨_, rfl⟩
      rw [← ew4] at hBw
      have hw := hw w4 ew4
      refine lv_aload_n hx hb dX5_begin_24 rfl (lv_at hl 1 rfl) ?_
      refine g_get X dX5_begin_25 f_X5_15 hBw 15 (v := .ref (ad 17)) rfl rfl ?_
      refine lv_iload_n hx hb dX5_begin_28 rfl (lv_at hl 0 rfl) ?_
      refine lv_iload_n hx hb dX5_begin_29 rfl (lv_at hl 3 rfl) ?_
      refine g_iast X dX5_begin_30 hBw hS 17 rfl o3 rfl  (fun H locs hBw oq hS => ?_)
      obtain ⟨w5, ew5⟩ : ∃ z : Dt, z = up2 w4 17 (w 15 0).toNatClampNeg x2 := ⟨_, rfl⟩
      rw [← ew5] at hBw
      have hw := hw w5 ew5
      refine lv_aload_n hx hb dX5_begin_31 rfl (lv_at hl 1 rfl) ?_
      refine g_get X dX5_begin_32 f_X5_18 hBw 15 (v := .ref (ad 18)) rfl rfl ?_
      refine lv_iload_n hx hb dX5_begin_35 rfl (lv_at hl 0 rfl) ?_
      refine lv_iload_n hx hb dX5_begin_36 rfl (lv_at hl 3 rfl) ?_
      refine g_iast X dX5_begin_37 hBw hS 18 rfl o3 rfl  (fun H locs hBw oq hS => ?_)
      obtain ⟨w6, ew6⟩ : ∃ z : Dt, z = up2 w5 18 (w 15 0).toNatClampNeg x2 := ⟨_, rfl⟩
      rw [← ew6] at hBw
      have hw := hw w6 ew6
      refine lv_aload_n hx hb dX5_begin_38 rfl (lv_at hl 1 rfl) ?_
      refine lv_dup hx hb dX5_begin_39 rfl ?_
      refine g_get X dX5_begin_40 f_X5_21 hBw 15 (v := .int (w6 15 0)) rfl rfl ?_
      refine lv_iconst (v := 1) hx hb dX5_begin_43 (by decide) ?_
      refine lv_iadd hx hb dX5_begin_44 ?_
      refine g_puti X dX5_begin_45 f_X5_21 hBw hS 15 rfl (x := ((w6 15 0) + 1)) rfl rfl rfl (fun H locs hBw oq hS => ?_)
      obtain ⟨w7, ew7⟩ : ∃ z : Dt, z = up2 w6 15 0 ((w6 15 0) + 1) := ⟨_, rfl⟩
      rw [← ew7] at hBw
      have hw := hw w7 ew7
      refine lv_iload_n hx hb dX5_begin_48 rfl (lv_at hl 0 rfl) ?_
      exact e_i X hr dX5_begin_49 hS ((w 15 0), w7) rfl hw hBw ⟨Nat.le_of_ble_eq_true rfl, Nat.le_of_ble_eq_true rfl⟩
    · have hw := hw.2 c2
      exact t_X5_begin_15 X hr hT hA0   _ _ _ hw hBw hS (lv_sub hl [] rfl)
abbrev rm_X5_growth : Room := { frames := 2, cells := 0, slots := 0, locals := 45 }
def wp_X5_growth (post : Int32 → Prop) (w : Dt) (x1 : Int32) : Prop := wp_X0_shearOf (fun r1 => post (1 + (r1 / 20))) w x1
set_option maxHeartbeats 4000000 in
set_option maxRecDepth 100000 in
theorem c_X5_growth (l : Launch) (D : va_G) (tc : Nat → ClassId) (h0 : Nat) (sa : Nat → Nat) (x1 : Int32) (H0 : Heap) {ad : Nat → Nat} {A : Nat → Prop} {w : Dt} (hBw : Blk D tc A (shW ad) ad w H0)  {post : Int32 → Prop} (hw : wp_X5_growth post w x1) : MB l yX5_growth cX5_growth 2 (Option.some FieldType.int) rm_X5_growth (fun _ => False) [.int x1, .ref (ad 5)] D tc h0 sa H0 post (fun (_ : Int32) (H1 : Heap) => H1 = H0) (fun u : Int32 => some (.int u)) := by
  have hA0 : ∀ q : Nat, (fun _ : Nat => False) q → h0 ≤ q := fun _ h => h.elim
  refine MB.of RX5 [(0, .int x1), (1, .ref (ad 5))] (by decide +kernel) rfl (Nat.le_of_ble_eq_true rfl) rfl ?_
  intro p e s m below meth c ls X hr hin hT hH hS hl
  subst hH
  have hx := X.1
  have hb := X.2.1
  have hown := X.2.2.2.1
  have hU := X.2.2.2.2.1.1
  unfold wp_X5_growth at hw
  refine lv_iconst (v := 1) hx hb dX5_growth_0 (by decide) ?_
  refine lv_aload_n hx hb dX5_growth_1 rfl (lv_at hl 1 rfl) ?_
  refine lv_iload_n hx hb dX5_growth_2 rfl (lv_at hl 0 rfl) ?_
  refine g_after (st0 := .int x1 :: .ref (ad 5) :: [.int 1]) (rest := [.int 1]) (g_V X m_X5_29 (c_X0_shearOf l D tc h0 sa x1 _ hBw hw) (hBw.recv X 5 rfl (q := (RX0, TX0, 4)) rfl) hT hS hA0 dX5_growth_3 hl.1 rfl rfl ⟨Nat.le_of_ble_eq_true rfl, Nat.le_of_ble_eq_true rfl⟩ (Nat.le_of_ble_eq_true rfl) ⟨Nat.le_of_ble_eq_true rfl, Nat.le_of_ble_eq_true rfl⟩) hS (fun _ h => h.elim) (fun u => .int u :: [.int 1]) (fun _ => rfl) (fun u H9 locs hw hP9 hz9 hk9 hS => ?_)
  have e9 : H9 = _ := hP9
  rw [e9] at hS ⊢
  obtain ⟨r1, rfl⟩ : ∃ z, z = u := ⟨_, rfl⟩
  try dsimp only at hw
  refine lv_bipush (v := 20) hx hb dX5_growth_6 (by decide) ?_
  refine lv_idiv hx hb dX5_growth_8 (by decide) ?_
  refine lv_iadd hx hb dX5_growth_9 ?_
  exact e_i X hr dX5_growth_10 hS ((1 + (r1 / 20))) rfl hw rfl ⟨Nat.le_of_ble_eq_true rfl, Nat.le_of_ble_eq_true rfl⟩
abbrev rm_X5_widen : Room := { frames := 3, cells := 0, slots := 0, locals := 66 }
def wp_X5_widen_41 (post : Dt → Prop)   (w : Dt) : Prop := post w
set_option maxHeartbeats 4000000 in
set_option maxRecDepth 100000 in
theorem t_X5_widen_41 {p : Program} {l : Launch} {e : Env} {s : State} {m : MethodId} {args : Array Value} {below : List Frame} {meth : Method} {c : Code} {D : va_G} {tc : Nat → ClassId} {h0 : Nat} {sa : Nat → Nat}  {ad : Nat → Nat} {A : Nat → Prop} {post : Dt → Prop}  (X : Cx p c s m meth cX5_widen 3 RX5 D tc) (hr : meth.sig.returnType = (Option.none : Option FieldType)) (hT : ST h0 sa s s.heap) (hA0 : ∀ q, A q → h0 ≤ q)    : ∀ (w : Dt) (H : Heap) (locs : List Loc) (ls : Array Slot), wp_X5_widen_41 post   w → (Blk D tc A (shW ad) ad w H) → va_S A s.heap H locs → lv_has ls 3 [] → W p l e rm_X5_widen s m args below meth c H locs 0 0 (MQ below (QB post (fun (u : Dt) (H1 : Heap) => Blk D tc A (shW ad) ad u H1) (fun _ : Dt => none) A) args s rm_X5_widen.cells rm_X5_widen.slots A) (F0 m 41 ls []) := by
  have hx := X.1
  have hb := X.2.1
  have hown := X.2.2.2.1
  have hU := X.2.2.2.2.1.1
  intro w H locs ls hw hBw hS hl
  unfold wp_X5_widen_41 at hw
  exact e_v X hr dX5_widen_41 hS (w) rfl hw hBw ⟨Nat.le_of_ble_eq_true rfl, Nat.le_of_ble_eq_true rfl⟩
def wp_X5_widen_2 (post : Dt → Prop)   : Nat → Int32 → Dt → Prop
  | 0, _, _ => False
  | n9 + 1, y2, w => ((w 15 0) ≤ y2 → wp_X5_widen_41 post   w) ∧ (¬ (w 15 0) ≤ y2 → (8 ≤ y2 → wp_X5_widen_41 post   w) ∧ (¬ 8 ≤ y2 → vp_in y2 8 ∧ (wp_X5_growth (fun r4 => ∀ w5 : Dt, w5 = up2 w 17 y2.toNatClampNeg ((w 17 y2.toNatClampNeg) + r4) → (wp_X5_widen_2 post   n9 (y2 + 1) w5)) w (w 16 y2.toNatClampNeg))))
set_option maxHeartbeats 4000000 in
set_option maxRecDepth 100000 in
theorem t_X5_widen_2 {p : Program} {l : Launch} {e : Env} {s : State} {m : MethodId} {args : Array Value} {below : List Frame} {meth : Method} {c : Code} {D : va_G} {tc : Nat → ClassId} {h0 : Nat} {sa : Nat → Nat}  {ad : Nat → Nat} {A : Nat → Prop} {post : Dt → Prop}  (X : Cx p c s m meth cX5_widen 3 RX5 D tc) (hr : meth.sig.returnType = (Option.none : Option FieldType)) (hT : ST h0 sa s s.heap) (hA0 : ∀ q, A q → h0 ≤ q)    : ∀ (n9 : Nat) (y2 : Int32) (w : Dt) (H : Heap) (locs : List Loc) (ls : Array Slot), wp_X5_widen_2 post   n9 y2 w → (Blk D tc A (shW ad) ad w H) → va_S A s.heap H locs → lv_has ls 3 [(0, .ref (ad 15)), (1, .ref (ad 5)), (2, .int y2)] → W p l e rm_X5_widen s m args below meth c H locs 0 0 (MQ below (QB post (fun (u : Dt) (H1 : Heap) => Blk D tc A (shW ad) ad u H1) (fun _ : Dt => none) A) args s rm_X5_widen.cells rm_X5_widen.slots A) (F0 m 2 ls []) := by
  have hx := X.1
  have hb := X.2.1
  have hown := X.2.2.2.1
  have hU := X.2.2.2.2.1.1
  intro n9
  induction n9 with
  | zero =>
    intro y2 w H locs ls hw
    exact hw.elim
  | succ n9 ih =>
    intro y2 w H locs ls hw hBw hS hl
    unfold wp_X5_widen_2 at hw
    refine lv_iload_n hx hb dX5_widen_2 rfl (lv_at hl 2 rfl) ?_
    refine lv_aload_n hx hb dX5_widen_3 rfl (lv_at hl 0 rfl) ?_
    refine g_get X dX5_widen_4 f_X5_21 hBw 15 (v := .int (w 15 0)) rfl rfl ?_
    refine lv_icmp_ge (tgt := 41) hx hb dX5_widen_7 (by decide) (fun c1 => ?_) (fun c1 => ?_)
    · have hw := hw.1 c1
      exact t_X5_widen_41 X hr hT hA0   _ _ _ _ hw hBw hS (lv_sub hl [] rfl)
    · have hw := hw.2 c1
      refine lv_iload_n hx hb dX5_widen_10 rfl (lv_at hl 2 rfl) ?_
      refine lv_bipush (v := 8) hx hb dX5_widen_11 (by decide) ?_
      refine lv_icmp_ge (tgt := 41) hx hb dX5_widen_13 (by decide) (fun c2 => ?_) (fun c2 => ?_)
      · have hw := hw.1 c2
        exact t_X5_widen_41 X hr hT hA0   _ _ _ _ hw hBw hS (lv_sub hl [] rfl)
      · have hw := hw.2 c2
        refine lv_aload_n hx hb dX5_widen_16 rfl (lv_at hl 0 rfl) ?_
        refine g_get X dX5_widen_17 f_X5_15 hBw 15 (v := .ref (ad 17)) rfl rfl ?_
        refine lv_iload_n hx hb dX5_widen_20 rfl (lv_at hl 2 rfl) ?_
        refine lv_dup2_11 hx hb dX5_widen_21 rfl rfl ?_
        obtain ⟨o3, hw⟩ := hw
        refine g_iald X dX5_widen_22 hBw 17 rfl o3 rfl ?_
        refine lv_aload_n hx hb dX5_widen_23 rfl (lv_at hl 0 rfl) ?_
        refine g_get X dX5_widen_24 f_X5_9 hBw 15 (v := .ref (ad 16)) rfl rfl ?_
        refine lv_iload_n hx hb dX5_widen_27 rfl (lv_at hl 2 rfl) ?_
        refine g_iald X dX5_widen_28 hBw 16 rfl o3 rfl ?_
        refine lv_aload_n hx hb dX5_widen_29 rfl (lv_at hl 1 rfl) ?_
        refine g_after (st0 := .ref (ad 5) :: .int (w 16 y2.toNatClampNeg) :: [.int (w 17 y2.toNatClampNeg), .int y2, .ref (ad 17)]) (rest := [.int (w 17 y2.toNatClampNeg), .int y2, .ref (ad 17)]) (g_S X m_X5_25 (c_X5_growth l D tc h0 sa (w 16 y2.toNatClampNeg) _ hBw hw) hT hS hA0 dX5_widen_30 hl.1 rfl rfl ⟨Nat.le_of_ble_eq_true rfl, Nat.le_of_ble_eq_true rfl⟩ (Nat.le_of_ble_eq_true rfl) ⟨Nat.le_of_ble_eq_true rfl, Nat.le_of_ble_eq_true rfl⟩) hS (fun _ h => h.elim) (fun u => .int u :: [.int (w 17 y2.toNatClampNeg), .int y2, .ref (ad 17)]) (fun _ => rfl) (fun u H9 locs hw hP9 hz9 hk9 hS => ?_)
        have e9 : H9 = _ := hP9
        rw [e9] at hS ⊢
        obtain ⟨r4, rfl⟩ : ∃ z, z = u := ⟨_, rfl⟩
        try dsimp only at hw
        refine lv_iadd hx hb dX5_widen_33 ?_
        refine g_iast X dX5_widen_34 hBw hS 17 rfl o3 rfl  (fun H locs hBw oq hS => ?_)
        obtain ⟨w5, ew5⟩ : ∃ z : Dt, z = up2 w 17 y2.toNatClampNeg ((w 17 y2.toNatClampNeg) + r4) := ⟨_, rfl⟩
        rw [← ew5] at hBw
        have hw := hw w5 ew5
        refine lv_iinc (lv' := [(2, .int (y2 + 1)), (0, .ref (ad 15)), (1, .ref (ad 5))]) hx hb dX5_widen_35 hl (k := 2) rfl (by rfl) (by decide) rfl (fun ls hl => ?_)
        refine lv_goto (tgt := 2) hx hb dX5_widen_38 (by decide) ?_
        exact ih _ _ _ _ _ hw hBw hS (lv_sub hl [1, 2, 0] rfl)
def wp_X5_widen (post : Dt → Prop) (w : Dt) : Prop := ∃ k9 : Nat, wp_X5_widen_2 post   k9 0 w
set_option maxHeartbeats 4000000 in
set_option maxRecDepth 100000 in
theorem c_X5_widen (l : Launch) (D : va_G) (tc : Nat → ClassId) (h0 : Nat) (sa : Nat → Nat)  (H0 : Heap) {ad : Nat → Nat} {A : Nat → Prop} {w : Dt} (hBw : Blk D tc A (shW ad) ad w H0) (hA0 : ∀ q, A q → h0 ≤ q) {post : Dt → Prop} (hw : wp_X5_widen post w) : MB l yX5_widen cX5_widen 3 (Option.none : Option FieldType) rm_X5_widen A [.ref (ad 15), .ref (ad 5)] D tc h0 sa H0 post (fun (u : Dt) (H1 : Heap) => Blk D tc A (shW ad) ad u H1) (fun _ : Dt => none) := by
  refine MB.of RX5 [(0, .ref (ad 15)), (1, .ref (ad 5))] (by decide +kernel) rfl (Nat.le_of_ble_eq_true rfl) rfl ?_
  intro p e s m below meth c ls X hr hin hT hH hS hl
  subst hH
  have hx := X.1
  have hb := X.2.1
  have hown := X.2.2.2.1
  have hU := X.2.2.2.2.1.1
  unfold wp_X5_widen at hw
  refine lv_iconst (v := 0) hx hb dX5_widen_0 (by decide) ?_
  refine lv_istore_n (lv' := [(2, .int 0), (0, .ref (ad 15)), (1, .ref (ad 5))]) hx hb dX5_widen_1 rfl hl (by decide) rfl (fun ls hl => ?_)
  obtain ⟨k9, hw⟩ := hw
  exact t_X5_widen_2 X hr hT hA0   k9 _ _ _ _ _ hw hBw hS (lv_sub hl [1, 2, 0] rfl)
abbrev rm_X5_turnsByWidth : Room := { frames := 3, cells := 0, slots := 0, locals := 66 }
def wp_X5_turnsByWidth_35 (post : Int32 → Prop)   (z0 : Int32) (w : Dt) : Prop := post z0
set_option maxHeartbeats 4000000 in
set_option maxRecDepth 100000 in
theorem t_X5_turnsByWidth_35 {p : Program} {l : Launch} {e : Env} {s : State} {m : MethodId} {args : Array Value} {below : List Frame} {meth : Method} {c : Code} {D : va_G} {tc : Nat → ClassId} {h0 : Nat} {sa : Nat → Nat}  {ad : Nat → Nat} {A : Nat → Prop} {post : Int32 → Prop}  (X : Cx p c s m meth cX5_turnsByWidth 4 RX5 D tc) (hr : meth.sig.returnType = (Option.some FieldType.int)) (hT : ST h0 sa s s.heap) (hA0 : ∀ q, (fun _ => False) q → h0 ≤ q)    : ∀ (z0 : Int32) (w : Dt) (locs : List Loc) (ls : Array Slot), wp_X5_turnsByWidth_35 post   z0 w → (Blk D tc A (shW ad) ad w s.heap) → va_S (fun _ => False) s.heap s.heap locs → lv_has ls 4 [] → W p l e rm_X5_turnsByWidth s m args below meth c s.heap locs 0 0 (MQ below (QB post (fun (_ : Int32) (H1 : Heap) => H1 = s.heap) (fun u : Int32 => some (.int u)) (fun _ => False)) args s rm_X5_turnsByWidth.cells rm_X5_turnsByWidth.slots (fun _ => False)) (F0 m 35 ls [.int z0]) := by
  have hx := X.1
  have hb := X.2.1
  have hown := X.2.2.2.1
  have hU := X.2.2.2.2.1.1
  intro z0 w  locs ls hw hBw hS hl
  unfold wp_X5_turnsByWidth_35 at hw
  exact e_i X hr dX5_turnsByWidth_35 hS (z0) rfl hw rfl ⟨Nat.le_of_ble_eq_true rfl, Nat.le_of_ble_eq_true rfl⟩
def wp_X5_turnsByWidth (post : Int32 → Prop) (w : Dt) (x1 : Int32) : Prop := vp_in x1 8 ∧ (wp_X5_growth (fun r2 => (1 ≤ r2 → ¬ r2 = 0 ∧ (wp_X5_turnsByWidth_35 post   (((w 17 x1.toNatClampNeg) - (w 18 x1.toNatClampNeg)) / r2) w)) ∧ (¬ 1 ≤ r2 → wp_X5_turnsByWidth_35 post   0 w)) w (w 16 x1.toNatClampNeg))
set_option maxHeartbeats 4000000 in
set_option maxRecDepth 100000 in
theorem c_X5_turnsByWidth (l : Launch) (D : va_G) (tc : Nat → ClassId) (h0 : Nat) (sa : Nat → Nat) (x1 : Int32) (H0 : Heap) {ad : Nat → Nat} {A : Nat → Prop} {w : Dt} (hBw : Blk D tc A (shW ad) ad w H0)  {post : Int32 → Prop} (hw : wp_X5_turnsByWidth post w x1) : MB l yX5_turnsByWidth cX5_turnsByWidth 4 (Option.some FieldType.int) rm_X5_turnsByWidth (fun _ => False) [.ref (ad 15), .int x1, .ref (ad 5)] D tc h0 sa H0 post (fun (_ : Int32) (H1 : Heap) => H1 = H0) (fun u : Int32 => some (.int u)) := by
  have hA0 : ∀ q : Nat, (fun _ : Nat => False) q → h0 ≤ q := fun _ h => h.elim
  refine MB.of RX5 [(0, .ref (ad 15)), (1, .int x1), (2, .ref (ad 5))] (by decide +kernel) rfl (Nat.le_of_ble_eq_true rfl) rfl ?_
  intro p e s m below meth c ls X hr hin hT hH hS hl
  subst hH
  have hx := X.1
  have hb := X.2.1
  have hown := X.2.2.2.1
  have hU := X.2.2.2.2.1.1
  unfold wp_X5_turnsByWidth at hw
  refine lv_aload_n hx hb dX5_turnsByWidth_0 rfl (lv_at hl 0 rfl) ?_
  refine g_get X dX5_turnsByWidth_1 f_X5_9 hBw 15 (v := .ref (ad 16)) rfl rfl ?_
  refine lv_iload_n hx hb dX5_turnsByWidth_4 rfl (lv_at hl 1 rfl) ?_
  obtain ⟨o1, hw⟩ := hw
  refine g_iald X dX5_turnsByWidth_5 hBw 16 rfl o1 rfl ?_
  refine lv_aload_n hx hb dX5_turnsByWidth_6 rfl (lv_at hl 2 rfl) ?_
  refine g_after (st0 := .ref (ad 5) :: .int (w 16 x1.toNatClampNeg) :: []) (rest := []) (g_S X m_X5_25 (c_X5_growth l D tc h0 sa (w 16 x1.toNatClampNeg) _ hBw hw) hT hS hA0 dX5_turnsByWidth_7 hl.1 rfl rfl ⟨Nat.le_of_ble_eq_true rfl, Nat.le_of_ble_eq_true rfl⟩ (Nat.le_of_ble_eq_true rfl) ⟨Nat.le_of_ble_eq_true rfl, Nat.le_of_ble_eq_true rfl⟩) hS (fun _ h => h.elim) (fun u => .int u :: []) (fun _ => rfl) (fun u H9 locs hw hP9 hz9 hk9 hS => ?_)
  have e9 : H9 = _ := hP9
  rw [e9] at hS ⊢
  obtain ⟨r2, rfl⟩ : ∃ z, z = u := ⟨_, rfl⟩
  try dsimp only at hw
  refine lv_istore_n (lv' := [(3, .int r2), (0, .ref (ad 15)), (1, .int x1), (2, .ref (ad 5))]) hx hb dX5_turnsByWidth_10 rfl hl (by decide) rfl (fun ls hl => ?_)
  refine lv_iload_n hx hb dX5_turnsByWidth_11 rfl (lv_at hl 0 rfl) ?_
  refine lv_iconst (v := 1) hx hb dX5_turnsByWidth_12 (by decide) ?_
  refine lv_icmp_ge (tgt := 20) hx hb dX5_turnsByWidth_13 (by decide) (fun c3 => ?_) (fun c3 => ?_)
  · have hw := hw.1 c3
    refine lv_aload_n hx hb dX5_turnsByWidth_20 rfl (lv_at hl 1 rfl) ?_
    refine g_get X dX5_turnsByWidth_21 f_X5_15 hBw 15 (v := .ref (ad 17)) rfl rfl ?_
    refine lv_iload_n hx hb dX5_turnsByWidth_24 rfl (lv_at hl 2 rfl) ?_
    refine g_iald X dX5_turnsByWidth_25 hBw 17 rfl o1 rfl ?_
    refine lv_aload_n hx hb dX5_turnsByWidth_26 rfl (lv_at hl 1 rfl) ?_
    refine g_get X dX5_turnsByWidth_27 f_X5_18 hBw 15 (v := .ref (ad 18)) rfl rfl ?_
    refine lv_iload_n hx hb dX5_turnsByWidth_30 rfl (lv_at hl 2 rfl) ?_
    refine g_iald X dX5_turnsByWidth_31 hBw 18 rfl o1 rfl ?_
    refine lv_isub hx hb dX5_turnsByWidth_32 ?_
    refine lv_iload_n hx hb dX5_turnsByWidth_33 rfl (lv_at hl 0 rfl) ?_
    obtain ⟨o4, hw⟩ := hw
    refine lv_idiv hx hb dX5_turnsByWidth_34 o4 ?_
    exact t_X5_turnsByWidth_35 X hr hT hA0   _ _ _ _ hw hBw hS (lv_sub hl [] rfl)
  · have hw := hw.2 c3
    refine lv_iconst (v := 0) hx hb dX5_turnsByWidth_16 (by decide) ?_
    refine lv_goto (tgt := 35) hx hb dX5_turnsByWidth_17 (by decide) ?_
    exact t_X5_turnsByWidth_35 X hr hT hA0   _ _ _ _ hw hBw hS (lv_sub hl [] rfl)
abbrev rm_X5_copyFrom : Room := { frames := 0, cells := 0, slots := 0, locals := 0 }
def wp_X5_copyFrom_10 (post : Dt → Prop)   : Nat → Int32 → Dt → Dt → Prop
  | 0, _, _, _ => False
  | n9 + 1, y2, w, v => (8 ≤ y2 → post w) ∧ (¬ 8 ≤ y2 → vp_in y2 8 ∧ (∀ w4 : Dt, w4 = up2 w 16 y2.toNatClampNeg (v 16 y2.toNatClampNeg) → (∀ w5 : Dt, w5 = up2 w4 17 y2.toNatClampNeg (v 17 y2.toNatClampNeg) → (∀ w6 : Dt, w6 = up2 w5 18 y2.toNatClampNeg (v 18 y2.toNatClampNeg) → (wp_X5_copyFrom_10 post   n9 (y2 + 1) w6 v)))))
set_option maxHeartbeats 4000000 in
set_option maxRecDepth 100000 in
theorem t_X5_copyFrom_10 {p : Program} {l : Launch} {e : Env} {s : State} {m : MethodId} {args : Array Value} {below : List Frame} {meth : Method} {c : Code} {D : va_G} {tc : Nat → ClassId} {h0 : Nat} {sa : Nat → Nat}  {ad : Nat → Nat} {A : Nat → Prop} {bd : Nat → Nat} {A2 : Nat → Prop} {post : Dt → Prop}  (X : Cx p c s m meth cX5_copyFrom 3 RX5 D tc) (hr : meth.sig.returnType = (Option.none : Option FieldType)) (hT : ST h0 sa s s.heap) (hA0 : ∀ q, A q → h0 ≤ q) (hDv : ∀ q, A q → ¬ A2 q)   : ∀ (n9 : Nat) (y2 : Int32) (w : Dt) (v : Dt) (H : Heap) (locs : List Loc) (ls : Array Slot), wp_X5_copyFrom_10 post   n9 y2 w v → (Blk D tc A (shW ad) ad w H) → (Blk D tc A2 (shW bd) bd v H) → va_S A s.heap H locs → lv_has ls 3 [(0, .ref (ad 15)), (1, .ref (bd 15)), (2, .int y2)] → W p l e rm_X5_copyFrom s m args below meth c H locs 0 0 (MQ below (QB post (fun (u : Dt) (H1 : Heap) => Blk D tc A (shW ad) ad u H1) (fun _ : Dt => none) A) args s rm_X5_copyFrom.cells rm_X5_copyFrom.slots A) (F0 m 10 ls []) := by
  have hx := X.1
  have hb := X.2.1
  have hown := X.2.2.2.1
  have hU := X.2.2.2.2.1.1
  intro n9
  induction n9 with
  | zero =>
    intro y2 w v H locs ls hw
    exact hw.elim
  | succ n9 ih =>
    intro y2 w v H locs ls hw hBw hBv hS hl
    unfold wp_X5_copyFrom_10 at hw
    refine lv_iload_n hx hb dX5_copyFrom_10 rfl (lv_at hl 2 rfl) ?_
    refine lv_bipush (v := 8) hx hb dX5_copyFrom_11 (by decide) ?_
    refine lv_icmp_ge (tgt := 58) hx hb dX5_copyFrom_13 (by decide) (fun c2 => ?_) (fun c2 => ?_)
    · have hw := hw.1 c2
      exact e_v X hr dX5_copyFrom_58 hS (w) rfl hw hBw ⟨Nat.le_of_ble_eq_true rfl, Nat.le_of_ble_eq_true rfl⟩
    · have hw := hw.2 c2
      refine lv_aload_n hx hb dX5_copyFrom_16 rfl (lv_at hl 0 rfl) ?_
      refine g_get X dX5_copyFrom_17 f_X5_9 hBw 15 (v := .ref (ad 16)) rfl rfl ?_
      refine lv_iload_n hx hb dX5_copyFrom_20 rfl (lv_at hl 2 rfl) ?_
      refine lv_aload_n hx hb dX5_copyFrom_21 rfl (lv_at hl 1 rfl) ?_
      refine g_get X dX5_copyFrom_22 f_X5_9 hBv 15 (v := .ref (bd 16)) rfl rfl ?_
      refine lv_iload_n hx hb dX5_copyFrom_25 rfl (lv_at hl 2 rfl) ?_
      obtain ⟨o3, hw⟩ := hw
      refine g_iald X dX5_copyFrom_26 hBv 16 rfl o3 rfl ?_
      refine g_iast X dX5_copyFrom_27 hBw hS 16 rfl o3 rfl  (fun H locs hBw oq hS => ?_)
      have hBv := hBv.kept1 oq (hDv _ (hBw.in (i := 16) rfl))
      obtain ⟨w4, ew4⟩ : ∃ z : Dt, z = up2 w 16 y2.toNatClampNeg (v 16 y2.toNatClampNeg) := ⟨_, rfl⟩
      rw [← ew4] at hBw
      have hw := hw w4 ew4
      refine lv_aload_n hx hb dX5_copyFrom_28 rfl (lv_at hl 0 rfl) ?_
      refine g_get X dX5_copyFrom_29 f_X5_15 hBw 15 (v := .ref (ad 17)) rfl rfl ?_
      refine lv_iload_n hx hb dX5_copyFrom_32 rfl (lv_at hl 2 rfl) ?_
      refine lv_aload_n hx hb dX5_copyFrom_33 rfl (lv_at hl 1 rfl) ?_
      refine g_get X dX5_copyFrom_34 f_X5_15 hBv 15 (v := .ref (bd 17)) rfl rfl ?_
      refine lv_iload_n hx hb dX5_copyFrom_37 rfl (lv_at hl 2 rfl) ?_
      refine g_iald X dX5_copyFrom_38 hBv 17 rfl o3 rfl ?_
      refine g_iast X dX5_copyFrom_39 hBw hS 17 rfl o3 rfl  (fun H locs hBw oq hS => ?_)
      have hBv := hBv.kept1 oq (hDv _ (hBw.in (i := 17) rfl))
      obtain ⟨w5, ew5⟩ : ∃ z : Dt, z = up2 w4 17 y2.toNatClampNeg (v 17 y2.toNatClampNeg) := ⟨_, rfl⟩
      rw [← ew5] at hBw
      have hw := hw w5 ew5
      refine lv_aload_n hx hb dX5_copyFrom_40 rfl (lv_at hl 0 rfl) ?_
      refine g_get X dX5_copyFrom_41 f_X5_18 hBw 15 (v := .ref (ad 18)) rfl rfl ?_
      refine lv_iload_n hx hb dX5_copyFrom_44 rfl (lv_at hl 2 rfl) ?_
      refine lv_aload_n hx hb dX5_copyFrom_45 rfl (lv_at hl 1 rfl) ?_
      refine g_get X dX5_copyFrom_46 f_X5_18 hBv 15 (v := .ref (bd 18)) rfl rfl ?_
      refine lv_iload_n hx hb dX5_copyFrom_49 rfl (lv_at hl 2 rfl) ?_
      refine g_iald X dX5_copyFrom_50 hBv 18 rfl o3 rfl ?_
      refine g_iast X dX5_copyFrom_51 hBw hS 18 rfl o3 rfl  (fun H locs hBw oq hS => ?_)
      have hBv := hBv.kept1 oq (hDv _ (hBw.in (i := 18) rfl))
      obtain ⟨w6, ew6⟩ : ∃ z : Dt, z = up2 w5 18 y2.toNatClampNeg (v 18 y2.toNatClampNeg) := ⟨_, rfl⟩
      rw [← ew6] at hBw
      have hw := hw w6 ew6
      refine lv_iinc (lv' := [(2, .int (y2 + 1)), (0, .ref (ad 15)), (1, .ref (bd 15))]) hx hb dX5_copyFrom_52 hl (k := 2) rfl (by rfl) (by decide) rfl (fun ls hl => ?_)
      refine lv_goto (tgt := 10) hx hb dX5_copyFrom_55 (by decide) ?_
      exact ih _ _ _ _ _ _ hw hBw hBv hS (lv_sub hl [1, 2, 0] rfl)
def wp_X5_copyFrom (post : Dt → Prop) (w : Dt) (v : Dt) : Prop := ∀ w1 : Dt, w1 = up2 w 15 0 (v 15 0) → (∃ k9 : Nat, wp_X5_copyFrom_10 post   k9 0 w1 v)
set_option maxHeartbeats 4000000 in
set_option maxRecDepth 100000 in
theorem c_X5_copyFrom (l : Launch) (D : va_G) (tc : Nat → ClassId) (h0 : Nat) (sa : Nat → Nat)  (H0 : Heap) {ad : Nat → Nat} {A : Nat → Prop} {bd : Nat → Nat} {A2 : Nat → Prop} {w : Dt} {v : Dt} (hBw : Blk D tc A (shW ad) ad w H0) (hBv : Blk D tc A2 (shW bd) bd v H0) (hDv : ∀ q, A q → ¬ A2 q) (hA0 : ∀ q, A q → h0 ≤ q) {post : Dt → Prop} (hw : wp_X5_copyFrom post w v) : MB l yX5_copyFrom cX5_copyFrom 3 (Option.none : Option FieldType) rm_X5_copyFrom A [.ref (ad 15), .ref (bd 15)] D tc h0 sa H0 post (fun (u : Dt) (H1 : Heap) => Blk D tc A (shW ad) ad u H1) (fun _ : Dt => none) := by
  refine MB.of RX5 [(0, .ref (ad 15)), (1, .ref (bd 15))] (by decide +kernel) rfl (Nat.le_of_ble_eq_true rfl) rfl ?_
  intro p e s m below meth c ls X hr hin hT hH hS hl
  subst hH
  have hx := X.1
  have hb := X.2.1
  have hown := X.2.2.2.1
  have hU := X.2.2.2.2.1.1
  unfold wp_X5_copyFrom at hw
  refine lv_aload_n hx hb dX5_copyFrom_0 rfl (lv_at hl 0 rfl) ?_
  refine lv_aload_n hx hb dX5_copyFrom_1 rfl (lv_at hl 1 rfl) ?_
  refine g_get X dX5_copyFrom_2 f_X5_21 hBv 15 (v := .int (v 15 0)) rfl rfl ?_
  refine g_puti X dX5_copyFrom_5 f_X5_21 hBw hS 15 rfl (x := (v 15 0)) rfl rfl rfl (fun H locs hBw oq hS => ?_)
  have hBv := hBv.kept1 oq (hDv _ (hBw.in (i := 15) rfl))
  obtain ⟨w1, ew1⟩ : ∃ z : Dt, z = up2 w 15 0 (v 15 0) := ⟨_, rfl⟩
  rw [← ew1] at hBw
  have hw := hw w1 ew1
  refine lv_iconst (v := 0) hx hb dX5_copyFrom_8 (by decide) ?_
  refine lv_istore_n (lv' := [(2, .int 0), (0, .ref (ad 15)), (1, .ref (bd 15))]) hx hb dX5_copyFrom_9 rfl hl (by decide) rfl (fun ls hl => ?_)
  obtain ⟨k9, hw⟩ := hw
  exact t_X5_copyFrom_10 X hr hT hA0 hDv  k9 _ _ _ _ _ _ hw hBw hBv hS (lv_sub hl [1, 2, 0] rfl)
