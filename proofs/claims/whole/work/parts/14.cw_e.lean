abbrev rm_X6_mergedSize : Room := { frames := 0, cells := 0, slots := 0, locals := 0 }
def wp_X6_mergedSize_34 (post : Int32 → Prop)   (y3 : Int32) : Prop := post y3
set_option maxHeartbeats 4000000 in
set_option maxRecDepth 100000 in
theorem t_X6_mergedSize_34 {p : Program} {l : Launch} {e : Env} {s : State} {m : MethodId} {args : Array Value} {below : List Frame} {meth : Method} {c : Code} {D : va_G} {tc : Nat → ClassId} {h0 : Nat} {sa : Nat → Nat}   {post : Int32 → Prop}  (X : Cx p c s m meth cX6_mergedSize 4 RX6 D tc) (hr : meth.sig.returnType = (Option.some FieldType.int)) (hT : ST h0 sa s s.heap) (hA0 : ∀ q, (fun _ => False) q → h0 ≤ q)    : ∀ (y3 : Int32) (locs : List Loc) (ls : Array Slot), wp_X6_mergedSize_34 post   y3 → va_S (fun _ => False) s.heap s.heap locs → lv_has ls 4 [(3, .int y3)] → W p l e rm_X6_mergedSize s m args below meth c s.heap locs 0 0 (MQ below (QB post (fun (_ : Int32) (H1 : Heap) => H1 = s.heap) (fun u : Int32 => some (.int u)) (fun _ => False)) args s rm_X6_mergedSize.cells rm_X6_mergedSize.slots (fun _ => False)) (F0 m 34 ls []) := by
  have hx := X.1
  have hb := X.2.1
  have hown := X.2.2.2.1
  have hU := X.2.2.2.2.1.1
  intro y3  locs ls hw  hS hl
  unfold wp_X6_mergedSize_34 at hw
  refine lv_iload_n hx hb dX6_mergedSize_34 rfl (lv_at hl 0 rfl) ?_
  exact e_i X hr dX6_mergedSize_35 hS (y3) rfl hw rfl ⟨Nat.le_of_ble_eq_true rfl, Nat.le_of_ble_eq_true rfl⟩
def wp_X6_mergedSize_10 (post : Int32 → Prop)   : Nat → Int32 → Int32 → Prop
  | 0, _, _ => False
  | n9 + 1, y2, y3 => (400 ≤ y3 → wp_X6_mergedSize_34 post   y3) ∧ (¬ 400 ≤ y3 → (y2 < ((y3 + 1) * (y3 + 1)) → wp_X6_mergedSize_34 post   y3) ∧ (¬ y2 < ((y3 + 1) * (y3 + 1)) → wp_X6_mergedSize_10 post   n9 y2 (y3 + 1)))
set_option maxHeartbeats 4000000 in
set_option maxRecDepth 100000 in
theorem t_X6_mergedSize_10 {p : Program} {l : Launch} {e : Env} {s : State} {m : MethodId} {args : Array Value} {below : List Frame} {meth : Method} {c : Code} {D : va_G} {tc : Nat → ClassId} {h0 : Nat} {sa : Nat → Nat}   {post : Int32 → Prop}  (X : Cx p c s m meth cX6_mergedSize 4 RX6 D tc) (hr : meth.sig.returnType = (Option.some FieldType.int)) (hT : ST h0 sa s s.heap) (hA0 : ∀ q, (fun _ => False) q → h0 ≤ q)    : ∀ (n9 : Nat) (y2 : Int32) (y3 : Int32) (locs : List Loc) (ls : Array Slot), wp_X6_mergedSize_10 post   n9 y2 y3 → va_S (fun _ => False) s.heap s.heap locs → lv_has ls 4 [(2, .int y2), (3, .int y3)] → W p l e rm_X6_mergedSize s m args below meth c s.heap locs 0 0 (MQ below (QB post (fun (_ : Int32) (H1 : Heap) => H1 = s.heap) (fun u : Int32 => some (.int u)) (fun _ => False)) args s rm_X6_mergedSize.cells rm_X6_mergedSize.slots (fun _ => False)) (F0 m 10 ls []) := by
  have hx := X.1
  have hb := X.2.1
  have hown := X.2.2.2.1
  have hU := X.2.2.2.2.1.1
  intro n9
  induction n9 with
  | zero =>
    intro y2 y3  locs ls hw
    exact hw.elim
  | succ n9 ih =>
    intro y2 y3  locs ls hw  hS hl
    unfold wp_X6_mergedSize_10 at hw
    refine lv_iload_n hx hb dX6_mergedSize_10 rfl (lv_at hl 1 rfl) ?_
    refine lv_sipush (v := 400) hx hb dX6_mergedSize_11 (by decide) ?_
    refine lv_icmp_ge (tgt := 34) hx hb dX6_mergedSize_14 (by decide) (fun c1 => ?_) (fun c1 => ?_)
    · have hw := hw.1 c1
      exact t_X6_mergedSize_34 X hr hT hA0   _ _ _ hw  hS (lv_sub hl [1] rfl)
    · have hw := hw.2 c1
      refine lv_iload_n hx hb dX6_mergedSize_17 rfl (lv_at hl 1 rfl) ?_
      refine lv_iconst (v := 1) hx hb dX6_mergedSize_18 (by decide) ?_
      refine lv_iadd hx hb dX6_mergedSize_19 ?_
      refine lv_iload_n hx hb dX6_mergedSize_20 rfl (lv_at hl 1 rfl) ?_
      refine lv_iconst (v := 1) hx hb dX6_mergedSize_21 (by decide) ?_
      refine lv_iadd hx hb dX6_mergedSize_22 ?_
      refine lv_imul hx hb dX6_mergedSize_23 ?_
      refine lv_iload_n hx hb dX6_mergedSize_24 rfl (lv_at hl 0 rfl) ?_
      refine lv_icmp_gt (tgt := 34) hx hb dX6_mergedSize_25 (by decide) (fun c2 => ?_) (fun c2 => ?_)
      · have hw := hw.1 c2
        exact t_X6_mergedSize_34 X hr hT hA0   _ _ _ hw  hS (lv_sub hl [1] rfl)
      · have hw := hw.2 c2
        refine lv_iinc (lv' := [(3, .int (y3 + 1)), (2, .int y2)]) hx hb dX6_mergedSize_28 hl (k := 1) rfl (by rfl) (by decide) rfl (fun ls hl => ?_)
        refine lv_goto (tgt := 10) hx hb dX6_mergedSize_31 (by decide) ?_
        exact ih _ _ _ _ hw  hS (lv_sub hl [1, 0] rfl)
def wp_X6_mergedSize (post : Int32 → Prop) (x1 : Int32) (x2 : Int32) : Prop := ∃ k9 : Nat, wp_X6_mergedSize_10 post   k9 ((x1 * x1) + (x2 * x2)) x1
set_option maxHeartbeats 4000000 in
set_option maxRecDepth 100000 in
theorem c_X6_mergedSize (l : Launch) (D : va_G) (tc : Nat → ClassId) (h0 : Nat) (sa : Nat → Nat) (x1 : Int32) (x2 : Int32) (H0 : Heap)     {post : Int32 → Prop} (hw : wp_X6_mergedSize post x1 x2) : MB l yX6_mergedSize cX6_mergedSize 4 (Option.some FieldType.int) rm_X6_mergedSize (fun _ => False) [.int x1, .int x2] D tc h0 sa H0 post (fun (_ : Int32) (H1 : Heap) => H1 = H0) (fun u : Int32 => some (.int u)) := by
  have hA0 : ∀ q : Nat, (fun _ : Nat => False) q → h0 ≤ q := fun _ h => h.elim
  refine MB.of RX6 [(0, .int x1), (1, .int x2)] (by decide +kernel) rfl (Nat.le_of_ble_eq_true rfl) rfl ?_
  intro p e s m below meth c ls X hr hin hT hH hS hl
  subst hH
  have hx := X.1
  have hb := X.2.1
  have hown := X.2.2.2.1
  have hU := X.2.2.2.2.1.1
  unfold wp_X6_mergedSize at hw
  refine lv_iload_n hx hb dX6_mergedSize_0 rfl (lv_at hl 0 rfl) ?_
  refine lv_iload_n hx hb dX6_mergedSize_1 rfl (lv_at hl 0 rfl) ?_
  refine lv_imul hx hb dX6_mergedSize_2 ?_
  refine lv_iload_n hx hb dX6_mergedSize_3 rfl (lv_at hl 1 rfl) ?_
  refine lv_iload_n hx hb dX6_mergedSize_4 rfl (lv_at hl 1 rfl) ?_
  refine lv_imul hx hb dX6_mergedSize_5 ?_
  refine lv_iadd hx hb dX6_mergedSize_6 ?_
  refine lv_istore_n (lv' := [(2, .int ((x1 * x1) + (x2 * x2))), (0, .int x1), (1, .int x2)]) hx hb dX6_mergedSize_7 rfl hl (by decide) rfl (fun ls hl => ?_)
  refine lv_iload_n hx hb dX6_mergedSize_8 rfl (lv_at hl 1 rfl) ?_
  refine lv_istore_n (lv' := [(3, .int x1), (2, .int ((x1 * x1) + (x2 * x2))), (0, .int x1), (1, .int x2)]) hx hb dX6_mergedSize_9 rfl hl (by decide) rfl (fun ls hl => ?_)
  obtain ⟨k9, hw⟩ := hw
  exact t_X6_mergedSize_10 X hr hT hA0   k9 _ _ _ _ hw  hS (lv_sub hl [1, 0] rfl)
abbrev rm_X6_merge : Room := { frames := 1, cells := 0, slots := 0, locals := 23 }
def wp_X6_merge_79 (post : Dt → Prop)   (y4 : Int32) (y5 : Int32) (w : Dt) : Prop := vp_in y5 12 ∧ (∀ w10 : Dt, w10 = up2 w 13 y5.toNatClampNeg 0 → (∀ w11 : Dt, w11 = up2 w10 14 y5.toNatClampNeg y4 → (wp_X3_write (fun w12 => post w12) w11 109 y4)))
set_option maxHeartbeats 4000000 in
set_option maxRecDepth 100000 in
theorem t_X6_merge_79 {p : Program} {l : Launch} {e : Env} {s : State} {m : MethodId} {args : Array Value} {below : List Frame} {meth : Method} {c : Code} {D : va_G} {tc : Nat → ClassId} {h0 : Nat} {sa : Nat → Nat}  {ad : Nat → Nat} {A : Nat → Prop} {post : Dt → Prop}  (X : Cx p c s m meth cX6_merge 6 RX6 D tc) (hr : meth.sig.returnType = (Option.none : Option FieldType)) (hT : ST h0 sa s s.heap) (hA0 : ∀ q, A q → h0 ≤ q)    : ∀ (y4 : Int32) (y5 : Int32) (w : Dt) (H : Heap) (locs : List Loc) (ls : Array Slot), wp_X6_merge_79 post   y4 y5 w → (Blk D tc A (shW ad) ad w H) → va_S A s.heap H locs → lv_has ls 6 [(0, .ref (ad 7)), (3, .ref (ad 19)), (4, .int y4), (5, .int y5)] → W p l e rm_X6_merge s m args below meth c H locs 0 0 (MQ below (QB post (fun (u : Dt) (H1 : Heap) => Blk D tc A (shW ad) ad u H1) (fun _ : Dt => none) A) args s rm_X6_merge.cells rm_X6_merge.slots A) (F0 m 79 ls []) := by
  have hx := X.1
  have hb := X.2.1
  have hown := X.2.2.2.1
  have hU := X.2.2.2.2.1.1
  intro y4 y5 w H locs ls hw hBw hS hl
  unfold wp_X6_merge_79 at hw
  refine lv_aload_n hx hb dX6_merge_79 rfl (lv_at hl 0 rfl) ?_
  refine g_get X dX6_merge_80 f_X6_28 hBw 7 (v := .ref (ad 13)) rfl rfl ?_
  refine lv_iload hx hb dX6_merge_83 (lv_at hl 3 rfl) ?_
  refine lv_iconst (v := 0) hx hb dX6_merge_85 (by decide) ?_
  obtain ⟨o9, hw⟩ := hw
  refine g_zast X dX6_merge_86 hBw hS 13 rfl o9 rfl rfl (fun H locs hBw oq hS => ?_)
  obtain ⟨w10, ew10⟩ : ∃ z : Dt, z = up2 w 13 y5.toNatClampNeg 0 := ⟨_, rfl⟩
  rw [← ew10] at hBw
  have hw := hw w10 ew10
  refine lv_aload_n hx hb dX6_merge_87 rfl (lv_at hl 0 rfl) ?_
  refine g_get X dX6_merge_88 f_X6_32 hBw 7 (v := .ref (ad 14)) rfl rfl ?_
  refine lv_iload hx hb dX6_merge_91 (lv_at hl 3 rfl) ?_
  refine lv_iload hx hb dX6_merge_93 (lv_at hl 2 rfl) ?_
  refine g_iast X dX6_merge_95 hBw hS 14 rfl o9 rfl  (fun H locs hBw oq hS => ?_)
  obtain ⟨w11, ew11⟩ : ∃ z : Dt, z = up2 w10 14 y5.toNatClampNeg y4 := ⟨_, rfl⟩
  rw [← ew11] at hBw
  have hw := hw w11 ew11
  refine lv_aload_n hx hb dX6_merge_96 rfl (lv_at hl 1 rfl) ?_
  refine lv_bipush (v := 109) hx hb dX6_merge_97 (by decide) ?_
  refine lv_iload hx hb dX6_merge_99 (lv_at hl 2 rfl) ?_
  refine g_after (st0 := .int y4 :: .int 109 :: .ref (ad 19) :: []) (rest := []) (g_V X m_X6_83 (c_X3_write l D tc h0 sa 109 y4 _ hBw hA0 hw) (hBw.recv X 19 rfl (q := (RX3, TX3, 3)) rfl) hT hS hA0 dX6_merge_101 hl.1 rfl rfl ⟨Nat.le_of_ble_eq_true rfl, Nat.le_of_ble_eq_true rfl⟩ (Nat.le_of_ble_eq_true rfl) ⟨Nat.le_of_ble_eq_true rfl, Nat.le_of_ble_eq_true rfl⟩) hS (fun _ h => h) (fun u => []) (fun _ => rfl) (fun u H9 locs hw hP9 hz9 hk9 hS => ?_)
  obtain ⟨w12, rfl⟩ : ∃ z, z = u := ⟨_, rfl⟩
  have hBw : Blk D tc A (shW ad) ad w12 H9 := hP9
  try dsimp only at hw
  exact e_v X hr dX6_merge_104 hS (w12) rfl hw hBw ⟨Nat.le_of_ble_eq_true rfl, Nat.le_of_ble_eq_true rfl⟩
def wp_X6_merge_27 (post : Dt → Prop)   (y4 : Int32) (z0 : Int32) (w : Dt) : Prop := vp_in y4 12 ∧ (vp_in z0 12 ∧ (wp_X6_mergedSize (fun r6 => ∀ w7 : Dt, w7 = up2 w 10 y4.toNatClampNeg r6 → ((¬ (w7 12 y4.toNatClampNeg) = 45 → wp_X6_merge_79 post   y4 z0 w7) ∧ ((w7 12 y4.toNatClampNeg) = 45 → narrow .char (.int (w7 12 z0.toNatClampNeg)) = .int (w7 12 z0.toNatClampNeg) ∧ (∀ w14 : Dt, w14 = up2 w7 12 y4.toNatClampNeg (w7 12 z0.toNatClampNeg) → (wp_X6_merge_79 post   y4 z0 w14))))) (w 10 y4.toNatClampNeg) (w 10 z0.toNatClampNeg)))
set_option maxHeartbeats 4000000 in
set_option maxRecDepth 100000 in
theorem t_X6_merge_27 {p : Program} {l : Launch} {e : Env} {s : State} {m : MethodId} {args : Array Value} {below : List Frame} {meth : Method} {c : Code} {D : va_G} {tc : Nat → ClassId} {h0 : Nat} {sa : Nat → Nat}  {ad : Nat → Nat} {A : Nat → Prop} {post : Dt → Prop}  (X : Cx p c s m meth cX6_merge 6 RX6 D tc) (hr : meth.sig.returnType = (Option.none : Option FieldType)) (hT : ST h0 sa s s.heap) (hA0 : ∀ q, A q → h0 ≤ q)    : ∀ (y4 : Int32) (z0 : Int32) (w : Dt) (locs : List Loc) (ls : Array Slot), wp_X6_merge_27 post   y4 z0 w → (Blk D tc A (shW ad) ad w s.heap) → va_S A s.heap s.heap locs → lv_has ls 6 [(0, .ref (ad 7)), (3, .ref (ad 19)), (4, .int y4)] → W p l e rm_X6_merge s m args below meth c s.heap locs 0 0 (MQ below (QB post (fun (u : Dt) (H1 : Heap) => Blk D tc A (shW ad) ad u H1) (fun _ : Dt => none) A) args s rm_X6_merge.cells rm_X6_merge.slots A) (F0 m 27 ls [.int z0]) := by
  have hx := X.1
  have hb := X.2.1
  have hown := X.2.2.2.1
  have hU := X.2.2.2.2.1.1
  intro y4 z0 w  locs ls hw hBw hS hl
  unfold wp_X6_merge_27 at hw
  refine lv_istore (lv' := [(5, .int z0), (0, .ref (ad 7)), (3, .ref (ad 19)), (4, .int y4)]) hx hb dX6_merge_27 hl (by decide) rfl (fun ls hl => ?_)
  refine lv_aload_n hx hb dX6_merge_29 rfl (lv_at hl 1 rfl) ?_
  refine g_get X dX6_merge_30 f_X6_18 hBw 7 (v := .ref (ad 10)) rfl rfl ?_
  refine lv_iload hx hb dX6_merge_33 (lv_at hl 3 rfl) ?_
  refine lv_aload_n hx hb dX6_merge_35 rfl (lv_at hl 1 rfl) ?_
  refine g_get X dX6_merge_36 f_X6_18 hBw 7 (v := .ref (ad 10)) rfl rfl ?_
  refine lv_iload hx hb dX6_merge_39 (lv_at hl 3 rfl) ?_
  obtain ⟨o4, hw⟩ := hw
  refine g_iald X dX6_merge_41 hBw 10 rfl o4 rfl ?_
  refine lv_aload_n hx hb dX6_merge_42 rfl (lv_at hl 1 rfl) ?_
  refine g_get X dX6_merge_43 f_X6_18 hBw 7 (v := .ref (ad 10)) rfl rfl ?_
  refine lv_iload hx hb dX6_merge_46 (lv_at hl 0 rfl) ?_
  obtain ⟨o5, hw⟩ := hw
  refine g_iald X dX6_merge_48 hBw 10 rfl o5 rfl ?_
  refine g_after (st0 := .int (w 10 z0.toNatClampNeg) :: .int (w 10 y4.toNatClampNeg) :: [.int y4, .ref (ad 10)]) (rest := [.int y4, .ref (ad 10)]) (g_S X m_X6_80 (c_X6_mergedSize l D tc h0 sa (w 10 y4.toNatClampNeg) (w 10 z0.toNatClampNeg) _  hw) hT hS hA0 dX6_merge_49 hl.1 rfl rfl ⟨Nat.le_of_ble_eq_true rfl, Nat.le_of_ble_eq_true rfl⟩ (Nat.le_of_ble_eq_true rfl) ⟨Nat.le_of_ble_eq_true rfl, Nat.le_of_ble_eq_true rfl⟩) hS (fun _ h => h.elim) (fun u => .int u :: [.int y4, .ref (ad 10)]) (fun _ => rfl) (fun u H9 locs hw hP9 hz9 hk9 hS => ?_)
  have e9 : H9 = _ := hP9
  rw [e9] at hS ⊢
  obtain ⟨r6, rfl⟩ : ∃ z, z = u := ⟨_, rfl⟩
  try dsimp only at hw
  refine g_iast X dX6_merge_52 hBw hS 10 rfl o4 rfl  (fun H locs hBw oq hS => ?_)
  obtain ⟨w7, ew7⟩ : ∃ z : Dt, z = up2 w 10 y4.toNatClampNeg r6 := ⟨_, rfl⟩
  rw [← ew7] at hBw
  have hw := hw w7 ew7
  refine lv_aload_n hx hb dX6_merge_53 rfl (lv_at hl 1 rfl) ?_
  refine g_get X dX6_merge_54 f_X6_24 hBw 7 (v := .ref (ad 12)) rfl rfl ?_
  refine lv_iload hx hb dX6_merge_57 (lv_at hl 3 rfl) ?_
  refine g_cald X dX6_merge_59 hBw 12 rfl o4 rfl ?_
  refine lv_bipush (v := 45) hx hb dX6_merge_60 (by decide) ?_
  refine lv_icmp_ne (tgt := 79) hx hb dX6_merge_62 (by decide) (fun c8 => ?_) (fun c8 => ?_)
  · have hw := hw.1 c8
    exact t_X6_merge_79 X hr hT hA0   _ _ _ _ _ _ hw hBw hS (lv_sub hl [1, 2, 3, 0] rfl)
  · have hw := hw.2 c8
    refine lv_aload_n hx hb dX6_merge_65 rfl (lv_at hl 1 rfl) ?_
    refine g_get X dX6_merge_66 f_X6_24 hBw 7 (v := .ref (ad 12)) rfl rfl ?_
    refine lv_iload hx hb dX6_merge_69 (lv_at hl 3 rfl) ?_
    refine lv_aload_n hx hb dX6_merge_71 rfl (lv_at hl 1 rfl) ?_
    refine g_get X dX6_merge_72 f_X6_24 hBw 7 (v := .ref (ad 12)) rfl rfl ?_
    refine lv_iload hx hb dX6_merge_75 (lv_at hl 0 rfl) ?_
    refine g_cald X dX6_merge_77 hBw 12 rfl o5 rfl ?_
    obtain ⟨o13, hw⟩ := hw
    refine g_cast X dX6_merge_78 hBw hS 12 rfl o4 rfl o13 (fun H locs hBw oq hS => ?_)
    obtain ⟨w14, ew14⟩ : ∃ z : Dt, z = up2 w7 12 y4.toNatClampNeg (w7 12 z0.toNatClampNeg) := ⟨_, rfl⟩
    rw [← ew14] at hBw
    have hw := hw w14 ew14
    exact t_X6_merge_79 X hr hT hA0   _ _ _ _ _ _ hw hBw hS (lv_sub hl [1, 2, 3, 0] rfl)
def wp_X6_merge_14 (post : Dt → Prop)   (y1 : Int32) (y2 : Int32) (z0 : Int32) (w : Dt) : Prop := (¬ z0 = y1 → wp_X6_merge_27 post   z0 y1 w) ∧ (z0 = y1 → wp_X6_merge_27 post   z0 y2 w)
set_option maxHeartbeats 4000000 in
set_option maxRecDepth 100000 in
theorem t_X6_merge_14 {p : Program} {l : Launch} {e : Env} {s : State} {m : MethodId} {args : Array Value} {below : List Frame} {meth : Method} {c : Code} {D : va_G} {tc : Nat → ClassId} {h0 : Nat} {sa : Nat → Nat}  {ad : Nat → Nat} {A : Nat → Prop} {post : Dt → Prop}  (X : Cx p c s m meth cX6_merge 6 RX6 D tc) (hr : meth.sig.returnType = (Option.none : Option FieldType)) (hT : ST h0 sa s s.heap) (hA0 : ∀ q, A q → h0 ≤ q)    : ∀ (y1 : Int32) (y2 : Int32) (z0 : Int32) (w : Dt) (locs : List Loc) (ls : Array Slot), wp_X6_merge_14 post   y1 y2 z0 w → (Blk D tc A (shW ad) ad w s.heap) → va_S A s.heap s.heap locs → lv_has ls 6 [(0, .ref (ad 7)), (1, .int y1), (2, .int y2), (3, .ref (ad 19))] → W p l e rm_X6_merge s m args below meth c s.heap locs 0 0 (MQ below (QB post (fun (u : Dt) (H1 : Heap) => Blk D tc A (shW ad) ad u H1) (fun _ : Dt => none) A) args s rm_X6_merge.cells rm_X6_merge.slots A) (F0 m 14 ls [.int z0]) := by
  have hx := X.1
  have hb := X.2.1
  have hown := X.2.2.2.1
  have hU := X.2.2.2.2.1.1
  intro y1 y2 z0 w  locs ls hw hBw hS hl
  unfold wp_X6_merge_14 at hw
  refine lv_istore (lv' := [(4, .int z0), (0, .ref (ad 7)), (1, .int y1), (2, .int y2), (3, .ref (ad 19))]) hx hb dX6_merge_14 hl (by decide) rfl (fun ls hl => ?_)
  refine lv_iload hx hb dX6_merge_16 (lv_at hl 0 rfl) ?_
  refine lv_iload_n hx hb dX6_merge_18 rfl (lv_at hl 2 rfl) ?_
  refine lv_icmp_ne (tgt := 26) hx hb dX6_merge_19 (by decide) (fun c3 => ?_) (fun c3 => ?_)
  · have hw := hw.1 c3
    refine lv_iload_n hx hb dX6_merge_26 rfl (lv_at hl 2 rfl) ?_
    exact t_X6_merge_27 X hr hT hA0   _ _ _ _ _ hw hBw hS (lv_sub hl [1, 4, 0] rfl)
  · have hw := hw.2 c3
    refine lv_iload_n hx hb dX6_merge_22 rfl (lv_at hl 3 rfl) ?_
    refine lv_goto (tgt := 27) hx hb dX6_merge_23 (by decide) ?_
    exact t_X6_merge_27 X hr hT hA0   _ _ _ _ _ hw hBw hS (lv_sub hl [1, 4, 0] rfl)
def wp_X6_merge (post : Dt → Prop) (w : Dt) (x1 : Int32) (x2 : Int32) : Prop := wp_X6_isGreater (fun r1 => (r1 = 0 → wp_X6_merge_14 post   x1 x2 x1 w) ∧ (¬ r1 = 0 → wp_X6_merge_14 post   x1 x2 x2 w)) w x2 x1
set_option maxHeartbeats 4000000 in
set_option maxRecDepth 100000 in
theorem c_X6_merge (l : Launch) (D : va_G) (tc : Nat → ClassId) (h0 : Nat) (sa : Nat → Nat) (x1 : Int32) (x2 : Int32) (H0 : Heap) {ad : Nat → Nat} {A : Nat → Prop} {w : Dt} (hBw : Blk D tc A (shW ad) ad w H0) (hA0 : ∀ q, A q → h0 ≤ q) {post : Dt → Prop} (hw : wp_X6_merge post w x1 x2) : MB l yX6_merge cX6_merge 6 (Option.none : Option FieldType) rm_X6_merge A [.ref (ad 7), .int x1, .int x2, .ref (ad 19)] D tc h0 sa H0 post (fun (u : Dt) (H1 : Heap) => Blk D tc A (shW ad) ad u H1) (fun _ : Dt => none) := by
  refine MB.of RX6 [(0, .ref (ad 7)), (1, .int x1), (2, .int x2), (3, .ref (ad 19))] (by decide +kernel) rfl (Nat.le_of_ble_eq_true rfl) rfl ?_
  intro p e s m below meth c ls X hr hin hT hH hS hl
  subst hH
  have hx := X.1
  have hb := X.2.1
  have hown := X.2.2.2.1
  have hU := X.2.2.2.2.1.1
  unfold wp_X6_merge at hw
  refine lv_aload_n hx hb dX6_merge_0 rfl (lv_at hl 0 rfl) ?_
  refine lv_iload_n hx hb dX6_merge_1 rfl (lv_at hl 2 rfl) ?_
  refine lv_iload_n hx hb dX6_merge_2 rfl (lv_at hl 1 rfl) ?_
  refine g_after (st0 := .int x1 :: .int x2 :: .ref (ad 7) :: []) (rest := []) (g_V X m_X6_77 (c_X6_isGreater l D tc h0 sa x2 x1 _ hBw hw) (hBw.recv X 7 rfl (q := (RX6, TX6, 8)) rfl) hT hS hA0 dX6_merge_3 hl.1 rfl rfl ⟨Nat.le_of_ble_eq_true rfl, Nat.le_of_ble_eq_true rfl⟩ (Nat.le_of_ble_eq_true rfl) ⟨Nat.le_of_ble_eq_true rfl, Nat.le_of_ble_eq_true rfl⟩) hS (fun _ h => h.elim) (fun u => .int u :: []) (fun _ => rfl) (fun u H9 locs hw hP9 hz9 hk9 hS => ?_)
  have e9 : H9 = _ := hP9
  rw [e9] at hS ⊢
  obtain ⟨r1, rfl⟩ : ∃ z, z = u := ⟨_, rfl⟩
  try dsimp only at hw
  refine lv_if_eq (tgt := 13) hx hb dX6_merge_6 (by decide) (fun c2 => ?_) (fun c2 => ?_)
  · have hw := hw.1 c2
    refine lv_iload_n hx hb dX6_merge_13 rfl (lv_at hl 1 rfl) ?_
    exact t_X6_merge_14 X hr hT hA0   _ _ _ _ _ _ hw hBw hS (lv_sub hl [0, 1, 2, 3] rfl)
  · have hw := hw.2 c2
    refine lv_iload_n hx hb dX6_merge_9 rfl (lv_at hl 2 rfl) ?_
    refine lv_goto (tgt := 14) hx hb dX6_merge_10 (by decide) ?_
    exact t_X6_merge_14 X hr hT hA0   _ _ _ _ _ _ hw hBw hS (lv_sub hl [0, 1, 2, 3] rfl)
abbrev rm_X6_meet : Room := { frames := 3, cells := 0, slots := 0, locals := 65 }
def wp_X6_meet_62 (post : Dt → Prop)   (w : Dt) : Prop := post w
set_option maxHeartbeats 4000000 in
set_option maxRecDepth 100000 in
theorem t_X6_meet_62 {p : Program} {l : Launch} {e : Env} {s : State} {m : MethodId} {args : Array Value} {below : List Frame} {meth : Method} {c : Code} {D : va_G} {tc : Nat → ClassId} {h0 : Nat} {sa : Nat → Nat}  {ad : Nat → Nat} {A : Nat → Prop} {post : Dt → Prop}  (X : Cx p c s m meth cX6_meet 4 RX6 D tc) (hr : meth.sig.returnType = (Option.none : Option FieldType)) (hT : ST h0 sa s s.heap) (hA0 : ∀ q, A q → h0 ≤ q)    : ∀ (w : Dt) (H : Heap) (locs : List Loc) (ls : Array Slot), wp_X6_meet_62 post   w → (Blk D tc A (shW ad) ad w H) → va_S A s.heap H locs → lv_has ls 4 [] → W p l e rm_X6_meet s m args below meth c H locs 0 0 (MQ below (QB post (fun (u : Dt) (H1 : Heap) => Blk D tc A (shW ad) ad u H1) (fun _ : Dt => none) A) args s rm_X6_meet.cells rm_X6_meet.slots A) (F0 m 62 ls []) := by
  have hx := X.1
  have hb := X.2.1
  have hown := X.2.2.2.1
  have hU := X.2.2.2.2.1.1
  intro w H locs ls hw hBw hS hl
  unfold wp_X6_meet_62 at hw
  exact e_v X hr dX6_meet_62 hS (w) rfl hw hBw ⟨Nat.le_of_ble_eq_true rfl, Nat.le_of_ble_eq_true rfl⟩
def wp_X6_meet_56 (post : Dt → Prop)  (K2 : Int32 → Dt → Prop) (y2 : Int32) (w : Dt) : Prop := K2 (y2 + 1) w
set_option maxHeartbeats 4000000 in
set_option maxRecDepth 100000 in
theorem t_X6_meet_56 {p : Program} {l : Launch} {e : Env} {s : State} {m : MethodId} {args : Array Value} {below : List Frame} {meth : Method} {c : Code} {D : va_G} {tc : Nat → ClassId} {h0 : Nat} {sa : Nat → Nat}  {ad : Nat → Nat} {A : Nat → Prop} {post : Dt → Prop} {K2 : Int32 → Dt → Prop} (X : Cx p c s m meth cX6_meet 4 RX6 D tc) (hr : meth.sig.returnType = (Option.none : Option FieldType)) (hT : ST h0 sa s s.heap) (hA0 : ∀ q, A q → h0 ≤ q)   (hK2 : ∀ (y2 : Int32) (w : Dt) (H : Heap) (locs : List Loc) (ls : Array Slot), K2 y2 w → (Blk D tc A (shW ad) ad w H) → va_S A s.heap H locs → lv_has ls 4 [(0, .ref (ad 7)), (1, .ref (ad 19)), (2, .int y2)] → W p l e rm_X6_meet s m args below meth c H locs 0 0 (MQ below (QB post (fun (u : Dt) (H1 : Heap) => Blk D tc A (shW ad) ad u H1) (fun _ : Dt => none) A) args s rm_X6_meet.cells rm_X6_meet.slots A) (F0 m 2 ls [])) : ∀ (y2 : Int32) (w : Dt) (H : Heap) (locs : List Loc) (ls : Array Slot), wp_X6_meet_56 post  K2 y2 w → (Blk D tc A (shW ad) ad w H) → va_S A s.heap H locs → lv_has ls 4 [(0, .ref (ad 7)), (1, .ref (ad 19)), (2, .int y2)] → W p l e rm_X6_meet s m args below meth c H locs 0 0 (MQ below (QB post (fun (u : Dt) (H1 : Heap) => Blk D tc A (shW ad) ad u H1) (fun _ : Dt => none) A) args s rm_X6_meet.cells rm_X6_meet.slots A) (F0 m 56 ls []) := by
  have hx := X.1
  have hb := X.2.1
  have hown := X.2.2.2.1
  have hU := X.2.2.2.2.1.1
  intro y2 w H locs ls hw hBw hS hl
  unfold wp_X6_meet_56 at hw
  refine lv_iinc (lv' := [(2, .int (y2 + 1)), (0, .ref (ad 7)), (1, .ref (ad 19))]) hx hb dX6_meet_56 hl (k := 2) rfl (by rfl) (by decide) rfl (fun ls hl => ?_)
  refine lv_goto (tgt := 2) hx hb dX6_meet_59 (by decide) ?_
  exact hK2 _ _ _ _ _ hw hBw hS (lv_sub hl [1, 2, 0] rfl)
def wp_X6_meet_50 (post : Dt → Prop)  (K2 : Int32 → Dt → Prop) (K20 : Int32 → Int32 → Dt → Prop) (y2 : Int32) (y3 : Int32) (w : Dt) : Prop := K20 y2 (y3 + 1) w
set_option maxHeartbeats 4000000 in
set_option maxRecDepth 100000 in
theorem t_X6_meet_50 {p : Program} {l : Launch} {e : Env} {s : State} {m : MethodId} {args : Array Value} {below : List Frame} {meth : Method} {c : Code} {D : va_G} {tc : Nat → ClassId} {h0 : Nat} {sa : Nat → Nat}  {ad : Nat → Nat} {A : Nat → Prop} {post : Dt → Prop} {K2 : Int32 → Dt → Prop} {K20 : Int32 → Int32 → Dt → Prop} (X : Cx p c s m meth cX6_meet 4 RX6 D tc) (hr : meth.sig.returnType = (Option.none : Option FieldType)) (hT : ST h0 sa s s.heap) (hA0 : ∀ q, A q → h0 ≤ q)   (hK2 : ∀ (y2 : Int32) (w : Dt) (H : Heap) (locs : List Loc) (ls : Array Slot), K2 y2 w → (Blk D tc A (shW ad) ad w H) → va_S A s.heap H locs → lv_has ls 4 [(0, .ref (ad 7)), (1, .ref (ad 19)), (2, .int y2)] → W p l e rm_X6_meet s m args below meth c H locs 0 0 (MQ below (QB post (fun (u : Dt) (H1 : Heap) => Blk D tc A (shW ad) ad u H1) (fun _ : Dt => none) A) args s rm_X6_meet.cells rm_X6_meet.slots A) (F0 m 2 ls [])) (hK20 : ∀ (y2 : Int32) (y3 : Int32) (w : Dt) (H : Heap) (locs : List Loc) (ls : Array Slot), K20 y2 y3 w → (Blk D tc A (shW ad) ad w H) → va_S A s.heap H locs → lv_has ls 4 [(0, .ref (ad 7)), (1, .ref (ad 19)), (2, .int y2), (3, .int y3)] → W p l e rm_X6_meet s m args below meth c H locs 0 0 (MQ below (QB post (fun (u : Dt) (H1 : Heap) => Blk D tc A (shW ad) ad u H1) (fun _ : Dt => none) A) args s rm_X6_meet.cells rm_X6_meet.slots A) (F0 m 20 ls [])) : ∀ (y2 : Int32) (y3 : Int32) (w : Dt) (H : Heap) (locs : List Loc) (ls : Array Slot), wp_X6_meet_50 post  K2 K20 y2 y3 w → (Blk D tc A (shW ad) ad w H) → va_S A s.heap H locs → lv_has ls 4 [(0, .ref (ad 7)), (1, .ref (ad 19)), (2, .int y2), (3, .int y3)] → W p l e rm_X6_meet s m args below meth c H locs 0 0 (MQ below (QB post (fun (u : Dt) (H1 : Heap) => Blk D tc A (shW ad) ad u H1) (fun _ : Dt => none) A) args s rm_X6_meet.cells rm_X6_meet.slots A) (F0 m 50 ls []) := by
  have hx := X.1
  have hb := X.2.1
  have hown := X.2.2.2.1
  have hU := X.2.2.2.2.1.1
  intro y2 y3 w H locs ls hw hBw hS hl
  unfold wp_X6_meet_50 at hw
  refine lv_iinc (lv' := [(3, .int (y3 + 1)), (0, .ref (ad 7)), (1, .ref (ad 19)), (2, .int y2)]) hx hb dX6_meet_50 hl (k := 3) rfl (by rfl) (by decide) rfl (fun ls hl => ?_)
  refine lv_goto (tgt := 20) hx hb dX6_meet_53 (by decide) ?_
  exact hK20 _ _ _ _ _ _ hw hBw hS (lv_sub hl [1, 2, 3, 0] rfl)
def wp_X6_meet_20 (post : Dt → Prop)  (K2 : Int32 → Dt → Prop) : Nat → Int32 → Int32 → Dt → Prop
  | 0, _, _, _ => False
  | n9 + 1, y2, y3, w => ((w 7 0) ≤ y3 → wp_X6_meet_56 post  K2 y2 w) ∧ (¬ (w 7 0) ≤ y3 → (12 ≤ y3 → wp_X6_meet_56 post  K2 y2 w) ∧ (¬ 12 ≤ y3 → wp_X6_doMeet (fun r5 => (r5 = 0 → wp_X6_meet_50 post  K2 (fun a0 a1 w => wp_X6_meet_20 post  K2 n9 a0 a1 w) y2 y3 w) ∧ (¬ r5 = 0 → wp_X6_merge (fun w7 => wp_X6_meet_50 post  K2 (fun a0 a1 w => wp_X6_meet_20 post  K2 n9 a0 a1 w) y2 y3 w7) w y2 y3)) w y2 y3))
set_option maxHeartbeats 4000000 in
set_option maxRecDepth 100000 in
theorem t_X6_meet_20 {p : Program} {l : Launch} {e : Env} {s : State} {m : MethodId} {args : Array Value} {below : List Frame} {meth : Method} {c : Code} {D : va_G} {tc : Nat → ClassId} {h0 : Nat} {sa : Nat → Nat}  {ad : Nat → Nat} {A : Nat → Prop} {post : Dt → Prop} {K2 : Int32 → Dt → Prop} (X : Cx p c s m meth cX6_meet 4 RX6 D tc) (hr : meth.sig.returnType = (Option.none : Option FieldType)) (hT : ST h0 sa s s.heap) (hA0 : ∀ q, A q → h0 ≤ q)   (hK2 : ∀ (y2 : Int32) (w : Dt) (H : Heap) (locs : List Loc) (ls : Array Slot), K2 y2 w → (Blk D tc A (shW ad) ad w H) → va_S A s.heap H locs → lv_has ls 4 [(0, .ref (ad 7)), (1, .ref (ad 19)), (2, .int y2)] → W p l e rm_X6_meet s m args below meth c H locs 0 0 (MQ below (QB post (fun (u : Dt) (H1 : Heap) => Blk D tc A (shW ad) ad u H1) (fun _ : Dt => none) A) args s rm_X6_meet.cells rm_X6_meet.slots A) (F0 m 2 ls [])) : ∀ (n9 : Nat) (y2 : Int32) (y3 : Int32) (w : Dt) (H : Heap) (locs : List Loc) (ls : Array Slot), wp_X6_meet_20 post  K2 n9 y2 y3 w → (Blk D tc A (shW ad) ad w H) → va_S A s.heap H locs → lv_has ls 4 [(0, .ref (ad 7)), (1, .ref (ad 19)), (2, .int y2), (3, .int y3)] → W p l e rm_X6_meet s m args below meth c H locs 0 0 (MQ below (QB post (fun (u : Dt) (H1 : Heap) => Blk D tc A (shW ad) ad u H1) (fun _ : Dt => none) A) args s rm_X6_meet.cells rm_X6_meet.slots A) (F0 m 20 ls []) := by
  have hx := X.1
  have hb := X.2.1
  have hown := X.2.2.2.1
  have hU := X.2.2.2.2.1.1
  intro n9
  induction n9 with
  | zero =>
    intro y2 y3 w H locs ls hw
    exact hw.elim
  | succ n9 ih =>
    intro y2 y3 w H locs ls hw hBw hS hl
    unfold wp_X6_meet_20 at hw
    refine lv_iload_n hx hb dX6_meet_20 rfl (lv_at hl 3 rfl) ?_
    refine lv_aload_n hx hb dX6_meet_21 rfl (lv_at hl 0 rfl) ?_
    refine g_get X dX6_meet_22 f_X6_35 hBw 7 (v := .int (w 7 0)) rfl rfl ?_
    refine lv_icmp_ge (tgt := 56) hx hb dX6_meet_25 (by decide) (fun c3 => ?_) (fun c3 => ?_)
    · have hw := hw.1 c3
      exact t_X6_meet_56 X hr hT hA0  hK2 _ _ _ _ _ hw hBw hS (lv_sub hl [0, 1, 2] rfl)
    · have hw := hw.2 c3
      refine lv_iload_n hx hb dX6_meet_28 rfl (lv_at hl 3 rfl) ?_
      refine lv_bipush (v := 12) hx hb dX6_meet_29 (by decide) ?_
      refine lv_icmp_ge (tgt := 56) hx hb dX6_meet_31 (by decide) (fun c4 => ?_) (fun c4 => ?_)
      · have hw := hw.1 c4
        exact t_X6_meet_56 X hr hT hA0  hK2 _ _ _ _ _ hw hBw hS (lv_sub hl [0, 1, 2] rfl)
      · have hw := hw.2 c4
        refine lv_aload_n hx hb dX6_meet_34 rfl (lv_at hl 0 rfl) ?_
        refine lv_iload_n hx hb dX6_meet_35 rfl (lv_at hl 2 rfl) ?_
        refine lv_iload_n hx hb dX6_meet_36 rfl (lv_at hl 3 rfl) ?_
        refine g_after (st0 := .int y3 :: .int y2 :: .ref (ad 7) :: []) (rest := []) (g_V X m_X6_66 (c_X6_doMeet l D tc h0 sa y2 y3 _ hBw hw) (hBw.recv X 7 rfl (q := (RX6, TX6, 8)) rfl) hT hS hA0 dX6_meet_37 hl.1 rfl rfl ⟨Nat.le_of_ble_eq_true rfl, Nat.le_of_ble_eq_true rfl⟩ (Nat.le_of_ble_eq_true rfl) ⟨Nat.le_of_ble_eq_true rfl, Nat.le_of_ble_eq_true rfl⟩) hS (fun _ h => h.elim) (fun u => .int u :: []) (fun _ => rfl) (fun u H9 locs hw hP9 hz9 hk9 hS => ?_)
        have e9 : H9 = _ := hP9
        rw [e9] at hS ⊢
        obtain ⟨r5, rfl⟩ : ∃ z, z = u := ⟨_, rfl⟩
        try dsimp only at hw
        refine lv_if_eq (tgt := 50) hx hb dX6_meet_40 (by decide) (fun c6 => ?_) (fun c6 => ?_)
        · have hw := hw.1 c6
          exact t_X6_meet_50 X hr hT hA0  hK2 ih _ _ _ _ _ _ hw hBw hS (lv_sub hl [0, 1, 2, 3] rfl)
        · have hw := hw.2 c6
          refine lv_aload_n hx hb dX6_meet_43 rfl (lv_at hl 0 rfl) ?_
          refine lv_iload_n hx hb dX6_meet_44 rfl (lv_at hl 2 rfl) ?_
          refine lv_iload_n hx hb dX6_meet_45 rfl (lv_at hl 3 rfl) ?_
          refine lv_aload_n hx hb dX6_meet_46 rfl (lv_at hl 1 rfl) ?_
          refine g_after (st0 := .ref (ad 19) :: .int y3 :: .int y2 :: .ref (ad 7) :: []) (rest := []) (g_V X m_X6_70 (c_X6_merge l D tc h0 sa y2 y3 _ hBw hA0 hw) (hBw.recv X 7 rfl (q := (RX6, TX6, 8)) rfl) hT hS hA0 dX6_meet_47 hl.1 rfl rfl ⟨Nat.le_of_ble_eq_true rfl, Nat.le_of_ble_eq_true rfl⟩ (Nat.le_of_ble_eq_true rfl) ⟨Nat.le_of_ble_eq_true rfl, Nat.le_of_ble_eq_true rfl⟩) hS (fun _ h => h) (fun u => []) (fun _ => rfl) (fun u H9 locs hw hP9 hz9 hk9 hS => ?_)
          obtain ⟨w7, rfl⟩ : ∃ z, z = u := ⟨_, rfl⟩
          have hBw : Blk D tc A (shW ad) ad w7 H9 := hP9
          try dsimp only at hw
          exact t_X6_meet_50 X hr hT hA0  hK2 ih _ _ _ _ _ _ hw hBw hS (lv_sub hl [0, 1, 2, 3] rfl)
def wp_X6_meet_2 (post : Dt → Prop)   : Nat → Int32 → Dt → Prop
  | 0, _, _ => False
  | n9 + 1, y2, w => ((w 7 0) ≤ y2 → wp_X6_meet_62 post   w) ∧ (¬ (w 7 0) ≤ y2 → (12 ≤ y2 → wp_X6_meet_62 post   w) ∧ (¬ 12 ≤ y2 → ∃ k9 : Nat, wp_X6_meet_20 post  (fun a0 w => wp_X6_meet_2 post   n9 a0 w) k9 y2 (y2 + 1) w))
set_option maxHeartbeats 4000000 in
set_option maxRecDepth 100000 in
theorem t_X6_meet_2 {p : Program} {l : Launch} {e : Env} {s : State} {m : MethodId} {args : Array Value} {below : List Frame} {meth : Method} {c : Code} {D : va_G} {tc : Nat → ClassId} {h0 : Nat} {sa : Nat → Nat}  {ad : Nat → Nat} {A : Nat → Prop} {post : Dt → Prop}  (X : Cx p c s m meth cX6_meet 4 RX6 D tc) (hr : meth.sig.returnType = (Option.none : Option FieldType)) (hT : ST h0 sa s s.heap) (hA0 : ∀ q, A q → h0 ≤ q)    : ∀ (n9 : Nat) (y2 : Int32) (w : Dt) (H : Heap) (locs : List Loc) (ls : Array Slot), wp_X6_meet_2 post   n9 y2 w → (Blk D tc A (shW ad) ad w H) → va_S A s.heap H locs → lv_has ls 4 [(0, .ref (ad 7)), (1, .ref (ad 19)), (2, .int y2)] → W p l e rm_X6_meet s m args below meth c H locs 0 0 (MQ below (QB post (fun (u : Dt) (H1 : Heap) => Blk D tc A (shW ad) ad u H1) (fun _ : Dt => none) A) args s rm_X6_meet.cells rm_X6_meet.slots A) (F0 m 2 ls []) := by
  have hx := X.1
  have hb := X.2.1
  have hown := X.2.2.2.1
  have hU := X.2.2.2.2.1.1
  intro n9
  induction n9 with
  | zero =>
    intro y2 w H locs ls hw
    exact hw.elim
  | succ n9 ih =>
    intro y2 w H locs ls hw hBw hS hl
    unfold wp_X6_meet_2 at hw
    refine lv_iload_n hx hb dX6_meet_2 rfl (lv_at hl 2 rfl) ?_
    refine lv_aload_n hx hb dX6_meet_3 rfl (lv_at hl 0 rfl) ?_
    refine g_get X dX6_meet_4 f_X6_35 hBw 7 (v := .int (w 7 0)) rfl rfl ?_
    refine lv_icmp_ge (tgt := 62) hx hb dX6_meet_7 (by decide) (fun c1 => ?_) (fun c1 => ?_)
    · have hw := hw.1 c1
      exact t_X6_meet_62 X hr hT hA0   _ _ _ _ hw hBw hS (lv_sub hl [] rfl)
    · have hw := hw.2 c1
      refine lv_iload_n hx hb dX6_meet_10 rfl (lv_at hl 2 rfl) ?_
      refine lv_bipush (v := 12) hx hb dX6_meet_11 (by decide) ?_
      refine lv_icmp_ge (tgt := 62) hx hb dX6_meet_13 (by decide) (fun c2 => ?_) (fun c2 => ?_)
      · have hw := hw.1 c2
        exact t_X6_meet_62 X hr hT hA0   _ _ _ _ hw hBw hS (lv_sub hl [] rfl)
      · have hw := hw.2 c2
        refine lv_iload_n hx hb dX6_meet_16 rfl (lv_at hl 2 rfl) ?_
        refine lv_iconst (v := 1) hx hb dX6_meet_17 (by decide) ?_
        refine lv_iadd hx hb dX6_meet_18 ?_
        refine lv_istore_n (lv' := [(3, .int (y2 + 1)), (0, .ref (ad 7)), (1, .ref (ad 19)), (2, .int y2)]) hx hb dX6_meet_19 rfl hl (by decide) rfl (fun ls hl => ?_)
        obtain ⟨k9, hw⟩ := hw
        exact t_X6_meet_20 X hr hT hA0  ih k9 _ _ _ _ _ _ hw hBw hS (lv_sub hl [1, 2, 3, 0] rfl)
def wp_X6_meet (post : Dt → Prop) (w : Dt) : Prop := ∃ k9 : Nat, wp_X6_meet_2 post   k9 0 w
set_option maxHeartbeats 4000000 in
set_option maxRecDepth 100000 in
theorem c_X6_meet (l : Launch) (D : va_G) (tc : Nat → ClassId) (h0 : Nat) (sa : Nat → Nat)  (H0 : Heap) {ad : Nat → Nat} {A : Nat → Prop} {w : Dt} (hBw : Blk D tc A (shW ad) ad w H0) (hA0 : ∀ q, A q → h0 ≤ q) {post : Dt → Prop} (hw : wp_X6_meet post w) : MB l yX6_meet cX6_meet 4 (Option.none : Option FieldType) rm_X6_meet A [.ref (ad 7), .ref (ad 19)] D tc h0 sa H0 post (fun (u : Dt) (H1 : Heap) => Blk D tc A (shW ad) ad u H1) (fun _ : Dt => none) := by
  refine MB.of RX6 [(0, .ref (ad 7)), (1, .ref (ad 19))] (by decide +kernel) rfl (Nat.le_of_ble_eq_true rfl) rfl ?_
  intro p e s m below meth c ls X hr hin hT hH hS hl
  subst hH
  have hx := X.1
  have hb := X.2.1
  have hown := X.2.2.2.1
  have hU := X.2.2.2.2.1.1
  unfold wp_X6_meet at hw
  refine lv_iconst (v := 0) hx hb dX6_meet_0 (by decide) ?_
  refine lv_istore_n (lv' := [(2, .int 0), (0, .ref (ad 7)), (1, .ref (ad 19))]) hx hb dX6_meet_1 rfl hl (by decide) rfl (fun ls hl => ?_)
  obtain ⟨k9, hw⟩ := hw
  exact t_X6_meet_2 X hr hT hA0   k9 _ _ _ _ _ hw hBw hS (lv_sub hl [1, 2, 0] rfl)
abbrev rm_X6_tear : Room := { frames := 2, cells := 0, slots := 0, locals := 45 }
def wp_X6_tear_93 (post : Dt → Prop)   (w : Dt) : Prop := post w
set_option maxHeartbeats 4000000 in
set_option maxRecDepth 100000 in
theorem t_X6_tear_93 {p : Program} {l : Launch} {e : Env} {s : State} {m : MethodId} {args : Array Value} {below : List Frame} {meth : Method} {c : Code} {D : va_G} {tc : Nat → ClassId} {h0 : Nat} {sa : Nat → Nat}  {ad : Nat → Nat} {A : Nat → Prop} {post : Dt → Prop}  (X : Cx p c s m meth cX6_tear 4 RX6 D tc) (hr : meth.sig.returnType = (Option.none : Option FieldType)) (hT : ST h0 sa s s.heap) (hA0 : ∀ q, A q → h0 ≤ q)    : ∀ (w : Dt) (H : Heap) (locs : List Loc) (ls : Array Slot), wp_X6_tear_93 post   w → (Blk D tc A (shW ad) ad w H) → va_S A s.heap H locs → lv_has ls 4 [] → W p l e rm_X6_tear s m args below meth c H locs 0 0 (MQ below (QB post (fun (u : Dt) (H1 : Heap) => Blk D tc A (shW ad) ad u H1) (fun _ : Dt => none) A) args s rm_X6_tear.cells rm_X6_tear.slots A) (F0 m 93 ls []) := by
  have hx := X.1
  have hb := X.2.1
  have hown := X.2.2.2.1
  have hU := X.2.2.2.2.1.1
  intro w H locs ls hw hBw hS hl
  unfold wp_X6_tear_93 at hw
  exact e_v X hr dX6_tear_93 hS (w) rfl hw hBw ⟨Nat.le_of_ble_eq_true rfl, Nat.le_of_ble_eq_true rfl⟩
def wp_X6_tear_87 (post : Dt → Prop)  (K2 : Int32 → Dt → Prop) (y3 : Int32) (w : Dt) : Prop := K2 (y3 + 1) w
set_option maxHeartbeats 4000000 in
set_option maxRecDepth 100000 in
theorem t_X6_tear_87 {p : Program} {l : Launch} {e : Env} {s : State} {m : MethodId} {args : Array Value} {below : List Frame} {meth : Method} {c : Code} {D : va_G} {tc : Nat → ClassId} {h0 : Nat} {sa : Nat → Nat}  {ad : Nat → Nat} {A : Nat → Prop} {post : Dt → Prop} {K2 : Int32 → Dt → Prop} (X : Cx p c s m meth cX6_tear 4 RX6 D tc) (hr : meth.sig.returnType = (Option.none : Option FieldType)) (hT : ST h0 sa s s.heap) (hA0 : ∀ q, A q → h0 ≤ q)   (hK2 : ∀ (y3 : Int32) (w : Dt) (H : Heap) (locs : List Loc) (ls : Array Slot), K2 y3 w → (Blk D tc A (shW ad) ad w H) → va_S A s.heap H locs → lv_has ls 4 [(0, .ref (ad 7)), (1, .ref (ad 5)), (2, .ref (ad 19)), (3, .int y3)] → W p l e rm_X6_tear s m args below meth c H locs 0 0 (MQ below (QB post (fun (u : Dt) (H1 : Heap) => Blk D tc A (shW ad) ad u H1) (fun _ : Dt => none) A) args s rm_X6_tear.cells rm_X6_tear.slots A) (F0 m 2 ls [])) : ∀ (y3 : Int32) (w : Dt) (H : Heap) (locs : List Loc) (ls : Array Slot), wp_X6_tear_87 post  K2 y3 w → (Blk D tc A (shW ad) ad w H) → va_S A s.heap H locs → lv_has ls 4 [(0, .ref (ad 7)), (1, .ref (ad 5)), (2, .ref (ad 19)), (3, .int y3)] → W p l e rm_X6_tear s m args below meth c H locs 0 0 (MQ below (QB post (fun (u : Dt) (H1 : Heap) => Blk D tc A (shW ad) ad u H1) (fun _ : Dt => none) A) args s rm_X6_tear.cells rm_X6_tear.slots A) (F0 m 87 ls []) := by
  have hx := X.1
  have hb := X.2.1
  have hown := X.2.2.2.1
  have hU := X.2.2.2.2.1.1
  intro y3 w H locs ls hw hBw hS hl
  unfold wp_X6_tear_87 at hw
  refine lv_iinc (lv' := [(3, .int (y3 + 1)), (0, .ref (ad 7)), (1, .ref (ad 5)), (2, .ref (ad 19))]) hx hb dX6_tear_87 hl (k := 3) rfl (by rfl) (by decide) rfl (fun ls hl => ?_)
  refine lv_goto (tgt := 2) hx hb dX6_tear_90 (by decide) ?_
  exact hK2 _ _ _ _ _ hw hBw hS (lv_sub hl [1, 2, 3, 0] rfl)
def wp_X6_tear_2 (post : Dt → Prop)   : Nat → Int32 → Dt → Prop
  | 0, _, _ => False
  | n9 + 1, y3, w => ((w 7 0) ≤ y3 → wp_X6_tear_93 post   w) ∧ (¬ (w 7 0) ≤ y3 → (12 ≤ y3 → wp_X6_tear_93 post   w) ∧ (¬ 12 ≤ y3 → vp_in y3 12 ∧ (((w 13 y3.toNatClampNeg) = 0 → wp_X6_tear_87 post  (fun a0 w => wp_X6_tear_2 post   n9 a0 w) y3 w) ∧ (¬ (w 13 y3.toNatClampNeg) = 0 → wp_X0_shearOf (fun r5 => (r5 ≤ 100 → wp_X6_tear_87 post  (fun a0 w => wp_X6_tear_2 post   n9 a0 w) y3 w) ∧ (¬ r5 ≤ 100 → ∀ w7 : Dt, w7 = up2 w 10 y3.toNatClampNeg ((w 10 y3.toNatClampNeg) - (if 1 < ((w 10 y3.toNatClampNeg) / 10) then ((w 10 y3.toNatClampNeg) / 10) else 1)) → ((10 ≤ (w7 10 y3.toNatClampNeg) → wp_X6_tear_87 post  (fun a0 w => wp_X6_tear_2 post   n9 a0 w) y3 w7) ∧ (¬ 10 ≤ (w7 10 y3.toNatClampNeg) → ∀ w9 : Dt, w9 = up2 w7 13 y3.toNatClampNeg 0 → (wp_X3_write (fun w10 => wp_X6_tear_87 post  (fun a0 w => wp_X6_tear_2 post   n9 a0 w) y3 w10) w9 100 y3))))) w (w 8 y3.toNatClampNeg)))))
set_option maxHeartbeats 4000000 in
set_option maxRecDepth 100000 in
theorem t_X6_tear_2 {p : Program} {l : Launch} {e : Env} {s : State} {m : MethodId} {args : Array Value} {below : List Frame} {meth : Method} {c : Code} {D : va_G} {tc : Nat → ClassId} {h0 : Nat} {sa : Nat → Nat}  {ad : Nat → Nat} {A : Nat → Prop} {post : Dt → Prop}  (X : Cx p c s m meth cX6_tear 4 RX6 D tc) (hr : meth.sig.returnType = (Option.none : Option FieldType)) (hT : ST h0 sa s s.heap) (hA0 : ∀ q, A q → h0 ≤ q)    : ∀ (n9 : Nat) (y3 : Int32) (w : Dt) (H : Heap) (locs : List Loc) (ls : Array Slot), wp_X6_tear_2 post   n9 y3 w → (Blk D tc A (shW ad) ad w H) → va_S A s.heap H locs → lv_has ls 4 [(0, .ref (ad 7)), (1, .ref (ad 5)), (2, .ref (ad 19)), (3, .int y3)] → W p l e rm_X6_tear s m args below meth c H locs 0 0 (MQ below (QB post (fun (u : Dt) (H1 : Heap) => Blk D tc A (shW ad) ad u H1) (fun _ : Dt => none) A) args s rm_X6_tear.cells rm_X6_tear.slots A) (F0 m 2 ls []) := by
  have hx := X.1
  have hb := X.2.1
  have hown := X.2.2.2.1
  have hU := X.2.2.2.2.1.1
  intro n9
  induction n9 with
  | zero =>
    intro y3 w H locs ls hw
    exact hw.elim
  | succ n9 ih =>
    intro y3 w H locs ls hw hBw hS hl
    unfold wp_X6_tear_2 at hw
    refine lv_iload_n hx hb dX6_tear_2 rfl (lv_at hl 3 rfl) ?_
    refine lv_aload_n hx hb dX6_tear_3 rfl (lv_at hl 0 rfl) ?_
    refine g_get X dX6_tear_4 f_X6_35 hBw 7 (v := .int (w 7 0)) rfl rfl ?_
    refine lv_icmp_ge (tgt := 93) hx hb dX6_tear_7 (by decide) (fun c1 => ?_) (fun c1 => ?_)
    · have hw := hw.1 c1
      exact t_X6_tear_93 X hr hT hA0   _ _ _ _ hw hBw hS (lv_sub hl [] rfl)
    · have hw := hw.2 c1
      refine lv_iload_n hx hb dX6_tear_10 rfl (lv_at hl 3 rfl) ?_
      refine lv_bipush (v := 12) hx hb dX6_tear_11 (by decide) ?_
      refine lv_icmp_ge (tgt := 93) hx hb dX6_tear_13 (by decide) (fun c2 => ?_) (fun c2 => ?_)
      · have hw := hw.1 c2
        exact t_X6_tear_93 X hr hT hA0   _ _ _ _ hw hBw hS (lv_sub hl [] rfl)
      · have hw := hw.2 c2
        refine lv_aload_n hx hb dX6_tear_16 rfl (lv_at hl 0 rfl) ?_
        refine g_get X dX6_tear_17 f_X6_28 hBw 7 (v := .ref (ad 13)) rfl rfl ?_
        refine lv_iload_n hx hb dX6_tear_20 rfl (lv_at hl 3 rfl) ?_
        obtain ⟨o3, hw⟩ := hw
        refine g_zald X dX6_tear_21 hBw 13 rfl o3 rfl ?_
        refine lv_if_eq (tgt := 87) hx hb dX6_tear_22 (by decide) (fun c4 => ?_) (fun c4 => ?_)
        · have hw := hw.1 c4
          exact t_X6_tear_87 X hr hT hA0  ih _ _ _ _ _ hw hBw hS (lv_sub hl [0, 1, 2, 3] rfl)
        · have hw := hw.2 c4
          refine lv_aload_n hx hb dX6_tear_25 rfl (lv_at hl 1 rfl) ?_
          refine lv_aload_n hx hb dX6_tear_26 rfl (lv_at hl 0 rfl) ?_
          refine g_get X dX6_tear_27 f_X6_9 hBw 7 (v := .ref (ad 8)) rfl rfl ?_
          refine lv_iload_n hx hb dX6_tear_30 rfl (lv_at hl 3 rfl) ?_
          refine g_iald X dX6_tear_31 hBw 8 rfl o3 rfl ?_
          refine g_after (st0 := .int (w 8 y3.toNatClampNeg) :: .ref (ad 5) :: []) (rest := []) (g_V X m_X6_89 (c_X0_shearOf l D tc h0 sa (w 8 y3.toNatClampNeg) _ hBw hw) (hBw.recv X 5 rfl (q := (RX0, TX0, 4)) rfl) hT hS hA0 dX6_tear_32 hl.1 rfl rfl ⟨Nat.le_of_ble_eq_true rfl, Nat.le_of_ble_eq_true rfl⟩ (Nat.le_of_ble_eq_true rfl) ⟨Nat.le_of_ble_eq_true rfl, Nat.le_of_ble_eq_true rfl⟩) hS (fun _ h => h.elim) (fun u => .int u :: []) (fun _ => rfl) (fun u H9 locs hw hP9 hz9 hk9 hS => ?_)
          have e9 : H9 = _ := hP9
          rw [e9] at hS ⊢
          obtain ⟨r5, rfl⟩ : ∃ z, z = u := ⟨_, rfl⟩
          try dsimp only at hw
          refine lv_bipush (v := 100) hx hb dX6_tear_35 (by decide) ?_
          refine lv_icmp_le (tgt := 87) hx hb dX6_tear_37 (by decide) (fun c6 => ?_) (fun c6 => ?_)
          · have hw := hw.1 c6
            exact t_X6_tear_87 X hr hT hA0  ih _ _ _ _ _ hw hBw hS (lv_sub hl [0, 1, 2, 3] rfl)
          · have hw := hw.2 c6
            refine lv_aload_n hx hb dX6_tear_40 rfl (lv_at hl 0 rfl) ?_
            refine g_get X dX6_tear_41 f_X6_18 hBw 7 (v := .ref (ad 10)) rfl rfl ?_
            refine lv_iload_n hx hb dX6_tear_44 rfl (lv_at hl 3 rfl) ?_
            refine lv_dup2_11 hx hb dX6_tear_45 rfl rfl ?_
            refine g_iald X dX6_tear_46 hBw 10 rfl o3 rfl ?_
            refine lv_iconst (v := 1) hx hb dX6_tear_47 (by decide) ?_
            refine lv_aload_n hx hb dX6_tear_48 rfl (lv_at hl 0 rfl) ?_
            refine g_get X dX6_tear_49 f_X6_18 hBw 7 (v := .ref (ad 10)) rfl rfl ?_
            refine lv_iload_n hx hb dX6_tear_52 rfl (lv_at hl 3 rfl) ?_
            refine g_iald X dX6_tear_53 hBw 10 rfl o3 rfl ?_
            refine lv_bipush (v := 10) hx hb dX6_tear_54 (by decide) ?_
            refine lv_idiv hx hb dX6_tear_56 (by decide) ?_
            refine g_max X hl.1 dX6_tear_57 w_884 w_604 w_21 w_605 ⟨Nat.le_of_ble_eq_true rfl, Nat.le_of_ble_eq_true rfl, Nat.le_of_ble_eq_true rfl, Nat.le_of_ble_eq_true rfl⟩ ?_
            refine lv_isub hx hb dX6_tear_60 ?_
            refine g_iast X dX6_tear_61 hBw hS 10 rfl o3 rfl  (fun H locs hBw oq hS => ?_)
            obtain ⟨w7, ew7⟩ : ∃ z : Dt, z = up2 w 10 y3.toNatClampNeg ((w 10 y3.toNatClampNeg) - (if 1 < ((w 10 y3.toNatClampNeg) / 10) then ((w 10 y3.toNatClampNeg) / 10) else 1)) := ⟨_, rfl⟩
            rw [← ew7] at hBw
            have hw := hw w7 ew7
            refine lv_aload_n hx hb dX6_tear_62 rfl (lv_at hl 0 rfl) ?_
            refine g_get X dX6_tear_63 f_X6_18 hBw 7 (v := .ref (ad 10)) rfl rfl ?_
            refine lv_iload_n hx hb dX6_tear_66 rfl (lv_at hl 3 rfl) ?_
            refine g_iald X dX6_tear_67 hBw 10 rfl o3 rfl ?_
            refine lv_bipush (v := 10) hx hb dX6_tear_68 (by decide) ?_
            refine lv_icmp_ge (tgt := 87) hx hb dX6_tear_70 (by decide) (fun c8 => ?_) (fun c8 => ?_)
            · have hw := hw.1 c8
              exact t_X6_tear_87 X hr hT hA0  ih _ _ _ _ _ hw hBw hS (lv_sub hl [0, 1, 2, 3] rfl)
            · have hw := hw.2 c8
              refine lv_aload_n hx hb dX6_tear_73 rfl (lv_at hl 0 rfl) ?_
              refine g_get X dX6_tear_74 f_X6_28 hBw 7 (v := .ref (ad 13)) rfl rfl ?_
              refine lv_iload_n hx hb dX6_tear_77 rfl (lv_at hl 3 rfl) ?_
              refine lv_iconst (v := 0) hx hb dX6_tear_78 (by decide) ?_
              refine g_zast X dX6_tear_79 hBw hS 13 rfl o3 rfl rfl (fun H locs hBw oq hS => ?_)
              obtain ⟨w9, ew9⟩ : ∃ z : Dt, z = up2 w7 13 y3.toNatClampNeg 0 := ⟨_, rfl⟩
              rw [← ew9] at hBw
              have hw := hw w9 ew9
              refine lv_aload_n hx hb dX6_tear_80 rfl (lv_at hl 2 rfl) ?_
              refine lv_bipush (v := 100) hx hb dX6_tear_81 (by decide) ?_
              refine lv_iload_n hx hb dX6_tear_83 rfl (lv_at hl 3 rfl) ?_
              refine g_after (st0 := .int y3 :: .int 100 :: .ref (ad 19) :: []) (rest := []) (g_V X m_X6_83 (c_X3_write l D tc h0 sa 100 y3 _ hBw hA0 hw) (hBw.recv X 19 rfl (q := (RX3, TX3, 3)) rfl) hT hS hA0 dX6_tear_84 hl.1 rfl rfl ⟨Nat.le_of_ble_eq_true rfl, Nat.le_of_ble_eq_true rfl⟩ (Nat.le_of_ble_eq_true rfl) ⟨Nat.le_of_ble_eq_true rfl, Nat.le_of_ble_eq_true rfl⟩) hS (fun _ h => h) (fun u => []) (fun _ => rfl) (fun u H9 locs hw hP9 hz9 hk9 hS => ?_)
              obtain ⟨w10, rfl⟩ : ∃ z, z = u := ⟨_, rfl⟩
              have hBw : Blk D tc A (shW ad) ad w10 H9 := hP9
              try dsimp only at hw
              exact t_X6_tear_87 X hr hT hA0  ih _ _ _ _ _ hw hBw hS (lv_sub hl [0, 1, 2, 3] rfl)
def wp_X6_tear (post : Dt → Prop) (w : Dt) : Prop := ∃ k9 : Nat, wp_X6_tear_2 post   k9 0 w
set_option maxHeartbeats 4000000 in
set_option maxRecDepth 100000 in
theorem c_X6_tear (l : Launch) (D : va_G) (tc : Nat → ClassId) (h0 : Nat) (sa : Nat → Nat)  (H0 : Heap) {ad : Nat → Nat} {A : Nat → Prop} {w : Dt} (hBw : Blk D tc A (shW ad) ad w H0) (hA0 : ∀ q, A q → h0 ≤ q) {post : Dt → Prop} (hw : wp_X6_tear post w) : MB l yX6_tear cX6_tear 4 (Option.none : Option FieldType) rm_X6_tear A [.ref (ad 7), .ref (ad 5), .ref (ad 19)] D tc h0 sa H0 post (fun (u : Dt) (H1 : Heap) => Blk D tc A (shW ad) ad u H1) (fun _ : Dt => none) := by
  refine MB.of RX6 [(0, .ref (ad 7)), (1, .ref (ad 5)), (2, .ref (ad 19))] (by decide +kernel) rfl (Nat.le_of_ble_eq_true rfl) rfl ?_
  intro p e s m below meth c ls X hr hin hT hH hS hl
  subst hH
  have hx := X.1
  have hb := X.2.1
  have hown := X.2.2.2.1
  have hU := X.2.2.2.2.1.1
  unfold wp_X6_tear at hw
  refine lv_iconst (v := 0) hx hb dX6_tear_0 (by decide) ?_
  refine lv_istore_n (lv' := [(3, .int 0), (0, .ref (ad 7)), (1, .ref (ad 5)), (2, .ref (ad 19))]) hx hb dX6_tear_1 rfl hl (by decide) rfl (fun ls hl => ?_)
  obtain ⟨k9, hw⟩ := hw
  exact t_X6_tear_2 X hr hT hA0   k9 _ _ _ _ _ hw hBw hS (lv_sub hl [1, 2, 3, 0] rfl)
abbrev rm_X6_split : Room := { frames := 1, cells := 0, slots := 0, locals := 24 }
def wp_X6_split_110 (post : Dt → Prop)   (w : Dt) : Prop := post w
set_option maxHeartbeats 4000000 in
set_option maxRecDepth 100000 in
theorem t_X6_split_110 {p : Program} {l : Launch} {e : Env} {s : State} {m : MethodId} {args : Array Value} {below : List Frame} {meth : Method} {c : Code} {D : va_G} {tc : Nat → ClassId} {h0 : Nat} {sa : Nat → Nat}  {ad : Nat → Nat} {A : Nat → Prop} {post : Dt → Prop}  (X : Cx p c s m meth cX6_split 7 RX6 D tc) (hr : meth.sig.returnType = (Option.none : Option FieldType)) (hT : ST h0 sa s s.heap) (hA0 : ∀ q, A q → h0 ≤ q)    : ∀ (w : Dt) (H : Heap) (locs : List Loc) (ls : Array Slot), wp_X6_split_110 post   w → (Blk D tc A (shW ad) ad w H) → va_S A s.heap H locs → lv_has ls 7 [] → W p l e rm_X6_split s m args below meth c H locs 0 0 (MQ below (QB post (fun (u : Dt) (H1 : Heap) => Blk D tc A (shW ad) ad u H1) (fun _ : Dt => none) A) args s rm_X6_split.cells rm_X6_split.slots A) (F0 m 110 ls []) := by
  have hx := X.1
  have hb := X.2.1
  have hown := X.2.2.2.1
  have hU := X.2.2.2.2.1.1
  intro w H locs ls hw hBw hS hl
  unfold wp_X6_split_110 at hw
  exact e_v X hr dX6_split_110 hS (w) rfl hw hBw ⟨Nat.le_of_ble_eq_true rfl, Nat.le_of_ble_eq_true rfl⟩
def wp_X6_split_104 (post : Dt → Prop)  (K2 : Int32 → Dt → Prop) (y2 : Int32) (w : Dt) : Prop := K2 (y2 + 1) w
set_option maxHeartbeats 4000000 in
set_option maxRecDepth 100000 in
theorem t_X6_split_104 {p : Program} {l : Launch} {e : Env} {s : State} {m : MethodId} {args : Array Value} {below : List Frame} {meth : Method} {c : Code} {D : va_G} {tc : Nat → ClassId} {h0 : Nat} {sa : Nat → Nat}  {ad : Nat → Nat} {A : Nat → Prop} {post : Dt → Prop} {K2 : Int32 → Dt → Prop} (X : Cx p c s m meth cX6_split 7 RX6 D tc) (hr : meth.sig.returnType = (Option.none : Option FieldType)) (hT : ST h0 sa s s.heap) (hA0 : ∀ q, A q → h0 ≤ q)   (hK2 : ∀ (y2 : Int32) (w : Dt) (H : Heap) (locs : List Loc) (ls : Array Slot), K2 y2 w → (Blk D tc A (shW ad) ad w H) → va_S A s.heap H locs → lv_has ls 7 [(0, .ref (ad 7)), (1, .ref (ad 19)), (2, .int y2)] → W p l e rm_X6_split s m args below meth c H locs 0 0 (MQ below (QB post (fun (u : Dt) (H1 : Heap) => Blk D tc A (shW ad) ad u H1) (fun _ : Dt => none) A) args s rm_X6_split.cells rm_X6_split.slots A) (F0 m 2 ls [])) : ∀ (y2 : Int32) (w : Dt) (H : Heap) (locs : List Loc) (ls : Array Slot), wp_X6_split_104 post  K2 y2 w → (Blk D tc A (shW ad) ad w H) → va_S A s.heap H locs → lv_has ls 7 [(0, .ref (ad 7)), (1, .ref (ad 19)), (2, .int y2)] → W p l e rm_X6_split s m args below meth c H locs 0 0 (MQ below (QB post (fun (u : Dt) (H1 : Heap) => Blk D tc A (shW ad) ad u H1) (fun _ : Dt => none) A) args s rm_X6_split.cells rm_X6_split.slots A) (F0 m 104 ls []) := by
  have hx := X.1
  have hb := X.2.1
  have hown := X.2.2.2.1
  have hU := X.2.2.2.2.1.1
  intro y2 w H locs ls hw hBw hS hl
  unfold wp_X6_split_104 at hw
  refine lv_iinc (lv' := [(2, .int (y2 + 1)), (0, .ref (ad 7)), (1, .ref (ad 19))]) hx hb dX6_split_104 hl (k := 2) rfl (by rfl) (by decide) rfl (fun ls hl => ?_)
  refine lv_goto (tgt := 2) hx hb dX6_split_107 (by decide) ?_
  exact hK2 _ _ _ _ _ hw hBw hS (lv_sub hl [1, 2, 0] rfl)
def wp_X6_split_2 (post : Dt → Prop)   : Nat → Int32 → Dt → Prop
  | 0, _, _ => False
  | n9 + 1, y2, w => ((w 7 0) ≤ y2 → wp_X6_split_110 post   w) ∧ (¬ (w 7 0) ≤ y2 → (12 ≤ y2 → wp_X6_split_110 post   w) ∧ (¬ 12 ≤ y2 → vp_in y2 12 ∧ (((w 13 y2.toNatClampNeg) = 0 → wp_X6_split_104 post  (fun a0 w => wp_X6_split_2 post   n9 a0 w) y2 w) ∧ (¬ (w 13 y2.toNatClampNeg) = 0 → ((w 10 y2.toNatClampNeg) ≤ 300 → wp_X6_split_104 post  (fun a0 w => wp_X6_split_2 post   n9 a0 w) y2 w) ∧ (¬ (w 10 y2.toNatClampNeg) ≤ 300 → (12 ≤ (w 7 0) → wp_X6_split_104 post  (fun a0 w => wp_X6_split_2 post   n9 a0 w) y2 w) ∧ (¬ 12 ≤ (w 7 0) → ∀ v7 : Int32, v7 = ((w 10 y2.toNatClampNeg) / 3) → (wp_J9_floorMod_7cf53 (fun r8 => wp_X6_begin (fun r9 w10 => ∀ w11 : Dt, w11 = up2 w10 10 y2.toNatClampNeg ((w10 10 y2.toNatClampNeg) - v7) → (wp_X3_write (fun w12 => wp_X6_split_104 post  (fun a0 w => wp_X6_split_2 post   n9 a0 w) y2 w12) w11 115 r9)) w (w 8 y2.toNatClampNeg) r8 v7) ((w 9 y2.toNatClampNeg) + (w 10 y2.toNatClampNeg)) 3600)))))))
set_option maxHeartbeats 4000000 in
set_option maxRecDepth 100000 in
theorem t_X6_split_2 {p : Program} {l : Launch} {e : Env} {s : State} {m : MethodId} {args : Array Value} {below : List Frame} {meth : Method} {c : Code} {D : va_G} {tc : Nat → ClassId} {h0 : Nat} {sa : Nat → Nat}  {ad : Nat → Nat} {A : Nat → Prop} {post : Dt → Prop}  (X : Cx p c s m meth cX6_split 7 RX6 D tc) (hr : meth.sig.returnType = (Option.none : Option FieldType)) (hT : ST h0 sa s s.heap) (hA0 : ∀ q, A q → h0 ≤ q)    : ∀ (n9 : Nat) (y2 : Int32) (w : Dt) (H : Heap) (locs : List Loc) (ls : Array Slot), wp_X6_split_2 post   n9 y2 w → (Blk D tc A (shW ad) ad w H) → va_S A s.heap H locs → lv_has ls 7 [(0, .ref (ad 7)), (1, .ref (ad 19)), (2, .int y2)] → W p l e rm_X6_split s m args below meth c H locs 0 0 (MQ below (QB post (fun (u : Dt) (H1 : Heap) => Blk D tc A (shW ad) ad u H1) (fun _ : Dt => none) A) args s rm_X6_split.cells rm_X6_split.slots A) (F0 m 2 ls []) := by
  have hx := X.1
  have hb := X.2.1
  have hown := X.2.2.2.1
  have hU := X.2.2.2.2.1.1
  intro n9
  induction n9 with
  | zero =>
    intro y2 w H locs ls hw
    exact hw.elim
  | succ n9 ih =>
    intro y2 w H locs ls hw hBw hS hl
    unfold wp_X6_split_2 at hw
    refine lv_iload_n hx hb dX6_split_2 rfl (lv_at hl 2 rfl) ?_
    refine lv_aload_n hx hb dX6_split_3 rfl (lv_at hl 0 rfl) ?_
    refine g_get X dX6_split_4 f_X6_35 hBw 7 (v := .int (w 7 0)) rfl rfl ?_
    refine lv_icmp_ge (tgt := 110) hx hb dX6_split_7 (by decide) (fun c1 => ?_) (fun c1 => ?_)
    · have hw := hw.1 c1
      exact t_X6_split_110 X hr hT hA0   _ _ _ _ hw hBw hS (lv_sub hl [] rfl)
    · have hw := hw.2 c1
      refine lv_iload_n hx hb dX6_split_10 rfl (lv_at hl 2 rfl) ?_
      refine lv_bipush (v := 12) hx hb dX6_split_11 (by decide) ?_
      refine lv_icmp_ge (tgt := 110) hx hb dX6_split_13 (by decide) (fun c2 => ?_) (fun c2 => ?_)
      · have hw := hw.1 c2
        exact t_X6_split_110 X hr hT hA0   _ _ _ _ hw hBw hS (lv_sub hl [] rfl)
      · have hw := hw.2 c2
        refine lv_aload_n hx hb dX6_split_16 rfl (lv_at hl 0 rfl) ?_
        refine g_get X dX6_split_17 f_X6_18 hBw 7 (v := .ref (ad 10)) rfl rfl ?_
        refine lv_iload_n hx hb dX6_split_20 rfl (lv_at hl 2 rfl) ?_
        obtain ⟨o3, hw⟩ := hw
        refine g_iald X dX6_split_21 hBw 10 rfl o3 rfl ?_
        refine lv_istore_n (lv' := [(3, .int (w 10 y2.toNatClampNeg)), (0, .ref (ad 7)), (1, .ref (ad 19)), (2, .int y2)]) hx hb dX6_split_22 rfl hl (by decide) rfl (fun ls hl => ?_)
        refine lv_aload_n hx hb dX6_split_23 rfl (lv_at hl 1 rfl) ?_
        refine g_get X dX6_split_24 f_X6_28 hBw 7 (v := .ref (ad 13)) rfl rfl ?_
        refine lv_iload_n hx hb dX6_split_27 rfl (lv_at hl 3 rfl) ?_
        refine g_zald X dX6_split_28 hBw 13 rfl o3 rfl ?_
        refine lv_if_eq (tgt := 104) hx hb dX6_split_29 (by decide) (fun c4 => ?_) (fun c4 => ?_)
        · have hw := hw.1 c4
          exact t_X6_split_104 X hr hT hA0  ih _ _ _ _ _ hw hBw hS (lv_sub hl [1, 2, 3] rfl)
        · have hw := hw.2 c4
          refine lv_iload_n hx hb dX6_split_32 rfl (lv_at hl 0 rfl) ?_
          refine lv_sipush (v := 300) hx hb dX6_split_33 (by decide) ?_
          refine lv_icmp_le (tgt := 104) hx hb dX6_split_36 (by decide) (fun c5 => ?_) (fun c5 => ?_)
          · have hw := hw.1 c5
            exact t_X6_split_104 X hr hT hA0  ih _ _ _ _ _ hw hBw hS (lv_sub hl [1, 2, 3] rfl)
          · have hw := hw.2 c5
            refine lv_aload_n hx hb dX6_split_39 rfl (lv_at hl 1 rfl) ?_
            refine g_get X dX6_split_40 f_X6_35 hBw 7 (v := .int (w 7 0)) rfl rfl ?_
            refine lv_bipush (v := 12) hx hb dX6_split_43 (by decide) ?_
            refine lv_icmp_ge (tgt := 104) hx hb dX6_split_45 (by decide) (fun c6 => ?_) (fun c6 => ?_)
            · have hw := hw.1 c6
              exact t_X6_split_104 X hr hT hA0  ih _ _ _ _ _ hw hBw hS (lv_sub hl [1, 2, 3] rfl)
            · have hw := hw.2 c6
              refine lv_iload_n hx hb dX6_split_48 rfl (lv_at hl 0 rfl) ?_
              refine lv_iconst (v := 3) hx hb dX6_split_49 (by decide) ?_
              refine lv_idiv hx hb dX6_split_50 (by decide) ?_
              refine lv_topi (fun v7 ev7 => ?_)
              have hw := hw v7 ev7
              refine lv_istore (lv' := [(4, .int v7), (3, .int (w 10 y2.toNatClampNeg)), (0, .ref (ad 7)), (1, .ref (ad 19)), (2, .int y2)]) hx hb dX6_split_51 hl (by decide) rfl (fun ls hl => ?_)
              refine lv_aload_n hx hb dX6_split_53 rfl (lv_at hl 2 rfl) ?_
              refine g_get X dX6_split_54 f_X6_15 hBw 7 (v := .ref (ad 9)) rfl rfl ?_
              refine lv_iload_n hx hb dX6_split_57 rfl (lv_at hl 4 rfl) ?_
              refine g_iald X dX6_split_58 hBw 9 rfl o3 rfl ?_
              refine lv_iload_n hx hb dX6_split_59 rfl (lv_at hl 1 rfl) ?_
              refine lv_iadd hx hb dX6_split_60 ?_
              refine lv_sipush (v := 3600) hx hb dX6_split_61 (by decide) ?_
              refine g_after (st0 := .int 3600 :: .int ((w 9 y2.toNatClampNeg) + (w 10 y2.toNatClampNeg)) :: []) (rest := []) (g_S X m_X6_60 (c_J9_floorMod_7cf53 l D tc h0 sa ((w 9 y2.toNatClampNeg) + (w 10 y2.toNatClampNeg)) 3600 _  hw) hT hS hA0 dX6_split_64 hl.1 rfl rfl ⟨Nat.le_of_ble_eq_true rfl, Nat.le_of_ble_eq_true rfl⟩ (Nat.le_of_ble_eq_true rfl) ⟨Nat.le_of_ble_eq_true rfl, Nat.le_of_ble_eq_true rfl⟩) hS (fun _ h => h.elim) (fun u => .int u :: []) (fun _ => rfl) (fun u H9 locs hw hP9 hz9 hk9 hS => ?_)
              have e9 : H9 = _ := hP9
              rw [e9] at hS ⊢
              obtain ⟨r8, rfl⟩ : ∃ z, z = u := ⟨_, rfl⟩
              try dsimp only at hw
              refine lv_istore (lv' := [(5, .int r8), (4, .int v7), (3, .int (w 10 y2.toNatClampNeg)), (0, .ref (ad 7)), (1, .ref (ad 19)), (2, .int y2)]) hx hb dX6_split_67 hl (by decide) rfl (fun ls hl => ?_)
              refine lv_aload_n hx hb dX6_split_69 rfl (lv_at hl 3 rfl) ?_
              refine lv_aload_n hx hb dX6_split_70 rfl (lv_at hl 3 rfl) ?_
              refine g_get X dX6_split_71 f_X6_9 hBw 7 (v := .ref (ad 8)) rfl rfl ?_
              refine lv_iload_n hx hb dX6_split_74 rfl (lv_at hl 5 rfl) ?_
              refine g_iald X dX6_split_75 hBw 8 rfl o3 rfl ?_
              refine lv_iload hx hb dX6_split_76 (lv_at hl 0 rfl) ?_
              refine lv_iload hx hb dX6_split_78 (lv_at hl 1 rfl) ?_
              refine g_after (st0 := .int v7 :: .int r8 :: .int (w 8 y2.toNatClampNeg) :: .ref (ad 7) :: []) (rest := []) (g_V X m_X6_95 (c_X6_begin l D tc h0 sa (w 8 y2.toNatClampNeg) r8 v7 _ hBw hA0 hw) (hBw.recv X 7 rfl (q := (RX6, TX6, 8)) rfl) hT hS hA0 dX6_split_80 hl.1 rfl rfl ⟨Nat.le_of_ble_eq_true rfl, Nat.le_of_ble_eq_true rfl⟩ (Nat.le_of_ble_eq_true rfl) ⟨Nat.le_of_ble_eq_true rfl, Nat.le_of_ble_eq_true rfl⟩) hS (fun _ h => h) (fun u => .int u.1 :: []) (fun _ => rfl) (fun u H9 locs hw hP9 hz9 hk9 hS => ?_)
              obtain ⟨r9, w10⟩ := u
              have hBw : Blk D tc A (shW ad) ad w10 H9 := hP9
              try dsimp only at hw
              refine lv_istore (lv' := [(6, .int r9), (5, .int r8), (4, .int v7), (3, .int (w 10 y2.toNatClampNeg)), (0, .ref (ad 7)), (1, .ref (ad 19)), (2, .int y2)]) hx hb dX6_split_83 hl (by decide) rfl (fun ls hl => ?_)
              refine lv_aload_n hx hb dX6_split_85 rfl (lv_at hl 4 rfl) ?_
              refine g_get X dX6_split_86 f_X6_18 hBw 7 (v := .ref (ad 10)) rfl rfl ?_
              refine lv_iload_n hx hb dX6_split_89 rfl (lv_at hl 6 rfl) ?_
              refine lv_dup2_11 hx hb dX6_split_90 rfl rfl ?_
              refine g_iald X dX6_split_91 hBw 10 rfl o3 rfl ?_
              refine lv_iload hx hb dX6_split_92 (lv_at hl 2 rfl) ?_
              refine lv_isub hx hb dX6_split_94 ?_
              refine g_iast X dX6_split_95 hBw hS 10 rfl o3 rfl  (fun H locs hBw oq hS => ?_)
              obtain ⟨w11, ew11⟩ : ∃ z : Dt, z = up2 w10 10 y2.toNatClampNeg ((w10 10 y2.toNatClampNeg) - v7) := ⟨_, rfl⟩
              rw [← ew11] at hBw
              have hw := hw w11 ew11
              refine lv_aload_n hx hb dX6_split_96 rfl (lv_at hl 5 rfl) ?_
              refine lv_bipush (v := 115) hx hb dX6_split_97 (by decide) ?_
              refine lv_iload hx hb dX6_split_99 (lv_at hl 0 rfl) ?_
              refine g_after (st0 := .int r9 :: .int 115 :: .ref (ad 19) :: []) (rest := []) (g_V X m_X6_83 (c_X3_write l D tc h0 sa 115 r9 _ hBw hA0 hw) (hBw.recv X 19 rfl (q := (RX3, TX3, 3)) rfl) hT hS hA0 dX6_split_101 hl.1 rfl rfl ⟨Nat.le_of_ble_eq_true rfl, Nat.le_of_ble_eq_true rfl⟩ (Nat.le_of_ble_eq_true rfl) ⟨Nat.le_of_ble_eq_true rfl, Nat.le_of_ble_eq_true rfl⟩) hS (fun _ h => h) (fun u => []) (fun _ => rfl) (fun u H9 locs hw hP9 hz9 hk9 hS => ?_)
              obtain ⟨w12, rfl⟩ : ∃ z, z = u := ⟨_, rfl⟩
              have hBw : Blk D tc A (shW ad) ad w12 H9 := hP9
              try dsimp only at hw
              exact t_X6_split_104 X hr hT hA0  ih _ _ _ _ _ hw hBw hS (lv_sub hl [4, 5, 6] rfl)
def wp_X6_split (post : Dt → Prop) (w : Dt) : Prop := ∃ k9 : Nat, wp_X6_split_2 post   k9 0 w
set_option maxHeartbeats 4000000 in
set_option maxRecDepth 100000 in
theorem c_X6_split (l : Launch) (D : va_G) (tc : Nat → ClassId) (h0 : Nat) (sa : Nat → Nat)  (H0 : Heap) {ad : Nat → Nat} {A : Nat → Prop} {w : Dt} (hBw : Blk D tc A (shW ad) ad w H0) (hA0 : ∀ q, A q → h0 ≤ q) {post : Dt → Prop} (hw : wp_X6_split post w) : MB l yX6_split cX6_split 7 (Option.none : Option FieldType) rm_X6_split A [.ref (ad 7), .ref (ad 19)] D tc h0 sa H0 post (fun (u : Dt) (H1 : Heap) => Blk D tc A (shW ad) ad u H1) (fun _ : Dt => none) := by
  refine MB.of RX6 [(0, .ref (ad 7)), (1, .ref (ad 19))] (by decide +kernel) rfl (Nat.le_of_ble_eq_true rfl) rfl ?_
  intro p e s m below meth c ls X hr hin hT hH hS hl
  subst hH
  have hx := X.1
  have hb := X.2.1
  have hown := X.2.2.2.1
  have hU := X.2.2.2.2.1.1
  unfold wp_X6_split at hw
  refine lv_iconst (v := 0) hx hb dX6_split_0 (by decide) ?_
  refine lv_istore_n (lv' := [(2, .int 0), (0, .ref (ad 7)), (1, .ref (ad 19))]) hx hb dX6_split_1 rfl hl (by decide) rfl (fun ls hl => ?_)
  obtain ⟨k9, hw⟩ := hw
  exact t_X6_split_2 X hr hT hA0   k9 _ _ _ _ _ hw hBw hS (lv_sub hl [1, 2, 0] rfl)
abbrev rm_X6_goOn : Room := { frames := 4, cells := 0, slots := 0, locals := 88 }
def wp_X6_goOn (post : Dt → Prop) (w : Dt) : Prop := wp_X6_blow (fun w1 => wp_X6_meet (fun w2 => wp_X6_tear (fun w3 => wp_X6_split (fun w4 => post w4) w3) w2) w1) w
set_option maxHeartbeats 4000000 in
set_option maxRecDepth 100000 in
theorem c_X6_goOn (l : Launch) (D : va_G) (tc : Nat → ClassId) (h0 : Nat) (sa : Nat → Nat)  (H0 : Heap) {ad : Nat → Nat} {A : Nat → Prop} {w : Dt} (hBw : Blk D tc A (shW ad) ad w H0) (hA0 : ∀ q, A q → h0 ≤ q) {post : Dt → Prop} (hw : wp_X6_goOn post w) : MB l yX6_goOn cX6_goOn 3 (Option.none : Option FieldType) rm_X6_goOn A [.ref (ad 7), .ref (ad 5), .ref (ad 19)] D tc h0 sa H0 post (fun (u : Dt) (H1 : Heap) => Blk D tc A (shW ad) ad u H1) (fun _ : Dt => none) := by
  refine MB.of RX6 [(0, .ref (ad 7)), (1, .ref (ad 5)), (2, .ref (ad 19))] (by decide +kernel) rfl (Nat.le_of_ble_eq_true rfl) rfl ?_
  intro p e s m below meth c ls X hr hin hT hH hS hl
  subst hH
  have hx := X.1
  have hb := X.2.1
  have hown := X.2.2.2.1
  have hU := X.2.2.2.2.1.1
  unfold wp_X6_goOn at hw
  refine lv_aload_n hx hb dX6_goOn_0 rfl (lv_at hl 0 rfl) ?_
  refine lv_aload_n hx hb dX6_goOn_1 rfl (lv_at hl 1 rfl) ?_
  refine g_after (st0 := .ref (ad 5) :: .ref (ad 7) :: []) (rest := []) (g_V X m_X6_39 (c_X6_blow l D tc h0 sa  _ hBw hA0 hw) (hBw.recv X 7 rfl (q := (RX6, TX6, 8)) rfl) hT hS hA0 dX6_goOn_2 hl.1 rfl rfl ⟨Nat.le_of_ble_eq_true rfl, Nat.le_of_ble_eq_true rfl⟩ (Nat.le_of_ble_eq_true rfl) ⟨Nat.le_of_ble_eq_true rfl, Nat.le_of_ble_eq_true rfl⟩) hS (fun _ h => h) (fun u => []) (fun _ => rfl) (fun u H9 locs hw hP9 hz9 hk9 hS => ?_)
  obtain ⟨w1, rfl⟩ : ∃ z, z = u := ⟨_, rfl⟩
  have hBw : Blk D tc A (shW ad) ad w1 H9 := hP9
  try dsimp only at hw
  refine lv_aload_n hx hb dX6_goOn_5 rfl (lv_at hl 0 rfl) ?_
  refine lv_aload_n hx hb dX6_goOn_6 rfl (lv_at hl 2 rfl) ?_
  refine g_after (st0 := .ref (ad 19) :: .ref (ad 7) :: []) (rest := []) (g_V X m_X6_43 (c_X6_meet l D tc h0 sa  _ hBw hA0 hw) (hBw.recv X 7 rfl (q := (RX6, TX6, 8)) rfl) hT hS hA0 dX6_goOn_7 hl.1 rfl rfl ⟨Nat.le_of_ble_eq_true rfl, Nat.le_of_ble_eq_true rfl⟩ (Nat.le_of_ble_eq_true rfl) ⟨Nat.le_of_ble_eq_true rfl, Nat.le_of_ble_eq_true rfl⟩) hS (fun _ h => h) (fun u => []) (fun _ => rfl) (fun u H9 locs hw hP9 hz9 hk9 hS => ?_)
  obtain ⟨w2, rfl⟩ : ∃ z, z = u := ⟨_, rfl⟩
  have hBw : Blk D tc A (shW ad) ad w2 H9 := hP9
  try dsimp only at hw
  refine lv_aload_n hx hb dX6_goOn_10 rfl (lv_at hl 0 rfl) ?_
  refine lv_aload_n hx hb dX6_goOn_11 rfl (lv_at hl 1 rfl) ?_
  refine lv_aload_n hx hb dX6_goOn_12 rfl (lv_at hl 2 rfl) ?_
  refine g_after (st0 := .ref (ad 19) :: .ref (ad 5) :: .ref (ad 7) :: []) (rest := []) (g_V X m_X6_47 (c_X6_tear l D tc h0 sa  _ hBw hA0 hw) (hBw.recv X 7 rfl (q := (RX6, TX6, 8)) rfl) hT hS hA0 dX6_goOn_13 hl.1 rfl rfl ⟨Nat.le_of_ble_eq_true rfl, Nat.le_of_ble_eq_true rfl⟩ (Nat.le_of_ble_eq_true rfl) ⟨Nat.le_of_ble_eq_true rfl, Nat.le_of_ble_eq_true rfl⟩) hS (fun _ h => h) (fun u => []) (fun _ => rfl) (fun u H9 locs hw hP9 hz9 hk9 hS => ?_)
  obtain ⟨w3, rfl⟩ : ∃ z, z = u := ⟨_, rfl⟩
  have hBw : Blk D tc A (shW ad) ad w3 H9 := hP9
  try dsimp only at hw
  refine lv_aload_n hx hb dX6_goOn_16 rfl (lv_at hl 0 rfl) ?_
  refine lv_aload_n hx hb dX6_goOn_17 rfl (lv_at hl 2 rfl) ?_
  refine g_after (st0 := .ref (ad 19) :: .ref (ad 7) :: []) (rest := []) (g_V X m_X6_51 (c_X6_split l D tc h0 sa  _ hBw hA0 hw) (hBw.recv X 7 rfl (q := (RX6, TX6, 8)) rfl) hT hS hA0 dX6_goOn_18 hl.1 rfl rfl ⟨Nat.le_of_ble_eq_true rfl, Nat.le_of_ble_eq_true rfl⟩ (Nat.le_of_ble_eq_true rfl) ⟨Nat.le_of_ble_eq_true rfl, Nat.le_of_ble_eq_true rfl⟩) hS (fun _ h => h) (fun u => []) (fun _ => rfl) (fun u H9 locs hw hP9 hz9 hk9 hS => ?_)
  obtain ⟨w4, rfl⟩ : ∃ z, z = u := ⟨_, rfl⟩
  have hBw : Blk D tc A (shW ad) ad w4 H9 := hP9
  try dsimp only at hw
  exact e_v X hr dX6_goOn_21 hS (w4) rfl hw hBw ⟨Nat.le_of_ble_eq_true rfl, Nat.le_of_ble_eq_true rfl⟩
abbrev rm_X6_areNamesSingle : Room := { frames := 1, cells := 0, slots := 0, locals := 22 }
def wp_X6_areNamesSingle_68 (post : Int32 → Prop)   (w : Dt) : Prop := post 1
set_option maxHeartbeats 4000000 in
set_option maxRecDepth 100000 in
theorem t_X6_areNamesSingle_68 {p : Program} {l : Launch} {e : Env} {s : State} {m : MethodId} {args : Array Value} {below : List Frame} {meth : Method} {c : Code} {D : va_G} {tc : Nat → ClassId} {h0 : Nat} {sa : Nat → Nat}  {ad : Nat → Nat} {A : Nat → Prop} {post : Int32 → Prop}  (X : Cx p c s m meth cX6_areNamesSingle 3 RX6 D tc) (hr : meth.sig.returnType = (Option.some FieldType.boolean)) (hT : ST h0 sa s s.heap) (hA0 : ∀ q, (fun _ => False) q → h0 ≤ q)    : ∀ (w : Dt) (locs : List Loc) (ls : Array Slot), wp_X6_areNamesSingle_68 post   w → (Blk D tc A (shW ad) ad w s.heap) → va_S (fun _ => False) s.heap s.heap locs → lv_has ls 3 [] → W p l e rm_X6_areNamesSingle s m args below meth c s.heap locs 0 0 (MQ below (QB post (fun (_ : Int32) (H1 : Heap) => H1 = s.heap) (fun u : Int32 => some (.int u)) (fun _ => False)) args s rm_X6_areNamesSingle.cells rm_X6_areNamesSingle.slots (fun _ => False)) (F0 m 68 ls []) := by
  have hx := X.1
  have hb := X.2.1
  have hown := X.2.2.2.1
  have hU := X.2.2.2.2.1.1
  intro w  locs ls hw hBw hS hl
  unfold wp_X6_areNamesSingle_68 at hw
  refine lv_iconst (v := 1) hx hb dX6_areNamesSingle_68 (by decide) ?_
  exact e_z X hr rfl dX6_areNamesSingle_69 hS (1) rfl hw rfl ⟨Nat.le_of_ble_eq_true rfl, Nat.le_of_ble_eq_true rfl⟩
def wp_X6_areNamesSingle_62 (post : Int32 → Prop)  (K2 : Int32 → Dt → Prop) (y1 : Int32) (w : Dt) : Prop := K2 (y1 + 1) w
set_option maxHeartbeats 4000000 in
set_option maxRecDepth 100000 in
theorem t_X6_areNamesSingle_62 {p : Program} {l : Launch} {e : Env} {s : State} {m : MethodId} {args : Array Value} {below : List Frame} {meth : Method} {c : Code} {D : va_G} {tc : Nat → ClassId} {h0 : Nat} {sa : Nat → Nat}  {ad : Nat → Nat} {A : Nat → Prop} {post : Int32 → Prop} {K2 : Int32 → Dt → Prop} (X : Cx p c s m meth cX6_areNamesSingle 3 RX6 D tc) (hr : meth.sig.returnType = (Option.some FieldType.boolean)) (hT : ST h0 sa s s.heap) (hA0 : ∀ q, (fun _ => False) q → h0 ≤ q)   (hK2 : ∀ (y1 : Int32) (w : Dt) (locs : List Loc) (ls : Array Slot), K2 y1 w → (Blk D tc A (shW ad) ad w s.heap) → va_S (fun _ => False) s.heap s.heap locs → lv_has ls 3 [(0, .ref (ad 7)), (1, .int y1)] → W p l e rm_X6_areNamesSingle s m args below meth c s.heap locs 0 0 (MQ below (QB post (fun (_ : Int32) (H1 : Heap) => H1 = s.heap) (fun u : Int32 => some (.int u)) (fun _ => False)) args s rm_X6_areNamesSingle.cells rm_X6_areNamesSingle.slots (fun _ => False)) (F0 m 2 ls [])) : ∀ (y1 : Int32) (w : Dt) (locs : List Loc) (ls : Array Slot), wp_X6_areNamesSingle_62 post  K2 y1 w → (Blk D tc A (shW ad) ad w s.heap) → va_S (fun _ => False) s.heap s.heap locs → lv_has ls 3 [(0, .ref (ad 7)), (1, .int y1)] → W p l e rm_X6_areNamesSingle s m args below meth c s.heap locs 0 0 (MQ below (QB post (fun (_ : Int32) (H1 : Heap) => H1 = s.heap) (fun u : Int32 => some (.int u)) (fun _ => False)) args s rm_X6_areNamesSingle.cells rm_X6_areNamesSingle.slots (fun _ => False)) (F0 m 62 ls []) := by
  have hx := X.1
  have hb := X.2.1
  have hown := X.2.2.2.1
  have hU := X.2.2.2.2.1.1
  intro y1 w  locs ls hw hBw hS hl
  unfold wp_X6_areNamesSingle_62 at hw
  refine lv_iinc (lv' := [(1, .int (y1 + 1)), (0, .ref (ad 7))]) hx hb dX6_areNamesSingle_62 hl (k := 1) rfl (by rfl) (by decide) rfl (fun ls hl => ?_)
  refine lv_goto (tgt := 2) hx hb dX6_areNamesSingle_65 (by decide) ?_
  exact hK2 _ _ _ _ hw hBw hS (lv_sub hl [1, 0] rfl)
def wp_X6_areNamesSingle_41 (post : Int32 → Prop)  (K2 : Int32 → Dt → Prop) (y1 : Int32) (z0 : Int32) (w : Dt) : Prop := (z0 = 0 → wp_X6_areNamesSingle_62 post  K2 y1 w) ∧ (¬ z0 = 0 → vp_in y1 12 ∧ (wp_X6_bearerOf (fun r7 => (r7 = y1 → wp_X6_areNamesSingle_62 post  K2 y1 w) ∧ (¬ r7 = y1 → post 0)) w (w 12 y1.toNatClampNeg)))
set_option maxHeartbeats 4000000 in
set_option maxRecDepth 100000 in
theorem t_X6_areNamesSingle_41 {p : Program} {l : Launch} {e : Env} {s : State} {m : MethodId} {args : Array Value} {below : List Frame} {meth : Method} {c : Code} {D : va_G} {tc : Nat → ClassId} {h0 : Nat} {sa : Nat → Nat}  {ad : Nat → Nat} {A : Nat → Prop} {post : Int32 → Prop} {K2 : Int32 → Dt → Prop} (X : Cx p c s m meth cX6_areNamesSingle 3 RX6 D tc) (hr : meth.sig.returnType = (Option.some FieldType.boolean)) (hT : ST h0 sa s s.heap) (hA0 : ∀ q, (fun _ => False) q → h0 ≤ q)   (hK2 : ∀ (y1 : Int32) (w : Dt) (locs : List Loc) (ls : Array Slot), K2 y1 w → (Blk D tc A (shW ad) ad w s.heap) → va_S (fun _ => False) s.heap s.heap locs → lv_has ls 3 [(0, .ref (ad 7)), (1, .int y1)] → W p l e rm_X6_areNamesSingle s m args below meth c s.heap locs 0 0 (MQ below (QB post (fun (_ : Int32) (H1 : Heap) => H1 = s.heap) (fun u : Int32 => some (.int u)) (fun _ => False)) args s rm_X6_areNamesSingle.cells rm_X6_areNamesSingle.slots (fun _ => False)) (F0 m 2 ls [])) : ∀ (y1 : Int32) (z0 : Int32) (w : Dt) (locs : List Loc) (ls : Array Slot), wp_X6_areNamesSingle_41 post  K2 y1 z0 w → (Blk D tc A (shW ad) ad w s.heap) → va_S (fun _ => False) s.heap s.heap locs → lv_has ls 3 [(0, .ref (ad 7)), (1, .int y1)] → W p l e rm_X6_areNamesSingle s m args below meth c s.heap locs 0 0 (MQ below (QB post (fun (_ : Int32) (H1 : Heap) => H1 = s.heap) (fun u : Int32 => some (.int u)) (fun _ => False)) args s rm_X6_areNamesSingle.cells rm_X6_areNamesSingle.slots (fun _ => False)) (F0 m 41 ls [.int z0]) := by
  have hx := X.1
  have hb := X.2.1
  have hown := X.2.2.2.1
  have hU := X.2.2.2.2.1.1
  intro y1 z0 w  locs ls hw hBw hS hl
  unfold wp_X6_areNamesSingle_41 at hw
  refine lv_istore_n (lv' := [(2, .int z0), (0, .ref (ad 7)), (1, .int y1)]) hx hb dX6_areNamesSingle_41 rfl hl (by decide) rfl (fun ls hl => ?_)
  refine lv_iload_n hx hb dX6_areNamesSingle_42 rfl (lv_at hl 0 rfl) ?_
  refine lv_if_eq (tgt := 62) hx hb dX6_areNamesSingle_43 (by decide) (fun c5 => ?_) (fun c5 => ?_)
  · have hw := hw.1 c5
    exact t_X6_areNamesSingle_62 X hr hT hA0  hK2 _ _ _ _ hw hBw hS (lv_sub hl [1, 2] rfl)
  · have hw := hw.2 c5
    refine lv_aload_n hx hb dX6_areNamesSingle_46 rfl (lv_at hl 1 rfl) ?_
    refine lv_aload_n hx hb dX6_areNamesSingle_47 rfl (lv_at hl 1 rfl) ?_
    refine g_get X dX6_areNamesSingle_48 f_X6_24 hBw 7 (v := .ref (ad 12)) rfl rfl ?_
    refine lv_iload_n hx hb dX6_areNamesSingle_51 rfl (lv_at hl 2 rfl) ?_
    obtain ⟨o6, hw⟩ := hw
    refine g_cald X dX6_areNamesSingle_52 hBw 12 rfl o6 rfl ?_
    refine g_after (st0 := .int (w 12 y1.toNatClampNeg) :: .ref (ad 7) :: []) (rest := []) (g_V X m_X6_99 (c_X6_bearerOf l D tc h0 sa (w 12 y1.toNatClampNeg) _ hBw hw) (hBw.recv X 7 rfl (q := (RX6, TX6, 8)) rfl) hT hS hA0 dX6_areNamesSingle_53 hl.1 rfl rfl ⟨Nat.le_of_ble_eq_true rfl, Nat.le_of_ble_eq_true rfl⟩ (Nat.le_of_ble_eq_true rfl) ⟨Nat.le_of_ble_eq_true rfl, Nat.le_of_ble_eq_true rfl⟩) hS (fun _ h => h.elim) (fun u => .int u :: []) (fun _ => rfl) (fun u H9 locs hw hP9 hz9 hk9 hS => ?_)
    have e9 : H9 = _ := hP9
    rw [e9] at hS ⊢
    obtain ⟨r7, rfl⟩ : ∃ z, z = u := ⟨_, rfl⟩
    try dsimp only at hw
    refine lv_iload_n hx hb dX6_areNamesSingle_56 rfl (lv_at hl 2 rfl) ?_
    refine lv_icmp_eq (tgt := 62) hx hb dX6_areNamesSingle_57 (by decide) (fun c8 => ?_) (fun c8 => ?_)
    · have hw := hw.1 c8
      exact t_X6_areNamesSingle_62 X hr hT hA0  hK2 _ _ _ _ hw hBw hS (lv_sub hl [1, 2] rfl)
    · have hw := hw.2 c8
      refine lv_iconst (v := 0) hx hb dX6_areNamesSingle_60 (by decide) ?_
      exact e_z X hr rfl dX6_areNamesSingle_61 hS (0) rfl hw rfl ⟨Nat.le_of_ble_eq_true rfl, Nat.le_of_ble_eq_true rfl⟩
def wp_X6_areNamesSingle_40 (post : Int32 → Prop)  (K2 : Int32 → Dt → Prop) (y1 : Int32) (w : Dt) : Prop := wp_X6_areNamesSingle_41 post  K2 y1 0 w
set_option maxHeartbeats 4000000 in
set_option maxRecDepth 100000 in
theorem t_X6_areNamesSingle_40 {p : Program} {l : Launch} {e : Env} {s : State} {m : MethodId} {args : Array Value} {below : List Frame} {meth : Method} {c : Code} {D : va_G} {tc : Nat → ClassId} {h0 : Nat} {sa : Nat → Nat}  {ad : Nat → Nat} {A : Nat → Prop} {post : Int32 → Prop} {K2 : Int32 → Dt → Prop} (X : Cx p c s m meth cX6_areNamesSingle 3 RX6 D tc) (hr : meth.sig.returnType = (Option.some FieldType.boolean)) (hT : ST h0 sa s s.heap) (hA0 : ∀ q, (fun _ => False) q → h0 ≤ q)   (hK2 : ∀ (y1 : Int32) (w : Dt) (locs : List Loc) (ls : Array Slot), K2 y1 w → (Blk D tc A (shW ad) ad w s.heap) → va_S (fun _ => False) s.heap s.heap locs → lv_has ls 3 [(0, .ref (ad 7)), (1, .int y1)] → W p l e rm_X6_areNamesSingle s m args below meth c s.heap locs 0 0 (MQ below (QB post (fun (_ : Int32) (H1 : Heap) => H1 = s.heap) (fun u : Int32 => some (.int u)) (fun _ => False)) args s rm_X6_areNamesSingle.cells rm_X6_areNamesSingle.slots (fun _ => False)) (F0 m 2 ls [])) : ∀ (y1 : Int32) (w : Dt) (locs : List Loc) (ls : Array Slot), wp_X6_areNamesSingle_40 post  K2 y1 w → (Blk D tc A (shW ad) ad w s.heap) → va_S (fun _ => False) s.heap s.heap locs → lv_has ls 3 [(0, .ref (ad 7)), (1, .int y1)] → W p l e rm_X6_areNamesSingle s m args below meth c s.heap locs 0 0 (MQ below (QB post (fun (_ : Int32) (H1 : Heap) => H1 = s.heap) (fun u : Int32 => some (.int u)) (fun _ => False)) args s rm_X6_areNamesSingle.cells rm_X6_areNamesSingle.slots (fun _ => False)) (F0 m 40 ls []) := by
  have hx := X.1
  have hb := X.2.1
  have hown := X.2.2.2.1
  have hU := X.2.2.2.2.1.1
  intro y1 w  locs ls hw hBw hS hl
  unfold wp_X6_areNamesSingle_40 at hw
  refine lv_iconst (v := 0) hx hb dX6_areNamesSingle_40 (by decide) ?_
  exact t_X6_areNamesSingle_41 X hr hT hA0  hK2 _ _ _ _ _ hw hBw hS (lv_sub hl [0, 1] rfl)
def wp_X6_areNamesSingle_2 (post : Int32 → Prop)   : Nat → Int32 → Dt → Prop
  | 0, _, _ => False
  | n9 + 1, y1, w => ((w 7 0) ≤ y1 → wp_X6_areNamesSingle_68 post   w) ∧ (¬ (w 7 0) ≤ y1 → (12 ≤ y1 → wp_X6_areNamesSingle_68 post   w) ∧ (¬ 12 ≤ y1 → vp_in y1 12 ∧ (((w 13 y1.toNatClampNeg) = 0 → wp_X6_areNamesSingle_40 post  (fun a0 w => wp_X6_areNamesSingle_2 post   n9 a0 w) y1 w) ∧ (¬ (w 13 y1.toNatClampNeg) = 0 → ((w 12 y1.toNatClampNeg) = 45 → wp_X6_areNamesSingle_40 post  (fun a0 w => wp_X6_areNamesSingle_2 post   n9 a0 w) y1 w) ∧ (¬ (w 12 y1.toNatClampNeg) = 45 → wp_X6_areNamesSingle_41 post  (fun a0 w => wp_X6_areNamesSingle_2 post   n9 a0 w) y1 1 w)))))
set_option maxHeartbeats 4000000 in
set_option maxRecDepth 100000 in
theorem t_X6_areNamesSingle_2 {p : Program} {l : Launch} {e : Env} {s : State} {m : MethodId} {args : Array Value} {below : List Frame} {meth : Method} {c : Code} {D : va_G} {tc : Nat → ClassId} {h0 : Nat} {sa : Nat → Nat}  {ad : Nat → Nat} {A : Nat → Prop} {post : Int32 → Prop}  (X : Cx p c s m meth cX6_areNamesSingle 3 RX6 D tc) (hr : meth.sig.returnType = (Option.some FieldType.boolean)) (hT : ST h0 sa s s.heap) (hA0 : ∀ q, (fun _ => False) q → h0 ≤ q)    : ∀ (n9 : Nat) (y1 : Int32) (w : Dt) (locs : List Loc) (ls : Array Slot), wp_X6_areNamesSingle_2 post   n9 y1 w → (Blk D tc A (shW ad) ad w s.heap) → va_S (fun _ => False) s.heap s.heap locs → lv_has ls 3 [(0, .ref (ad 7)), (1, .int y1)] → W p l e rm_X6_areNamesSingle s m args below meth c s.heap locs 0 0 (MQ below (QB post (fun (_ : Int32) (H1 : Heap) => H1 = s.heap) (fun u : Int32 => some (.int u)) (fun _ => False)) args s rm_X6_areNamesSingle.cells rm_X6_areNamesSingle.slots (fun _ => False)) (F0 m 2 ls []) := by
  have hx := X.1
  have hb := X.2.1
  have hown := X.2.2.2.1
  have hU := X.2.2.2.2.1.1
  intro n9
  induction n9 with
  | zero =>
    intro y1 w  locs ls hw
    exact hw.elim
  | succ n9 ih =>
    intro y1 w  locs ls hw hBw hS hl
    unfold wp_X6_areNamesSingle_2 at hw
    refine lv_iload_n hx hb dX6_areNamesSingle_2 rfl (lv_at hl 1 rfl) ?_
    refine lv_aload_n hx hb dX6_areNamesSingle_3 rfl (lv_at hl 0 rfl) ?_
    refine g_get X dX6_areNamesSingle_4 f_X6_35 hBw 7 (v := .int (w 7 0)) rfl rfl ?_
    refine lv_icmp_ge (tgt := 68) hx hb dX6_areNamesSingle_7 (by decide) (fun c1 => ?_) (fun c1 => ?_)
    · have hw := hw.1 c1
      exact t_X6_areNamesSingle_68 X hr hT hA0   _ _ _ hw hBw hS (lv_sub hl [] rfl)
    · have hw := hw.2 c1
      refine lv_iload_n hx hb dX6_areNamesSingle_10 rfl (lv_at hl 1 rfl) ?_
      refine lv_bipush (v := 12) hx hb dX6_areNamesSingle_11 (by decide) ?_
      refine lv_icmp_ge (tgt := 68) hx hb dX6_areNamesSingle_13 (by decide) (fun c2 => ?_) (fun c2 => ?_)
      · have hw := hw.1 c2
        exact t_X6_areNamesSingle_68 X hr hT hA0   _ _ _ hw hBw hS (lv_sub hl [] rfl)
      · have hw := hw.2 c2
        refine lv_aload_n hx hb dX6_areNamesSingle_16 rfl (lv_at hl 0 rfl) ?_
        refine g_get X dX6_areNamesSingle_17 f_X6_28 hBw 7 (v := .ref (ad 13)) rfl rfl ?_
        refine lv_iload_n hx hb dX6_areNamesSingle_20 rfl (lv_at hl 1 rfl) ?_
        obtain ⟨o3, hw⟩ := hw
        refine g_zald X dX6_areNamesSingle_21 hBw 13 rfl o3 rfl ?_
        refine lv_if_eq (tgt := 40) hx hb dX6_areNamesSingle_22 (by decide) (fun c4 => ?_) (fun c4 => ?_)
        · have hw := hw.1 c4
          exact t_X6_areNamesSingle_40 X hr hT hA0  ih _ _ _ _ hw hBw hS (lv_sub hl [0, 1] rfl)
        · have hw := hw.2 c4
          refine lv_aload_n hx hb dX6_areNamesSingle_25 rfl (lv_at hl 0 rfl) ?_
          refine g_get X dX6_areNamesSingle_26 f_X6_24 hBw 7 (v := .ref (ad 12)) rfl rfl ?_
          refine lv_iload_n hx hb dX6_areNamesSingle_29 rfl (lv_at hl 1 rfl) ?_
          refine g_cald X dX6_areNamesSingle_30 hBw 12 rfl o3 rfl ?_
          refine lv_bipush (v := 45) hx hb dX6_areNamesSingle_31 (by decide) ?_
          refine lv_icmp_eq (tgt := 40) hx hb dX6_areNamesSingle_33 (by decide) (fun c9 => ?_) (fun c9 => ?_)
          · have hw := hw.1 c9
            exact t_X6_areNamesSingle_40 X hr hT hA0  ih _ _ _ _ hw hBw hS (lv_sub hl [0, 1] rfl)
          · have hw := hw.2 c9
            refine lv_iconst (v := 1) hx hb dX6_areNamesSingle_36 (by decide) ?_
            refine lv_goto (tgt := 41) hx hb dX6_areNamesSingle_37 (by decide) ?_
            exact t_X6_areNamesSingle_41 X hr hT hA0  ih _ _ _ _ _ hw hBw hS (lv_sub hl [0, 1] rfl)
def wp_X6_areNamesSingle (post : Int32 → Prop) (w : Dt) : Prop := ∃ k9 : Nat, wp_X6_areNamesSingle_2 post   k9 0 w
set_option maxHeartbeats 4000000 in
set_option maxRecDepth 100000 in
theorem c_X6_areNamesSingle (l : Launch) (D : va_G) (tc : Nat → ClassId) (h0 : Nat) (sa : Nat → Nat)  (H0 : Heap) {ad : Nat → Nat} {A : Nat → Prop} {w : Dt} (hBw : Blk D tc A (shW ad) ad w H0)  {post : Int32 → Prop} (hw : wp_X6_areNamesSingle post w) : MB l yX6_areNamesSingle cX6_areNamesSingle 3 (Option.some FieldType.boolean) rm_X6_areNamesSingle (fun _ => False) [.ref (ad 7)] D tc h0 sa H0 post (fun (_ : Int32) (H1 : Heap) => H1 = H0) (fun u : Int32 => some (.int u)) := by
  have hA0 : ∀ q : Nat, (fun _ : Nat => False) q → h0 ≤ q := fun _ h => h.elim
  refine MB.of RX6 [(0, .ref (ad 7))] (by decide +kernel) rfl (Nat.le_of_ble_eq_true rfl) rfl ?_
  intro p e s m below meth c ls X hr hin hT hH hS hl
  subst hH
  have hx := X.1
  have hb := X.2.1
  have hown := X.2.2.2.1
  have hU := X.2.2.2.2.1.1
  unfold wp_X6_areNamesSingle at hw
  refine lv_iconst (v := 0) hx hb dX6_areNamesSingle_0 (by decide) ?_
  refine lv_istore_n (lv' := [(1, .int 0), (0, .ref (ad 7))]) hx hb dX6_areNamesSingle_1 rfl hl (by decide) rfl (fun ls hl => ?_)
  obtain ⟨k9, hw⟩ := hw
  exact t_X6_areNamesSingle_2 X hr hT hA0   k9 _ _ _ _ hw hBw hS (lv_sub hl [1, 0] rfl)
abbrev rm_X6_areSizesRight : Room := { frames := 0, cells := 0, slots := 0, locals := 0 }
def wp_X6_areSizesRight_66 (post : Int32 → Prop)   (w : Dt) : Prop := post 1
set_option maxHeartbeats 4000000 in
set_option maxRecDepth 100000 in
theorem t_X6_areSizesRight_66 {p : Program} {l : Launch} {e : Env} {s : State} {m : MethodId} {args : Array Value} {below : List Frame} {meth : Method} {c : Code} {D : va_G} {tc : Nat → ClassId} {h0 : Nat} {sa : Nat → Nat}  {ad : Nat → Nat} {A : Nat → Prop} {post : Int32 → Prop}  (X : Cx p c s m meth cX6_areSizesRight 3 RX6 D tc) (hr : meth.sig.returnType = (Option.some FieldType.boolean)) (hT : ST h0 sa s s.heap) (hA0 : ∀ q, (fun _ => False) q → h0 ≤ q)    : ∀ (w : Dt) (locs : List Loc) (ls : Array Slot), wp_X6_areSizesRight_66 post   w → (Blk D tc A (shW ad) ad w s.heap) → va_S (fun _ => False) s.heap s.heap locs → lv_has ls 3 [] → W p l e rm_X6_areSizesRight s m args below meth c s.heap locs 0 0 (MQ below (QB post (fun (_ : Int32) (H1 : Heap) => H1 = s.heap) (fun u : Int32 => some (.int u)) (fun _ => False)) args s rm_X6_areSizesRight.cells rm_X6_areSizesRight.slots (fun _ => False)) (F0 m 66 ls []) := by
  have hx := X.1
  have hb := X.2.1
  have hown := X.2.2.2.1
  have hU := X.2.2.2.2.1.1
  intro w  locs ls hw hBw hS hl
  unfold wp_X6_areSizesRight_66 at hw
  refine lv_iconst (v := 1) hx hb dX6_areSizesRight_66 (by decide) ?_
  exact e_z X hr rfl dX6_areSizesRight_67 hS (1) rfl hw rfl ⟨Nat.le_of_ble_eq_true rfl, Nat.le_of_ble_eq_true rfl⟩
def wp_X6_areSizesRight_60 (post : Int32 → Prop)  (K2 : Int32 → Dt → Prop) (y1 : Int32) (w : Dt) : Prop := K2 (y1 + 1) w
set_option maxHeartbeats 4000000 in
set_option maxRecDepth 100000 in
theorem t_X6_areSizesRight_60 {p : Program} {l : Launch} {e : Env} {s : State} {m : MethodId} {args : Array Value} {below : List Frame} {meth : Method} {c : Code} {D : va_G} {tc : Nat → ClassId} {h0 : Nat} {sa : Nat → Nat}  {ad : Nat → Nat} {A : Nat → Prop} {post : Int32 → Prop} {K2 : Int32 → Dt → Prop} (X : Cx p c s m meth cX6_areSizesRight 3 RX6 D tc) (hr : meth.sig.returnType = (Option.some FieldType.boolean)) (hT : ST h0 sa s s.heap) (hA0 : ∀ q, (fun _ => False) q → h0 ≤ q)   (hK2 : ∀ (y1 : Int32) (w : Dt) (locs : List Loc) (ls : Array Slot), K2 y1 w → (Blk D tc A (shW ad) ad w s.heap) → va_S (fun _ => False) s.heap s.heap locs → lv_has ls 3 [(0, .ref (ad 7)), (1, .int y1)] → W p l e rm_X6_areSizesRight s m args below meth c s.heap locs 0 0 (MQ below (QB post (fun (_ : Int32) (H1 : Heap) => H1 = s.heap) (fun u : Int32 => some (.int u)) (fun _ => False)) args s rm_X6_areSizesRight.cells rm_X6_areSizesRight.slots (fun _ => False)) (F0 m 2 ls [])) : ∀ (y1 : Int32) (w : Dt) (locs : List Loc) (ls : Array Slot), wp_X6_areSizesRight_60 post  K2 y1 w → (Blk D tc A (shW ad) ad w s.heap) → va_S (fun _ => False) s.heap s.heap locs → lv_has ls 3 [(0, .ref (ad 7)), (1, .int y1)] → W p l e rm_X6_areSizesRight s m args below meth c s.heap locs 0 0 (MQ below (QB post (fun (_ : Int32) (H1 : Heap) => H1 = s.heap) (fun u : Int32 => some (.int u)) (fun _ => False)) args s rm_X6_areSizesRight.cells rm_X6_areSizesRight.slots (fun _ => False)) (F0 m 60 ls []) := by
  have hx := X.1
  have hb := X.2.1
  have hown := X.2.2.2.1
  have hU := X.2.2.2.2.1.1
  intro y1 w  locs ls hw hBw hS hl
  unfold wp_X6_areSizesRight_60 at hw
  refine lv_iinc (lv' := [(1, .int (y1 + 1)), (0, .ref (ad 7))]) hx hb dX6_areSizesRight_60 hl (k := 1) rfl (by rfl) (by decide) rfl (fun ls hl => ?_)
  refine lv_goto (tgt := 2) hx hb dX6_areSizesRight_63 (by decide) ?_
  exact hK2 _ _ _ _ hw hBw hS (lv_sub hl [1, 0] rfl)
def wp_X6_areSizesRight_44 (post : Int32 → Prop)  (K2 : Int32 → Dt → Prop) (y1 : Int32) (z0 : Int32) (w : Dt) : Prop := vp_in y1 12 ∧ (((w 13 y1.toNatClampNeg) = 0 → wp_X6_areSizesRight_60 post  K2 y1 w) ∧ (¬ (w 13 y1.toNatClampNeg) = 0 → (¬ z0 = 0 → wp_X6_areSizesRight_60 post  K2 y1 w) ∧ (z0 = 0 → post 0)))
set_option maxHeartbeats 4000000 in
set_option maxRecDepth 100000 in
theorem t_X6_areSizesRight_44 {p : Program} {l : Launch} {e : Env} {s : State} {m : MethodId} {args : Array Value} {below : List Frame} {meth : Method} {c : Code} {D : va_G} {tc : Nat → ClassId} {h0 : Nat} {sa : Nat → Nat}  {ad : Nat → Nat} {A : Nat → Prop} {post : Int32 → Prop} {K2 : Int32 → Dt → Prop} (X : Cx p c s m meth cX6_areSizesRight 3 RX6 D tc) (hr : meth.sig.returnType = (Option.some FieldType.boolean)) (hT : ST h0 sa s s.heap) (hA0 : ∀ q, (fun _ => False) q → h0 ≤ q)   (hK2 : ∀ (y1 : Int32) (w : Dt) (locs : List Loc) (ls : Array Slot), K2 y1 w → (Blk D tc A (shW ad) ad w s.heap) → va_S (fun _ => False) s.heap s.heap locs → lv_has ls 3 [(0, .ref (ad 7)), (1, .int y1)] → W p l e rm_X6_areSizesRight s m args below meth c s.heap locs 0 0 (MQ below (QB post (fun (_ : Int32) (H1 : Heap) => H1 = s.heap) (fun u : Int32 => some (.int u)) (fun _ => False)) args s rm_X6_areSizesRight.cells rm_X6_areSizesRight.slots (fun _ => False)) (F0 m 2 ls [])) : ∀ (y1 : Int32) (z0 : Int32) (w : Dt) (locs : List Loc) (ls : Array Slot), wp_X6_areSizesRight_44 post  K2 y1 z0 w → (Blk D tc A (shW ad) ad w s.heap) → va_S (fun _ => False) s.heap s.heap locs → lv_has ls 3 [(0, .ref (ad 7)), (1, .int y1)] → W p l e rm_X6_areSizesRight s m args below meth c s.heap locs 0 0 (MQ below (QB post (fun (_ : Int32) (H1 : Heap) => H1 = s.heap) (fun u : Int32 => some (.int u)) (fun _ => False)) args s rm_X6_areSizesRight.cells rm_X6_areSizesRight.slots (fun _ => False)) (F0 m 44 ls [.int z0]) := by
  have hx := X.1
  have hb := X.2.1
  have hown := X.2.2.2.1
  have hU := X.2.2.2.2.1.1
  intro y1 z0 w  locs ls hw hBw hS hl
  unfold wp_X6_areSizesRight_44 at hw
  refine lv_istore_n (lv' := [(2, .int z0), (0, .ref (ad 7)), (1, .int y1)]) hx hb dX6_areSizesRight_44 rfl hl (by decide) rfl (fun ls hl => ?_)
  refine lv_aload_n hx hb dX6_areSizesRight_45 rfl (lv_at hl 1 rfl) ?_
  refine g_get X dX6_areSizesRight_46 f_X6_28 hBw 7 (v := .ref (ad 13)) rfl rfl ?_
  refine lv_iload_n hx hb dX6_areSizesRight_49 rfl (lv_at hl 2 rfl) ?_
  obtain ⟨o5, hw⟩ := hw
  refine g_zald X dX6_areSizesRight_50 hBw 13 rfl o5 rfl ?_
  refine lv_if_eq (tgt := 60) hx hb dX6_areSizesRight_51 (by decide) (fun c6 => ?_) (fun c6 => ?_)
  · have hw := hw.1 c6
    exact t_X6_areSizesRight_60 X hr hT hA0  hK2 _ _ _ _ hw hBw hS (lv_sub hl [1, 2] rfl)
  · have hw := hw.2 c6
    refine lv_iload_n hx hb dX6_areSizesRight_54 rfl (lv_at hl 0 rfl) ?_
    refine lv_if_ne (tgt := 60) hx hb dX6_areSizesRight_55 (by decide) (fun c7 => ?_) (fun c7 => ?_)
    · have hw := hw.1 c7
      exact t_X6_areSizesRight_60 X hr hT hA0  hK2 _ _ _ _ hw hBw hS (lv_sub hl [1, 2] rfl)
    · have hw := hw.2 c7
      refine lv_iconst (v := 0) hx hb dX6_areSizesRight_58 (by decide) ?_
      exact e_z X hr rfl dX6_areSizesRight_59 hS (0) rfl hw rfl ⟨Nat.le_of_ble_eq_true rfl, Nat.le_of_ble_eq_true rfl⟩
def wp_X6_areSizesRight_43 (post : Int32 → Prop)  (K2 : Int32 → Dt → Prop) (y1 : Int32) (w : Dt) : Prop := wp_X6_areSizesRight_44 post  K2 y1 0 w
set_option maxHeartbeats 4000000 in
set_option maxRecDepth 100000 in
theorem t_X6_areSizesRight_43 {p : Program} {l : Launch} {e : Env} {s : State} {m : MethodId} {args : Array Value} {below : List Frame} {meth : Method} {c : Code} {D : va_G} {tc : Nat → ClassId} {h0 : Nat} {sa : Nat → Nat}  {ad : Nat → Nat} {A : Nat → Prop} {post : Int32 → Prop} {K2 : Int32 → Dt → Prop} (X : Cx p c s m meth cX6_areSizesRight 3 RX6 D tc) (hr : meth.sig.returnType = (Option.some FieldType.boolean)) (hT : ST h0 sa s s.heap) (hA0 : ∀ q, (fun _ => False) q → h0 ≤ q)   (hK2 : ∀ (y1 : Int32) (w : Dt) (locs : List Loc) (ls : Array Slot), K2 y1 w → (Blk D tc A (shW ad) ad w s.heap) → va_S (fun _ => False) s.heap s.heap locs → lv_has ls 3 [(0, .ref (ad 7)), (1, .int y1)] → W p l e rm_X6_areSizesRight s m args below meth c s.heap locs 0 0 (MQ below (QB post (fun (_ : Int32) (H1 : Heap) => H1 = s.heap) (fun u : Int32 => some (.int u)) (fun _ => False)) args s rm_X6_areSizesRight.cells rm_X6_areSizesRight.slots (fun _ => False)) (F0 m 2 ls [])) : ∀ (y1 : Int32) (w : Dt) (locs : List Loc) (ls : Array Slot), wp_X6_areSizesRight_43 post  K2 y1 w → (Blk D tc A (shW ad) ad w s.heap) → va_S (fun _ => False) s.heap s.heap locs → lv_has ls 3 [(0, .ref (ad 7)), (1, .int y1)] → W p l e rm_X6_areSizesRight s m args below meth c s.heap locs 0 0 (MQ below (QB post (fun (_ : Int32) (H1 : Heap) => H1 = s.heap) (fun u : Int32 => some (.int u)) (fun _ => False)) args s rm_X6_areSizesRight.cells rm_X6_areSizesRight.slots (fun _ => False)) (F0 m 43 ls []) := by
  have hx := X.1
  have hb := X.2.1
  have hown := X.2.2.2.1
  have hU := X.2.2.2.2.1.1
  intro y1 w  locs ls hw hBw hS hl
  unfold wp_X6_areSizesRight_43 at hw
  refine lv_iconst (v := 0) hx hb dX6_areSizesRight_43 (by decide) ?_
  exact t_X6_areSizesRight_44 X hr hT hA0  hK2 _ _ _ _ _ hw hBw hS (lv_sub hl [0, 1] rfl)
def wp_X6_areSizesRight_2 (post : Int32 → Prop)   : Nat → Int32 → Dt → Prop
  | 0, _, _ => False
  | n9 + 1, y1, w => ((w 7 0) ≤ y1 → wp_X6_areSizesRight_66 post   w) ∧ (¬ (w 7 0) ≤ y1 → (12 ≤ y1 → wp_X6_areSizesRight_66 post   w) ∧ (¬ 12 ≤ y1 → vp_in y1 12 ∧ (((w 10 y1.toNatClampNeg) < 10 → wp_X6_areSizesRight_43 post  (fun a0 w => wp_X6_areSizesRight_2 post   n9 a0 w) y1 w) ∧ (¬ (w 10 y1.toNatClampNeg) < 10 → (400 < (w 10 y1.toNatClampNeg) → wp_X6_areSizesRight_43 post  (fun a0 w => wp_X6_areSizesRight_2 post   n9 a0 w) y1 w) ∧ (¬ 400 < (w 10 y1.toNatClampNeg) → wp_X6_areSizesRight_44 post  (fun a0 w => wp_X6_areSizesRight_2 post   n9 a0 w) y1 1 w)))))
set_option maxHeartbeats 4000000 in
set_option maxRecDepth 100000 in
theorem t_X6_areSizesRight_2 {p : Program} {l : Launch} {e : Env} {s : State} {m : MethodId} {args : Array Value} {below : List Frame} {meth : Method} {c : Code} {D : va_G} {tc : Nat → ClassId} {h0 : Nat} {sa : Nat → Nat}  {ad : Nat → Nat} {A : Nat → Prop} {post : Int32 → Prop}  (X : Cx p c s m meth cX6_areSizesRight 3 RX6 D tc) (hr : meth.sig.returnType = (Option.some FieldType.boolean)) (hT : ST h0 sa s s.heap) (hA0 : ∀ q, (fun _ => False) q → h0 ≤ q)    : ∀ (n9 : Nat) (y1 : Int32) (w : Dt) (locs : List Loc) (ls : Array Slot), wp_X6_areSizesRight_2 post   n9 y1 w → (Blk D tc A (shW ad) ad w s.heap) → va_S (fun _ => False) s.heap s.heap locs → lv_has ls 3 [(0, .ref (ad 7)), (1, .int y1)] → W p l e rm_X6_areSizesRight s m args below meth c s.heap locs 0 0 (MQ below (QB post (fun (_ : Int32) (H1 : Heap) => H1 = s.heap) (fun u : Int32 => some (.int u)) (fun _ => False)) args s rm_X6_areSizesRight.cells rm_X6_areSizesRight.slots (fun _ => False)) (F0 m 2 ls []) := by
  have hx := X.1
  have hb := X.2.1
  have hown := X.2.2.2.1
  have hU := X.2.2.2.2.1.1
  intro n9
  induction n9 with
  | zero =>
    intro y1 w  locs ls hw
    exact hw.elim
  | succ n9 ih =>
    intro y1 w  locs ls hw hBw hS hl
    unfold wp_X6_areSizesRight_2 at hw
    refine lv_iload_n hx hb dX6_areSizesRight_2 rfl (lv_at hl 1 rfl) ?_
    refine lv_aload_n hx hb dX6_areSizesRight_3 rfl (lv_at hl 0 rfl) ?_
    refine g_get X dX6_areSizesRight_4 f_X6_35 hBw 7 (v := .int (w 7 0)) rfl rfl ?_
    refine lv_icmp_ge (tgt := 66) hx hb dX6_areSizesRight_7 (by decide) (fun c1 => ?_) (fun c1 => ?_)
    · have hw := hw.1 c1
      exact t_X6_areSizesRight_66 X hr hT hA0   _ _ _ hw hBw hS (lv_sub hl [] rfl)
    · have hw := hw.2 c1
      refine lv_iload_n hx hb dX6_areSizesRight_10 rfl (lv_at hl 1 rfl) ?_
      refine lv_bipush (v := 12) hx hb dX6_areSizesRight_11 (by decide) ?_
      refine lv_icmp_ge (tgt := 66) hx hb dX6_areSizesRight_13 (by decide) (fun c2 => ?_) (fun c2 => ?_)
      · have hw := hw.1 c2
        exact t_X6_areSizesRight_66 X hr hT hA0   _ _ _ hw hBw hS (lv_sub hl [] rfl)
      · have hw := hw.2 c2
        refine lv_aload_n hx hb dX6_areSizesRight_16 rfl (lv_at hl 0 rfl) ?_
        refine g_get X dX6_areSizesRight_17 f_X6_18 hBw 7 (v := .ref (ad 10)) rfl rfl ?_
        refine lv_iload_n hx hb dX6_areSizesRight_20 rfl (lv_at hl 1 rfl) ?_
        obtain ⟨o3, hw⟩ := hw
        refine g_iald X dX6_areSizesRight_21 hBw 10 rfl o3 rfl ?_
        refine lv_bipush (v := 10) hx hb dX6_areSizesRight_22 (by decide) ?_
        refine lv_icmp_lt (tgt := 43) hx hb dX6_areSizesRight_24 (by decide) (fun c4 => ?_) (fun c4 => ?_)
        · have hw := hw.1 c4
          exact t_X6_areSizesRight_43 X hr hT hA0  ih _ _ _ _ hw hBw hS (lv_sub hl [0, 1] rfl)
        · have hw := hw.2 c4
          refine lv_aload_n hx hb dX6_areSizesRight_27 rfl (lv_at hl 0 rfl) ?_
          refine g_get X dX6_areSizesRight_28 f_X6_18 hBw 7 (v := .ref (ad 10)) rfl rfl ?_
          refine lv_iload_n hx hb dX6_areSizesRight_31 rfl (lv_at hl 1 rfl) ?_
          refine g_iald X dX6_areSizesRight_32 hBw 10 rfl o3 rfl ?_
          refine lv_sipush (v := 400) hx hb dX6_areSizesRight_33 (by decide) ?_
          refine lv_icmp_gt (tgt := 43) hx hb dX6_areSizesRight_36 (by decide) (fun c8 => ?_) (fun c8 => ?_)
          · have hw := hw.1 c8
            exact t_X6_areSizesRight_43 X hr hT hA0  ih _ _ _ _ hw hBw hS (lv_sub hl [0, 1] rfl)
          · have hw := hw.2 c8
            refine lv_iconst (v := 1) hx hb dX6_areSizesRight_39 (by decide) ?_
            refine lv_goto (tgt := 44) hx hb dX6_areSizesRight_40 (by decide) ?_
            exact t_X6_areSizesRight_44 X hr hT hA0  ih _ _ _ _ _ hw hBw hS (lv_sub hl [0, 1] rfl)
def wp_X6_areSizesRight (post : Int32 → Prop) (w : Dt) : Prop := ∃ k9 : Nat, wp_X6_areSizesRight_2 post   k9 0 w
set_option maxHeartbeats 4000000 in
set_option maxRecDepth 100000 in
theorem c_X6_areSizesRight (l : Launch) (D : va_G) (tc : Nat → ClassId) (h0 : Nat) (sa : Nat → Nat)  (H0 : Heap) {ad : Nat → Nat} {A : Nat → Prop} {w : Dt} (hBw : Blk D tc A (shW ad) ad w H0)  {post : Int32 → Prop} (hw : wp_X6_areSizesRight post w) : MB l yX6_areSizesRight cX6_areSizesRight 3 (Option.some FieldType.boolean) rm_X6_areSizesRight (fun _ => False) [.ref (ad 7)] D tc h0 sa H0 post (fun (_ : Int32) (H1 : Heap) => H1 = H0) (fun u : Int32 => some (.int u)) := by
  have hA0 : ∀ q : Nat, (fun _ : Nat => False) q → h0 ≤ q := fun _ h => h.elim
  refine MB.of RX6 [(0, .ref (ad 7))] (by decide +kernel) rfl (Nat.le_of_ble_eq_true rfl) rfl ?_
  intro p e s m below meth c ls X hr hin hT hH hS hl
  subst hH
  have hx := X.1
  have hb := X.2.1
  have hown := X.2.2.2.1
  have hU := X.2.2.2.2.1.1
  unfold wp_X6_areSizesRight at hw
  refine lv_iconst (v := 0) hx hb dX6_areSizesRight_0 (by decide) ?_
  refine lv_istore_n (lv' := [(1, .int 0), (0, .ref (ad 7))]) hx hb dX6_areSizesRight_1 rfl hl (by decide) rfl (fun ls hl => ?_)
  obtain ⟨k9, hw⟩ := hw
  exact t_X6_areSizesRight_2 X hr hT hA0   k9 _ _ _ _ hw hBw hS (lv_sub hl [1, 0] rfl)
abbrev rm_X6_addTo : Room := { frames := 0, cells := 0, slots := 0, locals := 0 }
def wp_X6_addTo_71 (post : Int64 → Prop)   (y3 : Int64) (w : Dt) : Prop := post y3
set_option maxHeartbeats 4000000 in
set_option maxRecDepth 100000 in
theorem t_X6_addTo_71 {p : Program} {l : Launch} {e : Env} {s : State} {m : MethodId} {args : Array Value} {below : List Frame} {meth : Method} {c : Code} {D : va_G} {tc : Nat → ClassId} {h0 : Nat} {sa : Nat → Nat}  {ad : Nat → Nat} {A : Nat → Prop} {post : Int64 → Prop}  (X : Cx p c s m meth cX6_addTo 6 RX6 D tc) (hr : meth.sig.returnType = (Option.some FieldType.long)) (hT : ST h0 sa s s.heap) (hA0 : ∀ q, (fun _ => False) q → h0 ≤ q)    : ∀ (y3 : Int64) (w : Dt) (locs : List Loc) (ls : Array Slot), wp_X6_addTo_71 post   y3 w → (Blk D tc A (shW ad) ad w s.heap) → va_S (fun _ => False) s.heap s.heap locs → lv_has ls 6 [(3, .long y3)] → W p l e rm_X6_addTo s m args below meth c s.heap locs 0 0 (MQ below (QB post (fun (_ : Int64) (H1 : Heap) => H1 = s.heap) (fun u : Int64 => some (.long u)) (fun _ => False)) args s rm_X6_addTo.cells rm_X6_addTo.slots (fun _ => False)) (F0 m 71 ls []) := by
  have hx := X.1
  have hb := X.2.1
  have hown := X.2.2.2.1
  have hU := X.2.2.2.2.1.1
  intro y3 w  locs ls hw hBw hS hl
  unfold wp_X6_addTo_71 at hw
  refine lv_lload_n hx hb dX6_addTo_71 rfl (lv_at hl 0 rfl) ?_
  exact e_l X hr dX6_addTo_72 hS (y3) rfl hw rfl ⟨Nat.le_of_ble_eq_true rfl, Nat.le_of_ble_eq_true rfl⟩
def wp_X6_addTo_47 (post : Int64 → Prop)  (K5 : Int64 → Int32 → Dt → Prop) (y5 : Int32) (z0 : Int32) (z1 : Int64) (w : Dt) : Prop := vp_in y5 12 ∧ (∀ v6 : Int64, v6 = ((31 * (z1 + z0.toInt64)) + (w 9 y5.toNatClampNeg).toInt64) → (K5 v6 (y5 + 1) w))
set_option maxHeartbeats 4000000 in
set_option maxRecDepth 100000 in
theorem t_X6_addTo_47 {p : Program} {l : Launch} {e : Env} {s : State} {m : MethodId} {args : Array Value} {below : List Frame} {meth : Method} {c : Code} {D : va_G} {tc : Nat → ClassId} {h0 : Nat} {sa : Nat → Nat}  {ad : Nat → Nat} {A : Nat → Prop} {post : Int64 → Prop} {K5 : Int64 → Int32 → Dt → Prop} (X : Cx p c s m meth cX6_addTo 6 RX6 D tc) (hr : meth.sig.returnType = (Option.some FieldType.long)) (hT : ST h0 sa s s.heap) (hA0 : ∀ q, (fun _ => False) q → h0 ≤ q)   (hK5 : ∀ (y3 : Int64) (y5 : Int32) (w : Dt) (locs : List Loc) (ls : Array Slot), K5 y3 y5 w → (Blk D tc A (shW ad) ad w s.heap) → va_S (fun _ => False) s.heap s.heap locs → lv_has ls 6 [(0, .ref (ad 7)), (3, .long y3), (5, .int y5)] → W p l e rm_X6_addTo s m args below meth c s.heap locs 0 0 (MQ below (QB post (fun (_ : Int64) (H1 : Heap) => H1 = s.heap) (fun u : Int64 => some (.long u)) (fun _ => False)) args s rm_X6_addTo.cells rm_X6_addTo.slots (fun _ => False)) (F0 m 5 ls [])) : ∀ (y5 : Int32) (z0 : Int32) (z1 : Int64) (w : Dt) (locs : List Loc) (ls : Array Slot), wp_X6_addTo_47 post  K5 y5 z0 z1 w → (Blk D tc A (shW ad) ad w s.heap) → va_S (fun _ => False) s.heap s.heap locs → lv_has ls 6 [(0, .ref (ad 7)), (5, .int y5)] → W p l e rm_X6_addTo s m args below meth c s.heap locs 0 0 (MQ below (QB post (fun (_ : Int64) (H1 : Heap) => H1 = s.heap) (fun u : Int64 => some (.long u)) (fun _ => False)) args s rm_X6_addTo.cells rm_X6_addTo.slots (fun _ => False)) (F0 m 47 ls [.int z0, .long z1]) := by
  have hx := X.1
  have hb := X.2.1
  have hown := X.2.2.2.1
  have hU := X.2.2.2.2.1.1
  intro y5 z0 z1 w  locs ls hw hBw hS hl
  unfold wp_X6_addTo_47 at hw
  refine lv_i2l (v := z0.toInt64) hx hb dX6_addTo_47 rfl ?_
  refine lv_ladd hx hb dX6_addTo_48 ?_
  refine lv_lstore_n (lv' := [(3, .long (z1 + z0.toInt64)), (0, .ref (ad 7)), (5, .int y5)]) hx hb dX6_addTo_49 rfl hl (by decide) rfl (fun ls hl => ?_)
  refine lv_ldc2 (v := 31) hx hb hown (hU.use w_300) dX6_addTo_50 ?_
  refine lv_lload_n hx hb dX6_addTo_53 rfl (lv_at hl 0 rfl) ?_
  refine lv_lmul hx hb dX6_addTo_54 ?_
  refine lv_aload_n hx hb dX6_addTo_55 rfl (lv_at hl 1 rfl) ?_
  refine g_get X dX6_addTo_56 f_X6_15 hBw 7 (v := .ref (ad 9)) rfl rfl ?_
  refine lv_iload hx hb dX6_addTo_59 (lv_at hl 2 rfl) ?_
  obtain ⟨o5, hw⟩ := hw
  refine g_iald X dX6_addTo_61 hBw 9 rfl o5 rfl ?_
  refine lv_i2l (v := (w 9 y5.toNatClampNeg).toInt64) hx hb dX6_addTo_62 rfl ?_
  refine lv_ladd hx hb dX6_addTo_63 ?_
  refine lv_topl (fun v6 ev6 => ?_)
  have hw := hw v6 ev6
  refine lv_lstore_n (lv' := [(3, .long v6), (0, .ref (ad 7)), (5, .int y5)]) hx hb dX6_addTo_64 rfl hl (by decide) rfl (fun ls hl => ?_)
  refine lv_iinc (lv' := [(5, .int (y5 + 1)), (3, .long v6), (0, .ref (ad 7))]) hx hb dX6_addTo_65 hl (k := 2) rfl (by rfl) (by decide) rfl (fun ls hl => ?_)
  refine lv_goto (tgt := 5) hx hb dX6_addTo_68 (by decide) ?_
  exact hK5 _ _ _ _ _ hw hBw hS (lv_sub hl [2, 1, 0] rfl)
def wp_X6_addTo_5 (post : Int64 → Prop)   : Nat → Int64 → Int32 → Dt → Prop
  | 0, _, _, _ => False
  | n9 + 1, y3, y5, w => ((w 7 0) ≤ y5 → wp_X6_addTo_71 post   y3 w) ∧ (¬ (w 7 0) ≤ y5 → (12 ≤ y5 → wp_X6_addTo_71 post   y3 w) ∧ (¬ 12 ≤ y5 → vp_in y5 12 ∧ (((w 13 y5.toNatClampNeg) = 0 → wp_X6_addTo_47 post  (fun a0 a1 w => wp_X6_addTo_5 post   n9 a0 a1 w) y5 0 (31 * y3) w) ∧ (¬ (w 13 y5.toNatClampNeg) = 0 → wp_X6_addTo_47 post  (fun a0 a1 w => wp_X6_addTo_5 post   n9 a0 a1 w) y5 (w 10 y5.toNatClampNeg) (31 * y3) w))))
set_option maxHeartbeats 4000000 in
set_option maxRecDepth 100000 in
theorem t_X6_addTo_5 {p : Program} {l : Launch} {e : Env} {s : State} {m : MethodId} {args : Array Value} {below : List Frame} {meth : Method} {c : Code} {D : va_G} {tc : Nat → ClassId} {h0 : Nat} {sa : Nat → Nat}  {ad : Nat → Nat} {A : Nat → Prop} {post : Int64 → Prop}  (X : Cx p c s m meth cX6_addTo 6 RX6 D tc) (hr : meth.sig.returnType = (Option.some FieldType.long)) (hT : ST h0 sa s s.heap) (hA0 : ∀ q, (fun _ => False) q → h0 ≤ q)    : ∀ (n9 : Nat) (y3 : Int64) (y5 : Int32) (w : Dt) (locs : List Loc) (ls : Array Slot), wp_X6_addTo_5 post   n9 y3 y5 w → (Blk D tc A (shW ad) ad w s.heap) → va_S (fun _ => False) s.heap s.heap locs → lv_has ls 6 [(0, .ref (ad 7)), (3, .long y3), (5, .int y5)] → W p l e rm_X6_addTo s m args below meth c s.heap locs 0 0 (MQ below (QB post (fun (_ : Int64) (H1 : Heap) => H1 = s.heap) (fun u : Int64 => some (.long u)) (fun _ => False)) args s rm_X6_addTo.cells rm_X6_addTo.slots (fun _ => False)) (F0 m 5 ls []) := by
  have hx := X.1
  have hb := X.2.1
  have hown := X.2.2.2.1
  have hU := X.2.2.2.2.1.1
  intro n9
  induction n9 with
  | zero =>
    intro y3 y5 w  locs ls hw
    exact hw.elim
  | succ n9 ih =>
    intro y3 y5 w  locs ls hw hBw hS hl
    unfold wp_X6_addTo_5 at hw
    refine lv_iload hx hb dX6_addTo_5 (lv_at hl 2 rfl) ?_
    refine lv_aload_n hx hb dX6_addTo_7 rfl (lv_at hl 0 rfl) ?_
    refine g_get X dX6_addTo_8 f_X6_35 hBw 7 (v := .int (w 7 0)) rfl rfl ?_
    refine lv_icmp_ge (tgt := 71) hx hb dX6_addTo_11 (by decide) (fun c1 => ?_) (fun c1 => ?_)
    · have hw := hw.1 c1
      exact t_X6_addTo_71 X hr hT hA0   _ _ _ _ hw hBw hS (lv_sub hl [1] rfl)
    · have hw := hw.2 c1
      refine lv_iload hx hb dX6_addTo_14 (lv_at hl 2 rfl) ?_
      refine lv_bipush (v := 12) hx hb dX6_addTo_16 (by decide) ?_
      refine lv_icmp_ge (tgt := 71) hx hb dX6_addTo_18 (by decide) (fun c2 => ?_) (fun c2 => ?_)
      · have hw := hw.1 c2
        exact t_X6_addTo_71 X hr hT hA0   _ _ _ _ hw hBw hS (lv_sub hl [1] rfl)
      · have hw := hw.2 c2
        refine lv_ldc2 (v := 31) hx hb hown (hU.use w_300) dX6_addTo_21 ?_
        refine lv_lload_n hx hb dX6_addTo_24 rfl (lv_at hl 1 rfl) ?_
        refine lv_lmul hx hb dX6_addTo_25 ?_
        refine lv_aload_n hx hb dX6_addTo_26 rfl (lv_at hl 0 rfl) ?_
        refine g_get X dX6_addTo_27 f_X6_28 hBw 7 (v := .ref (ad 13)) rfl rfl ?_
        refine lv_iload hx hb dX6_addTo_30 (lv_at hl 2 rfl) ?_
        obtain ⟨o3, hw⟩ := hw
        refine g_zald X dX6_addTo_32 hBw 13 rfl o3 rfl ?_
        refine lv_if_eq (tgt := 46) hx hb dX6_addTo_33 (by decide) (fun c4 => ?_) (fun c4 => ?_)
        · have hw := hw.1 c4
          refine lv_iconst (v := 0) hx hb dX6_addTo_46 (by decide) ?_
          exact t_X6_addTo_47 X hr hT hA0  ih _ _ _ _ _ _ hw hBw hS (lv_sub hl [0, 2] rfl)
        · have hw := hw.2 c4
          refine lv_aload_n hx hb dX6_addTo_36 rfl (lv_at hl 0 rfl) ?_
          refine g_get X dX6_addTo_37 f_X6_18 hBw 7 (v := .ref (ad 10)) rfl rfl ?_
          refine lv_iload hx hb dX6_addTo_40 (lv_at hl 2 rfl) ?_
          refine g_iald X dX6_addTo_42 hBw 10 rfl o3 rfl ?_
          refine lv_goto (tgt := 47) hx hb dX6_addTo_43 (by decide) ?_
          exact t_X6_addTo_47 X hr hT hA0  ih _ _ _ _ _ _ hw hBw hS (lv_sub hl [0, 2] rfl)
def wp_X6_addTo (post : Int64 → Prop) (w : Dt) (x1 : Int64) : Prop := ∃ k9 : Nat, wp_X6_addTo_5 post   k9 x1 0 w
set_option maxHeartbeats 4000000 in
set_option maxRecDepth 100000 in
theorem c_X6_addTo (l : Launch) (D : va_G) (tc : Nat → ClassId) (h0 : Nat) (sa : Nat → Nat) (x1 : Int64) (H0 : Heap) {ad : Nat → Nat} {A : Nat → Prop} {w : Dt} (hBw : Blk D tc A (shW ad) ad w H0)  {post : Int64 → Prop} (hw : wp_X6_addTo post w x1) : MB l yX6_addTo cX6_addTo 6 (Option.some FieldType.long) rm_X6_addTo (fun _ => False) [.ref (ad 7), .long x1] D tc h0 sa H0 post (fun (_ : Int64) (H1 : Heap) => H1 = H0) (fun u : Int64 => some (.long u)) := by
  have hA0 : ∀ q : Nat, (fun _ : Nat => False) q → h0 ≤ q := fun _ h => h.elim
  refine MB.of RX6 [(0, .ref (ad 7)), (1, .long x1)] (by decide +kernel) rfl (Nat.le_of_ble_eq_true rfl) rfl ?_
  intro p e s m below meth c ls X hr hin hT hH hS hl
  subst hH
  have hx := X.1
  have hb := X.2.1
  have hown := X.2.2.2.1
  have hU := X.2.2.2.2.1.1
  unfold wp_X6_addTo at hw
  refine lv_lload_n hx hb dX6_addTo_0 rfl (lv_at hl 1 rfl) ?_
  refine lv_lstore_n (lv' := [(3, .long x1), (0, .ref (ad 7)), (1, .long x1)]) hx hb dX6_addTo_1 rfl hl (by decide) rfl (fun ls hl => ?_)
  refine lv_iconst (v := 0) hx hb dX6_addTo_2 (by decide) ?_
  refine lv_istore (lv' := [(5, .int 0), (3, .long x1), (0, .ref (ad 7)), (1, .long x1)]) hx hb dX6_addTo_3 hl (by decide) rfl (fun ls hl => ?_)
  obtain ⟨k9, hw⟩ := hw
  exact t_X6_addTo_5 X hr hT hA0   k9 _ _ _ _ _ hw hBw hS (lv_sub hl [2, 1, 0] rfl)
abbrev rm_X6_copyFrom : Room := { frames := 0, cells := 0, slots := 0, locals := 0 }
def wp_X6_copyFrom_10 (post : Dt → Prop)   : Nat → Int32 → Dt → Dt → Prop
  | 0, _, _, _ => False
  | n9 + 1, y2, w, v => (12 ≤ y2 → post w) ∧ (¬ 12 ≤ y2 → vp_in y2 12 ∧ (∀ w4 : Dt, w4 = up2 w 8 y2.toNatClampNeg (v 8 y2.toNatClampNeg) → (∀ w5 : Dt, w5 = up2 w4 9 y2.toNatClampNeg (v 9 y2.toNatClampNeg) → (∀ w6 : Dt, w6 = up2 w5 10 y2.toNatClampNeg (v 10 y2.toNatClampNeg) → (∀ w7 : Dt, w7 = up2 w6 11 y2.toNatClampNeg (v 11 y2.toNatClampNeg) → (narrow .char (.int (v 12 y2.toNatClampNeg)) = .int (v 12 y2.toNatClampNeg) ∧ (∀ w9 : Dt, w9 = up2 w7 12 y2.toNatClampNeg (v 12 y2.toNatClampNeg) → (narrow .boolean (.int (v 13 y2.toNatClampNeg)) = .int (v 13 y2.toNatClampNeg) ∧ (∀ w11 : Dt, w11 = up2 w9 13 y2.toNatClampNeg (v 13 y2.toNatClampNeg) → (∀ w12 : Dt, w12 = up2 w11 14 y2.toNatClampNeg (v 14 y2.toNatClampNeg) → (wp_X6_copyFrom_10 post   n9 (y2 + 1) w12 v)))))))))))
set_option maxHeartbeats 4000000 in
set_option maxRecDepth 100000 in
theorem t_X6_copyFrom_10 {p : Program} {l : Launch} {e : Env} {s : State} {m : MethodId} {args : Array Value} {below : List Frame} {meth : Method} {c : Code} {D : va_G} {tc : Nat → ClassId} {h0 : Nat} {sa : Nat → Nat}  {ad : Nat → Nat} {A : Nat → Prop} {bd : Nat → Nat} {A2 : Nat → Prop} {post : Dt → Prop}  (X : Cx p c s m meth cX6_copyFrom 3 RX6 D tc) (hr : meth.sig.returnType = (Option.none : Option FieldType)) (hT : ST h0 sa s s.heap) (hA0 : ∀ q, A q → h0 ≤ q) (hDv : ∀ q, A q → ¬ A2 q)   : ∀ (n9 : Nat) (y2 : Int32) (w : Dt) (v : Dt) (H : Heap) (locs : List Loc) (ls : Array Slot), wp_X6_copyFrom_10 post   n9 y2 w v → (Blk D tc A (shW ad) ad w H) → (Blk D tc A2 (shW bd) bd v H) → va_S A s.heap H locs → lv_has ls 3 [(0, .ref (ad 7)), (1, .ref (bd 7)), (2, .int y2)] → W p l e rm_X6_copyFrom s m args below meth c H locs 0 0 (MQ below (QB post (fun (u : Dt) (H1 : Heap) => Blk D tc A (shW ad) ad u H1) (fun _ : Dt => none) A) args s rm_X6_copyFrom.cells rm_X6_copyFrom.slots A) (F0 m 10 ls []) := by
  have hx := X.1
  have hb := X.2.1
  have hown := X.2.2.2.1
  have hU := X.2.2.2.2.1.1
  intro n9
  induction n9 with
  | zero =>
    intro y2 w v H locs ls hw
    exact hw.elim
  | succ n9 ih =>
    intro y2 w v H locs ls hw hBw hBv hS hl
    unfold wp_X6_copyFrom_10 at hw
    refine lv_iload_n hx hb dX6_copyFrom_10 rfl (lv_at hl 2 rfl) ?_
    refine lv_bipush (v := 12) hx hb dX6_copyFrom_11 (by decide) ?_
    refine lv_icmp_ge (tgt := 106) hx hb dX6_copyFrom_13 (by decide) (fun c2 => ?_) (fun c2 => ?_)
    · have hw := hw.1 c2
      exact e_v X hr dX6_copyFrom_106 hS (w) rfl hw hBw ⟨Nat.le_of_ble_eq_true rfl, Nat.le_of_ble_eq_true rfl⟩
    · have hw := hw.2 c2
      refine lv_aload_n hx hb dX6_copyFrom_16 rfl (lv_at hl 0 rfl) ?_
      refine g_get X dX6_copyFrom_17 f_X6_9 hBw 7 (v := .ref (ad 8)) rfl rfl ?_
      refine lv_iload_n hx hb dX6_copyFrom_20 rfl (lv_at hl 2 rfl) ?_
      refine lv_aload_n hx hb dX6_copyFrom_21 rfl (lv_at hl 1 rfl) ?_
      refine g_get X dX6_copyFrom_22 f_X6_9 hBv 7 (v := .ref (bd 8)) rfl rfl ?_
      refine lv_iload_n hx hb dX6_copyFrom_25 rfl (lv_at hl 2 rfl) ?_
      obtain ⟨o3, hw⟩ := hw
      refine g_iald X dX6_copyFrom_26 hBv 8 rfl o3 rfl ?_
      refine g_iast X dX6_copyFrom_27 hBw hS 8 rfl o3 rfl  (fun H locs hBw oq hS => ?_)
      have hBv := hBv.kept1 oq (hDv _ (hBw.in (i := 8) rfl))
      obtain ⟨w4, ew4⟩ : ∃ z : Dt, z = up2 w 8 y2.toNatClampNeg (v 8 y2.toNatClampNeg) := ⟨_, rfl⟩
      rw [← ew4] at hBw
      have hw := hw w4 ew4
      refine lv_aload_n hx hb dX6_copyFrom_28 rfl (lv_at hl 0 rfl) ?_
      refine g_get X dX6_copyFrom_29 f_X6_15 hBw 7 (v := .ref (ad 9)) rfl rfl ?_
      refine lv_iload_n hx hb dX6_copyFrom_32 rfl (lv_at hl 2 rfl) ?_
      refine lv_aload_n hx hb dX6_copyFrom_33 rfl (lv_at hl 1 rfl) ?_
      refine g_get X dX6_copyFrom_34 f_X6_15 hBv 7 (v := .ref (bd 9)) rfl rfl ?_
      refine lv_iload_n hx hb dX6_copyFrom_37 rfl (lv_at hl 2 rfl) ?_
      refine g_iald X dX6_copyFrom_38 hBv 9 rfl o3 rfl ?_
      refine g_iast X dX6_copyFrom_39 hBw hS 9 rfl o3 rfl  (fun H locs hBw oq hS => ?_)
      have hBv := hBv.kept1 oq (hDv _ (hBw.in (i := 9) rfl))
      obtain ⟨w5, ew5⟩ : ∃ z : Dt, z = up2 w4 9 y2.toNatClampNeg (v 9 y2.toNatClampNeg) := ⟨_, rfl⟩
      rw [← ew5] at hBw
      have hw := hw w5 ew5
      refine lv_aload_n hx hb dX6_copyFrom_40 rfl (lv_at hl 0 rfl) ?_
      refine g_get X dX6_copyFrom_41 f_X6_18 hBw 7 (v := .ref (ad 10)) rfl rfl ?_
      refine lv_iload_n hx hb dX6_copyFrom_44 rfl (lv_at hl 2 rfl) ?_
      refine lv_aload_n hx hb dX6_copyFrom_45 rfl (lv_at hl 1 rfl) ?_
      refine g_get X dX6_copyFrom_46 f_X6_18 hBv 7 (v := .ref (bd 10)) rfl rfl ?_
      refine lv_iload_n hx hb dX6_copyFrom_49 rfl (lv_at hl 2 rfl) ?_
      refine g_iald X dX6_copyFrom_50 hBv 10 rfl o3 rfl ?_
      refine g_iast X dX6_copyFrom_51 hBw hS 10 rfl o3 rfl  (fun H locs hBw oq hS => ?_)
      have hBv := hBv.kept1 oq (hDv _ (hBw.in (i := 10) rfl))
      obtain ⟨w6, ew6⟩ : ∃ z : Dt, z = up2 w5 10 y2.toNatClampNeg (v 10 y2.toNatClampNeg) := ⟨_, rfl⟩
      rw [← ew6] at hBw
      have hw := hw w6 ew6
      refine lv_aload_n hx hb dX6_copyFrom_52 rfl (lv_at hl 0 rfl) ?_
      refine g_get X dX6_copyFrom_53 f_X6_21 hBw 7 (v := .ref (ad 11)) rfl rfl ?_
      refine lv_iload_n hx hb dX6_copyFrom_56 rfl (lv_at hl 2 rfl) ?_
      refine lv_aload_n hx hb dX6_copyFrom_57 rfl (lv_at hl 1 rfl) ?_
      refine g_get X dX6_copyFrom_58 f_X6_21 hBv 7 (v := .ref (bd 11)) rfl rfl ?_
      refine lv_iload_n hx hb dX6_copyFrom_61 rfl (lv_at hl 2 rfl) ?_
      refine g_iald X dX6_copyFrom_62 hBv 11 rfl o3 rfl ?_
      refine g_iast X dX6_copyFrom_63 hBw hS 11 rfl o3 rfl  (fun H locs hBw oq hS => ?_)
      have hBv := hBv.kept1 oq (hDv _ (hBw.in (i := 11) rfl))
      obtain ⟨w7, ew7⟩ : ∃ z : Dt, z = up2 w6 11 y2.toNatClampNeg (v 11 y2.toNatClampNeg) := ⟨_, rfl⟩
      rw [← ew7] at hBw
      have hw := hw w7 ew7
      refine lv_aload_n hx hb dX6_copyFrom_64 rfl (lv_at hl 0 rfl) ?_
      refine g_get X dX6_copyFrom_65 f_X6_24 hBw 7 (v := .ref (ad 12)) rfl rfl ?_
      refine lv_iload_n hx hb dX6_copyFrom_68 rfl (lv_at hl 2 rfl) ?_
      refine lv_aload_n hx hb dX6_copyFrom_69 rfl (lv_at hl 1 rfl) ?_
      refine g_get X dX6_copyFrom_70 f_X6_24 hBv 7 (v := .ref (bd 12)) rfl rfl ?_
      refine lv_iload_n hx hb dX6_copyFrom_73 rfl (lv_at hl 2 rfl) ?_
      refine g_cald X dX6_copyFrom_74 hBv 12 rfl o3 rfl ?_
      obtain ⟨o8, hw⟩ := hw
      refine g_cast X dX6_copyFrom_75 hBw hS 12 rfl o3 rfl o8 (fun H locs hBw oq hS => ?_)
      have hBv := hBv.kept1 oq (hDv _ (hBw.in (i := 12) rfl))
      obtain ⟨w9, ew9⟩ : ∃ z : Dt, z = up2 w7 12 y2.toNatClampNeg (v 12 y2.toNatClampNeg) := ⟨_, rfl⟩
      rw [← ew9] at hBw
      have hw := hw w9 ew9
      refine lv_aload_n hx hb dX6_copyFrom_76 rfl (lv_at hl 0 rfl) ?_
      refine g_get X dX6_copyFrom_77 f_X6_28 hBw 7 (v := .ref (ad 13)) rfl rfl ?_
      refine lv_iload_n hx hb dX6_copyFrom_80 rfl (lv_at hl 2 rfl) ?_
      refine lv_aload_n hx hb dX6_copyFrom_81 rfl (lv_at hl 1 rfl) ?_
      refine g_get X dX6_copyFrom_82 f_X6_28 hBv 7 (v := .ref (bd 13)) rfl rfl ?_
      refine lv_iload_n hx hb dX6_copyFrom_85 rfl (lv_at hl 2 rfl) ?_
      refine g_zald X dX6_copyFrom_86 hBv 13 rfl o3 rfl ?_
      obtain ⟨o10, hw⟩ := hw
      refine g_zast X dX6_copyFrom_87 hBw hS 13 rfl o3 rfl o10 (fun H locs hBw oq hS => ?_)
      have hBv := hBv.kept1 oq (hDv _ (hBw.in (i := 13) rfl))
      obtain ⟨w11, ew11⟩ : ∃ z : Dt, z = up2 w9 13 y2.toNatClampNeg (v 13 y2.toNatClampNeg) := ⟨_, rfl⟩
      rw [← ew11] at hBw
      have hw := hw w11 ew11
      refine lv_aload_n hx hb dX6_copyFrom_88 rfl (lv_at hl 0 rfl) ?_
      refine g_get X dX6_copyFrom_89 f_X6_32 hBw 7 (v := .ref (ad 14)) rfl rfl ?_
      refine lv_iload_n hx hb dX6_copyFrom_92 rfl (lv_at hl 2 rfl) ?_
      refine lv_aload_n hx hb dX6_copyFrom_93 rfl (lv_at hl 1 rfl) ?_
      refine g_get X dX6_copyFrom_94 f_X6_32 hBv 7 (v := .ref (bd 14)) rfl rfl ?_
      refine lv_iload_n hx hb dX6_copyFrom_97 rfl (lv_at hl 2 rfl) ?_
      refine g_iald X dX6_copyFrom_98 hBv 14 rfl o3 rfl ?_
      refine g_iast X dX6_copyFrom_99 hBw hS 14 rfl o3 rfl  (fun H locs hBw oq hS => ?_)
      have hBv := hBv.kept1 oq (hDv _ (hBw.in (i := 14) rfl))
      obtain ⟨w12, ew12⟩ : ∃ z : Dt, z = up2 w11 14 y2.toNatClampNeg (v 14 y2.toNatClampNeg) := ⟨_, rfl⟩
      rw [← ew12] at hBw
      have hw := hw w12 ew12
      refine lv_iinc (lv' := [(2, .int (y2 + 1)), (0, .ref (ad 7)), (1, .ref (bd 7))]) hx hb dX6_copyFrom_100 hl (k := 2) rfl (by rfl) (by decide) rfl (fun ls hl => ?_)
      refine lv_goto (tgt := 10) hx hb dX6_copyFrom_103 (by decide) ?_
      exact ih _ _ _ _ _ _ hw hBw hBv hS (lv_sub hl [1, 2, 0] rfl)
def wp_X6_copyFrom (post : Dt → Prop) (w : Dt) (v : Dt) : Prop := ∀ w1 : Dt, w1 = up2 w 7 0 (v 7 0) → (∃ k9 : Nat, wp_X6_copyFrom_10 post   k9 0 w1 v)
set_option maxHeartbeats 4000000 in
set_option maxRecDepth 100000 in
theorem c_X6_copyFrom (l : Launch) (D : va_G) (tc : Nat → ClassId) (h0 : Nat) (sa : Nat → Nat)  (H0 : Heap) {ad : Nat → Nat} {A : Nat → Prop} {bd : Nat → Nat} {A2 : Nat → Prop} {w : Dt} {v : Dt} (hBw : Blk D tc A (shW ad) ad w H0) (hBv : Blk D tc A2 (shW bd) bd v H0) (hDv : ∀ q, A q → ¬ A2 q) (hA0 : ∀ q, A q → h0 ≤ q) {post : Dt → Prop} (hw : wp_X6_copyFrom post w v) : MB l yX6_copyFrom cX6_copyFrom 3 (Option.none : Option FieldType) rm_X6_copyFrom A [.ref (ad 7), .ref (bd 7)] D tc h0 sa H0 post (fun (u : Dt) (H1 : Heap) => Blk D tc A (shW ad) ad u H1) (fun _ : Dt => none) := by
  refine MB.of RX6 [(0, .ref (ad 7)), (1, .ref (bd 7))] (by decide +kernel) rfl (Nat.le_of_ble_eq_true rfl) rfl ?_
  intro p e s m below meth c ls X hr hin hT hH hS hl
  subst hH
  have hx := X.1
  have hb := X.2.1
  have hown := X.2.2.2.1
  have hU := X.2.2.2.2.1.1
  unfold wp_X6_copyFrom at hw
  refine lv_aload_n hx hb dX6_copyFrom_0 rfl (lv_at hl 0 rfl) ?_
  refine lv_aload_n hx hb dX6_copyFrom_1 rfl (lv_at hl 1 rfl) ?_
  refine g_get X dX6_copyFrom_2 f_X6_35 hBv 7 (v := .int (v 7 0)) rfl rfl ?_
  refine g_puti X dX6_copyFrom_5 f_X6_35 hBw hS 7 rfl (x := (v 7 0)) rfl rfl rfl (fun H locs hBw oq hS => ?_)
  have hBv := hBv.kept1 oq (hDv _ (hBw.in (i := 7) rfl))
  obtain ⟨w1, ew1⟩ : ∃ z : Dt, z = up2 w 7 0 (v 7 0) := ⟨_, rfl⟩
  rw [← ew1] at hBw
  have hw := hw w1 ew1
  refine lv_iconst (v := 0) hx hb dX6_copyFrom_8 (by decide) ?_
  refine lv_istore_n (lv' := [(2, .int 0), (0, .ref (ad 7)), (1, .ref (bd 7))]) hx hb dX6_copyFrom_9 rfl hl (by decide) rfl (fun ls hl => ?_)
  obtain ⟨k9, hw⟩ := hw
  exact t_X6_copyFrom_10 X hr hT hA0 hDv  k9 _ _ _ _ _ _ hw hBw hBv hS (lv_sub hl [1, 2, 0] rfl)
abbrev rm_X7_goOn : Room := { frames := 5, cells := 0, slots := 0, locals := 114 }
def wp_X7_goOn (post : Dt → Prop) (w : Dt) : Prop := wp_X1_goOn (fun w1 => wp_X0_dragDown (fun w2 => wp_X6_goOn (fun w3 => wp_X5_widen (fun w4 => ∀ w5 : Dt, w5 = up2 w4 0 5 ((w4 0 5) + 1) → (post w5)) w3) w2) w1) w
set_option maxHeartbeats 4000000 in
set_option maxRecDepth 100000 in
theorem c_X7_goOn (l : Launch) (D : va_G) (tc : Nat → ClassId) (h0 : Nat) (sa : Nat → Nat)  (H0 : Heap) {ad : Nat → Nat} {A : Nat → Prop} {w : Dt} (hBw : Blk D tc A (shW ad) ad w H0) (hA0 : ∀ q, A q → h0 ≤ q) {post : Dt → Prop} (hw : wp_X7_goOn post w) : MB l yX7_goOn cX7_goOn 1 (Option.none : Option FieldType) rm_X7_goOn A [.ref (ad 0)] D tc h0 sa H0 post (fun (u : Dt) (H1 : Heap) => Blk D tc A (shW ad) ad u H1) (fun _ : Dt => none) := by
  refine MB.of RX7 [(0, .ref (ad 0))] (by decide +kernel) rfl (Nat.le_of_ble_eq_true rfl) rfl ?_
  intro p e s m below meth c ls X hr hin hT hH hS hl
  subst hH
  have hx := X.1
  have hb := X.2.1
  have hown := X.2.2.2.1
  have hU := X.2.2.2.2.1.1
  unfold wp_X7_goOn at hw
  refine lv_aload_n hx hb dX7_goOn_0 rfl (lv_at hl 0 rfl) ?_
  refine g_get X dX7_goOn_1 f_X7_10 hBw 0 (v := .ref (ad 1)) rfl rfl ?_
  refine g_after (st0 := .ref (ad 1) :: []) (rest := []) (g_V X m_X7_44 (c_X1_goOn l D tc h0 sa  _ hBw hA0 hw) (hBw.recv X 1 rfl (q := (RX1, TX1, 8)) rfl) hT hS hA0 dX7_goOn_4 hl.1 rfl rfl ⟨Nat.le_of_ble_eq_true rfl, Nat.le_of_ble_eq_true rfl⟩ (Nat.le_of_ble_eq_true rfl) ⟨Nat.le_of_ble_eq_true rfl, Nat.le_of_ble_eq_true rfl⟩) hS (fun _ h => h) (fun u => []) (fun _ => rfl) (fun u H9 locs hw hP9 hz9 hk9 hS => ?_)
  obtain ⟨w1, rfl⟩ : ∃ z, z = u := ⟨_, rfl⟩
  have hBw : Blk D tc A (shW ad) ad w1 H9 := hP9
  try dsimp only at hw
  refine lv_aload_n hx hb dX7_goOn_7 rfl (lv_at hl 0 rfl) ?_
  refine g_get X dX7_goOn_8 f_X7_19 hBw 0 (v := .ref (ad 5)) rfl rfl ?_
  refine g_after (st0 := .ref (ad 5) :: []) (rest := []) (g_V X m_X7_47 (c_X0_dragDown l D tc h0 sa  _ hBw hA0 hw) (hBw.recv X 5 rfl (q := (RX0, TX0, 4)) rfl) hT hS hA0 dX7_goOn_11 hl.1 rfl rfl ⟨Nat.le_of_ble_eq_true rfl, Nat.le_of_ble_eq_true rfl⟩ (Nat.le_of_ble_eq_true rfl) ⟨Nat.le_of_ble_eq_true rfl, Nat.le_of_ble_eq_true rfl⟩) hS (fun _ h => h) (fun u => []) (fun _ => rfl) (fun u H9 locs hw hP9 hz9 hk9 hS => ?_)
  obtain ⟨w2, rfl⟩ : ∃ z, z = u := ⟨_, rfl⟩
  have hBw : Blk D tc A (shW ad) ad w2 H9 := hP9
  try dsimp only at hw
  refine lv_aload_n hx hb dX7_goOn_14 rfl (lv_at hl 0 rfl) ?_
  refine g_get X dX7_goOn_15 f_X7_26 hBw 0 (v := .ref (ad 7)) rfl rfl ?_
  refine lv_aload_n hx hb dX7_goOn_18 rfl (lv_at hl 0 rfl) ?_
  refine g_get X dX7_goOn_19 f_X7_19 hBw 0 (v := .ref (ad 5)) rfl rfl ?_
  refine lv_aload_n hx hb dX7_goOn_22 rfl (lv_at hl 0 rfl) ?_
  refine g_get X dX7_goOn_23 f_X7_40 hBw 0 (v := .ref (ad 19)) rfl rfl ?_
  refine g_after (st0 := .ref (ad 19) :: .ref (ad 5) :: .ref (ad 7) :: []) (rest := []) (g_V X m_X7_50 (c_X6_goOn l D tc h0 sa  _ hBw hA0 hw) (hBw.recv X 7 rfl (q := (RX6, TX6, 8)) rfl) hT hS hA0 dX7_goOn_26 hl.1 rfl rfl ⟨Nat.le_of_ble_eq_true rfl, Nat.le_of_ble_eq_true rfl⟩ (Nat.le_of_ble_eq_true rfl) ⟨Nat.le_of_ble_eq_true rfl, Nat.le_of_ble_eq_true rfl⟩) hS (fun _ h => h) (fun u => []) (fun _ => rfl) (fun u H9 locs hw hP9 hz9 hk9 hS => ?_)
  obtain ⟨w3, rfl⟩ : ∃ z, z = u := ⟨_, rfl⟩
  have hBw : Blk D tc A (shW ad) ad w3 H9 := hP9
  try dsimp only at hw
  refine lv_aload_n hx hb dX7_goOn_29 rfl (lv_at hl 0 rfl) ?_
  refine g_get X dX7_goOn_30 f_X7_33 hBw 0 (v := .ref (ad 15)) rfl rfl ?_
  refine lv_aload_n hx hb dX7_goOn_33 rfl (lv_at hl 0 rfl) ?_
  refine g_get X dX7_goOn_34 f_X7_19 hBw 0 (v := .ref (ad 5)) rfl rfl ?_
  refine g_after (st0 := .ref (ad 5) :: .ref (ad 15) :: []) (rest := []) (g_V X m_X7_53 (c_X5_widen l D tc h0 sa  _ hBw hA0 hw) (hBw.recv X 15 rfl (q := (RX5, TX5, 4)) rfl) hT hS hA0 dX7_goOn_37 hl.1 rfl rfl ⟨Nat.le_of_ble_eq_true rfl, Nat.le_of_ble_eq_true rfl⟩ (Nat.le_of_ble_eq_true rfl) ⟨Nat.le_of_ble_eq_true rfl, Nat.le_of_ble_eq_true rfl⟩) hS (fun _ h => h) (fun u => []) (fun _ => rfl) (fun u H9 locs hw hP9 hz9 hk9 hS => ?_)
  obtain ⟨w4, rfl⟩ : ∃ z, z = u := ⟨_, rfl⟩
  have hBw : Blk D tc A (shW ad) ad w4 H9 := hP9
  try dsimp only at hw
  refine lv_aload_n hx hb dX7_goOn_40 rfl (lv_at hl 0 rfl) ?_
  refine lv_dup hx hb dX7_goOn_41 rfl ?_
  refine g_get X dX7_goOn_42 f_X7_57 hBw 0 (v := .int (w4 0 5)) rfl rfl ?_
  refine lv_iconst (v := 1) hx hb dX7_goOn_45 (by decide) ?_
  refine lv_iadd hx hb dX7_goOn_46 ?_
  refine g_puti X dX7_goOn_47 f_X7_57 hBw hS 0 rfl (x := ((w4 0 5) + 1)) rfl rfl rfl (fun H locs hBw oq hS => ?_)
  obtain ⟨w5, ew5⟩ : ∃ z : Dt, z = up2 w4 0 5 ((w4 0 5) + 1) := ⟨_, rfl⟩
  rw [← ew5] at hBw
  have hw := hw w5 ew5
  exact e_v X hr dX7_goOn_50 hS (w5) rfl hw hBw ⟨Nat.le_of_ble_eq_true rfl, Nat.le_of_ble_eq_true rfl⟩
abbrev rm_X7_sumUp : Room := { frames := 3, cells := 0, slots := 0, locals := 71 }
def wp_X7_sumUp (post : Int64 → Prop) (w : Dt) : Prop := wp_X1_addTo (fun r1 => wp_X0_addTo (fun r2 => wp_X6_addTo (fun r3 => post ((31 * r3) + (w 0 5).toInt64)) w r2) w r1) w 7
set_option maxHeartbeats 4000000 in
set_option maxRecDepth 100000 in
theorem c_X7_sumUp (l : Launch) (D : va_G) (tc : Nat → ClassId) (h0 : Nat) (sa : Nat → Nat)  (H0 : Heap) {ad : Nat → Nat} {A : Nat → Prop} {w : Dt} (hBw : Blk D tc A (shW ad) ad w H0)  {post : Int64 → Prop} (hw : wp_X7_sumUp post w) : MB l yX7_sumUp cX7_sumUp 3 (Option.some FieldType.long) rm_X7_sumUp (fun _ => False) [.ref (ad 0)] D tc h0 sa H0 post (fun (_ : Int64) (H1 : Heap) => H1 = H0) (fun u : Int64 => some (.long u)) := by
  have hA0 : ∀ q : Nat, (fun _ : Nat => False) q → h0 ≤ q := fun _ h => h.elim
  refine MB.of RX7 [(0, .ref (ad 0))] (by decide +kernel) rfl (Nat.le_of_ble_eq_true rfl) rfl ?_
  intro p e s m below meth c ls X hr hin hT hH hS hl
  subst hH
  have hx := X.1
  have hb := X.2.1
  have hown := X.2.2.2.1
  have hU := X.2.2.2.2.1.1
  unfold wp_X7_sumUp at hw
  refine lv_aload_n hx hb dX7_sumUp_0 rfl (lv_at hl 0 rfl) ?_
  refine g_get X dX7_sumUp_1 f_X7_10 hBw 0 (v := .ref (ad 1)) rfl rfl ?_
  refine lv_ldc2 (v := 7) hx hb hown (hU.use w_277) dX7_sumUp_4 ?_
  refine g_after (st0 := .long 7 :: .ref (ad 1) :: []) (rest := []) (g_V X m_X7_63 (c_X1_addTo l D tc h0 sa 7 _ hBw hw) (hBw.recv X 1 rfl (q := (RX1, TX1, 8)) rfl) hT hS hA0 dX7_sumUp_7 hl.1 rfl rfl ⟨Nat.le_of_ble_eq_true rfl, Nat.le_of_ble_eq_true rfl⟩ (Nat.le_of_ble_eq_true rfl) ⟨Nat.le_of_ble_eq_true rfl, Nat.le_of_ble_eq_true rfl⟩) hS (fun _ h => h.elim) (fun u => .long u :: []) (fun _ => rfl) (fun u H9 locs hw hP9 hz9 hk9 hS => ?_)
  have e9 : H9 = _ := hP9
  rw [e9] at hS ⊢
  obtain ⟨r1, rfl⟩ : ∃ z, z = u := ⟨_, rfl⟩
  try dsimp only at hw
  refine lv_lstore_n (lv' := [(1, .long r1), (0, .ref (ad 0))]) hx hb dX7_sumUp_10 rfl hl (by decide) rfl (fun ls hl => ?_)
  refine lv_aload_n hx hb dX7_sumUp_11 rfl (lv_at hl 1 rfl) ?_
  refine g_get X dX7_sumUp_12 f_X7_19 hBw 0 (v := .ref (ad 5)) rfl rfl ?_
  refine lv_lload_n hx hb dX7_sumUp_15 rfl (lv_at hl 0 rfl) ?_
  refine g_after (st0 := .long r1 :: .ref (ad 5) :: []) (rest := []) (g_V X m_X7_67 (c_X0_addTo l D tc h0 sa r1 _ hBw hw) (hBw.recv X 5 rfl (q := (RX0, TX0, 4)) rfl) hT hS hA0 dX7_sumUp_16 hl.1 rfl rfl ⟨Nat.le_of_ble_eq_true rfl, Nat.le_of_ble_eq_true rfl⟩ (Nat.le_of_ble_eq_true rfl) ⟨Nat.le_of_ble_eq_true rfl, Nat.le_of_ble_eq_true rfl⟩) hS (fun _ h => h.elim) (fun u => .long u :: []) (fun _ => rfl) (fun u H9 locs hw hP9 hz9 hk9 hS => ?_)
  have e9 : H9 = _ := hP9
  rw [e9] at hS ⊢
  obtain ⟨r2, rfl⟩ : ∃ z, z = u := ⟨_, rfl⟩
  try dsimp only at hw
  refine lv_lstore_n (lv' := [(1, .long r2), (0, .ref (ad 0))]) hx hb dX7_sumUp_19 rfl hl (by decide) rfl (fun ls hl => ?_)
  refine lv_aload_n hx hb dX7_sumUp_20 rfl (lv_at hl 1 rfl) ?_
  refine g_get X dX7_sumUp_21 f_X7_26 hBw 0 (v := .ref (ad 7)) rfl rfl ?_
  refine lv_lload_n hx hb dX7_sumUp_24 rfl (lv_at hl 0 rfl) ?_
  refine g_after (st0 := .long r2 :: .ref (ad 7) :: []) (rest := []) (g_V X m_X7_68 (c_X6_addTo l D tc h0 sa r2 _ hBw hw) (hBw.recv X 7 rfl (q := (RX6, TX6, 8)) rfl) hT hS hA0 dX7_sumUp_25 hl.1 rfl rfl ⟨Nat.le_of_ble_eq_true rfl, Nat.le_of_ble_eq_true rfl⟩ (Nat.le_of_ble_eq_true rfl) ⟨Nat.le_of_ble_eq_true rfl, Nat.le_of_ble_eq_true rfl⟩) hS (fun _ h => h.elim) (fun u => .long u :: []) (fun _ => rfl) (fun u H9 locs hw hP9 hz9 hk9 hS => ?_)
  have e9 : H9 = _ := hP9
  rw [e9] at hS ⊢
  obtain ⟨r3, rfl⟩ : ∃ z, z = u := ⟨_, rfl⟩
  try dsimp only at hw
  refine lv_lstore_n (lv' := [(1, .long r3), (0, .ref (ad 0))]) hx hb dX7_sumUp_28 rfl hl (by decide) rfl (fun ls hl => ?_)
  refine lv_ldc2 (v := 31) hx hb hown (hU.use w_301) dX7_sumUp_29 ?_
  refine lv_lload_n hx hb dX7_sumUp_32 rfl (lv_at hl 0 rfl) ?_
  refine lv_lmul hx hb dX7_sumUp_33 ?_
  refine lv_aload_n hx hb dX7_sumUp_34 rfl (lv_at hl 1 rfl) ?_
  refine g_get X dX7_sumUp_35 f_X7_57 hBw 0 (v := .int (w 0 5)) rfl rfl ?_
  refine lv_i2l (v := (w 0 5).toInt64) hx hb dX7_sumUp_38 rfl ?_
  refine lv_ladd hx hb dX7_sumUp_39 ?_
  exact e_l X hr dX7_sumUp_40 hS (((31 * r3) + (w 0 5).toInt64)) rfl hw rfl ⟨Nat.le_of_ble_eq_true rfl, Nat.le_of_ble_eq_true rfl⟩
abbrev rm_X7_copyFrom : Room := { frames := 1, cells := 0, slots := 0, locals := 23 }
def wp_X7_copyFrom (post : Dt → Prop) (w : Dt) (v : Dt) : Prop := wp_X1_copyFrom (fun w1 => wp_X0_copyFrom (fun w2 => wp_X6_copyFrom (fun w3 => wp_X5_copyFrom (fun w4 => wp_X3_copyFrom (fun w5 => ∀ w6 : Dt, w6 = up2 w5 0 5 (v 0 5) → (post w6)) w4 v) w3 v) w2 v) w1 v) w v
set_option maxHeartbeats 4000000 in
set_option maxRecDepth 100000 in
theorem c_X7_copyFrom (l : Launch) (D : va_G) (tc : Nat → ClassId) (h0 : Nat) (sa : Nat → Nat)  (H0 : Heap) {ad : Nat → Nat} {A : Nat → Prop} {bd : Nat → Nat} {A2 : Nat → Prop} {w : Dt} {v : Dt} (hBw : Blk D tc A (shW ad) ad w H0) (hBv : Blk D tc A2 (shW bd) bd v H0) (hDv : ∀ q, A q → ¬ A2 q) (hA0 : ∀ q, A q → h0 ≤ q) {post : Dt → Prop} (hw : wp_X7_copyFrom post w v) : MB l yX7_copyFrom cX7_copyFrom 2 (Option.none : Option FieldType) rm_X7_copyFrom A [.ref (ad 0), .ref (bd 0)] D tc h0 sa H0 post (fun (u : Dt) (H1 : Heap) => Blk D tc A (shW ad) ad u H1) (fun _ : Dt => none) := by
  refine MB.of RX7 [(0, .ref (ad 0)), (1, .ref (bd 0))] (by decide +kernel) rfl (Nat.le_of_ble_eq_true rfl) rfl ?_
  intro p e s m below meth c ls X hr hin hT hH hS hl
  subst hH
  have hx := X.1
  have hb := X.2.1
  have hown := X.2.2.2.1
  have hU := X.2.2.2.2.1.1
  unfold wp_X7_copyFrom at hw
  refine lv_aload_n hx hb dX7_copyFrom_0 rfl (lv_at hl 0 rfl) ?_
  refine g_get X dX7_copyFrom_1 f_X7_10 hBw 0 (v := .ref (ad 1)) rfl rfl ?_
  refine lv_aload_n hx hb dX7_copyFrom_4 rfl (lv_at hl 1 rfl) ?_
  refine g_get X dX7_copyFrom_5 f_X7_10 hBv 0 (v := .ref (bd 1)) rfl rfl ?_
  refine g_after (st0 := .ref (bd 1) :: .ref (ad 1) :: []) (rest := []) (g_V X m_X7_71 (c_X1_copyFrom l D tc h0 sa  _ hBw hBv hDv hA0 hw) (hBw.recv X 1 rfl (q := (RX1, TX1, 8)) rfl) hT hS hA0 dX7_copyFrom_8 hl.1 rfl rfl ⟨Nat.le_of_ble_eq_true rfl, Nat.le_of_ble_eq_true rfl⟩ (Nat.le_of_ble_eq_true rfl) ⟨Nat.le_of_ble_eq_true rfl, Nat.le_of_ble_eq_true rfl⟩) hS (fun _ h => h) (fun u => []) (fun _ => rfl) (fun u H9 locs hw hP9 hz9 hk9 hS => ?_)
  obtain ⟨w1, rfl⟩ : ∃ z, z = u := ⟨_, rfl⟩
  have hBw : Blk D tc A (shW ad) ad w1 H9 := hP9
  have hBv := hBv.kept (fun q hq hA9 => hk9 q hq (fun z => hDv q z hA9))
  try dsimp only at hw
  refine lv_aload_n hx hb dX7_copyFrom_11 rfl (lv_at hl 0 rfl) ?_
  refine g_get X dX7_copyFrom_12 f_X7_19 hBw 0 (v := .ref (ad 5)) rfl rfl ?_
  refine lv_aload_n hx hb dX7_copyFrom_15 rfl (lv_at hl 1 rfl) ?_
  refine g_get X dX7_copyFrom_16 f_X7_19 hBv 0 (v := .ref (bd 5)) rfl rfl ?_
  refine g_after (st0 := .ref (bd 5) :: .ref (ad 5) :: []) (rest := []) (g_V X m_X7_75 (c_X0_copyFrom l D tc h0 sa  _ hBw hBv hDv hA0 hw) (hBw.recv X 5 rfl (q := (RX0, TX0, 4)) rfl) hT hS hA0 dX7_copyFrom_19 hl.1 rfl rfl ⟨Nat.le_of_ble_eq_true rfl, Nat.le_of_ble_eq_true rfl⟩ (Nat.le_of_ble_eq_true rfl) ⟨Nat.le_of_ble_eq_true rfl, Nat.le_of_ble_eq_true rfl⟩) hS (fun _ h => h) (fun u => []) (fun _ => rfl) (fun u H9 locs hw hP9 hz9 hk9 hS => ?_)
  obtain ⟨w2, rfl⟩ : ∃ z, z = u := ⟨_, rfl⟩
  have hBw : Blk D tc A (shW ad) ad w2 H9 := hP9
  have hBv := hBv.kept (fun q hq hA9 => hk9 q hq (fun z => hDv q z hA9))
  try dsimp only at hw
  refine lv_aload_n hx hb dX7_copyFrom_22 rfl (lv_at hl 0 rfl) ?_
  refine g_get X dX7_copyFrom_23 f_X7_26 hBw 0 (v := .ref (ad 7)) rfl rfl ?_
  refine lv_aload_n hx hb dX7_copyFrom_26 rfl (lv_at hl 1 rfl) ?_
  refine g_get X dX7_copyFrom_27 f_X7_26 hBv 0 (v := .ref (bd 7)) rfl rfl ?_
  refine g_after (st0 := .ref (bd 7) :: .ref (ad 7) :: []) (rest := []) (g_V X m_X7_77 (c_X6_copyFrom l D tc h0 sa  _ hBw hBv hDv hA0 hw) (hBw.recv X 7 rfl (q := (RX6, TX6, 8)) rfl) hT hS hA0 dX7_copyFrom_30 hl.1 rfl rfl ⟨Nat.le_of_ble_eq_true rfl, Nat.le_of_ble_eq_true rfl⟩ (Nat.le_of_ble_eq_true rfl) ⟨Nat.le_of_ble_eq_true rfl, Nat.le_of_ble_eq_true rfl⟩) hS (fun _ h => h) (fun u => []) (fun _ => rfl) (fun u H9 locs hw hP9 hz9 hk9 hS => ?_)
  obtain ⟨w3, rfl⟩ : ∃ z, z = u := ⟨_, rfl⟩
  have hBw : Blk D tc A (shW ad) ad w3 H9 := hP9
  have hBv := hBv.kept (fun q hq hA9 => hk9 q hq (fun z => hDv q z hA9))
  try dsimp only at hw
  refine lv_aload_n hx hb dX7_copyFrom_33 rfl (lv_at hl 0 rfl) ?_
  refine g_get X dX7_copyFrom_34 f_X7_33 hBw 0 (v := .ref (ad 15)) rfl rfl ?_
  refine lv_aload_n hx hb dX7_copyFrom_37 rfl (lv_at hl 1 rfl) ?_
  refine g_get X dX7_copyFrom_38 f_X7_33 hBv 0 (v := .ref (bd 15)) rfl rfl ?_
  refine g_after (st0 := .ref (bd 15) :: .ref (ad 15) :: []) (rest := []) (g_V X m_X7_80 (c_X5_copyFrom l D tc h0 sa  _ hBw hBv hDv hA0 hw) (hBw.recv X 15 rfl (q := (RX5, TX5, 4)) rfl) hT hS hA0 dX7_copyFrom_41 hl.1 rfl rfl ⟨Nat.le_of_ble_eq_true rfl, Nat.le_of_ble_eq_true rfl⟩ (Nat.le_of_ble_eq_true rfl) ⟨Nat.le_of_ble_eq_true rfl, Nat.le_of_ble_eq_true rfl⟩) hS (fun _ h => h) (fun u => []) (fun _ => rfl) (fun u H9 locs hw hP9 hz9 hk9 hS => ?_)
  obtain ⟨w4, rfl⟩ : ∃ z, z = u := ⟨_, rfl⟩
  have hBw : Blk D tc A (shW ad) ad w4 H9 := hP9
  have hBv := hBv.kept (fun q hq hA9 => hk9 q hq (fun z => hDv q z hA9))
  try dsimp only at hw
  refine lv_aload_n hx hb dX7_copyFrom_44 rfl (lv_at hl 0 rfl) ?_
  refine g_get X dX7_copyFrom_45 f_X7_40 hBw 0 (v := .ref (ad 19)) rfl rfl ?_
  refine lv_aload_n hx hb dX7_copyFrom_48 rfl (lv_at hl 1 rfl) ?_
  refine g_get X dX7_copyFrom_49 f_X7_40 hBv 0 (v := .ref (bd 19)) rfl rfl ?_
  refine g_after (st0 := .ref (bd 19) :: .ref (ad 19) :: []) (rest := []) (g_V X m_X7_83 (c_X3_copyFrom l D tc h0 sa  _ hBw hBv hDv hA0 hw) (hBw.recv X 19 rfl (q := (RX3, TX3, 3)) rfl) hT hS hA0 dX7_copyFrom_52 hl.1 rfl rfl ⟨Nat.le_of_ble_eq_true rfl, Nat.le_of_ble_eq_true rfl⟩ (Nat.le_of_ble_eq_true rfl) ⟨Nat.le_of_ble_eq_true rfl, Nat.le_of_ble_eq_true rfl⟩) hS (fun _ h => h) (fun u => []) (fun _ => rfl) (fun u H9 locs hw hP9 hz9 hk9 hS => ?_)
  obtain ⟨w5, rfl⟩ : ∃ z, z = u := ⟨_, rfl⟩
  have hBw : Blk D tc A (shW ad) ad w5 H9 := hP9
  have hBv := hBv.kept (fun q hq hA9 => hk9 q hq (fun z => hDv q z hA9))
  try dsimp only at hw
  refine lv_aload_n hx hb dX7_copyFrom_55 rfl (lv_at hl 0 rfl) ?_
  refine lv_aload_n hx hb dX7_copyFrom_56 rfl (lv_at hl 1 rfl) ?_
  refine g_get X dX7_copyFrom_57 f_X7_57 hBv 0 (v := .int (v 0 5)) rfl rfl ?_
  refine g_puti X dX7_copyFrom_60 f_X7_57 hBw hS 0 rfl (x := (v 0 5)) rfl rfl rfl (fun H locs hBw oq hS => ?_)
  have hBv := hBv.kept1 oq (hDv _ (hBw.in (i := 0) rfl))
  obtain ⟨w6, ew6⟩ : ∃ z : Dt, z = up2 w5 0 5 (v 0 5) := ⟨_, rfl⟩
  rw [← ew6] at hBw
  have hw := hw w6 ew6
  exact e_v X hr dX7_copyFrom_63 hS (w6) rfl hw hBw ⟨Nat.le_of_ble_eq_true rfl, Nat.le_of_ble_eq_true rfl⟩
