def shR (wa : Nat) (sp : Option Nat) (ns np nf : Nat) (sd pd fd : Nat → Nat → Nat) (sums : Nat → Int64) (ad : Nat → Nat) : Sh := fun i => match i with
  | 0 => some (.inl (12, [some (.ref wa), some (.ref (ad 1)), some (.ref (ad 2)), none, some (va_rf sp), some (.ref (ad 3)), none, some (.ref (ad 4)), none]))
  | 1 => some (.inr (6, 3, some (.inr (.inr (.inr (.inr (fun k => if k < ns then some (sd k 0) else none)))))))
  | 2 => some (.inr (3, 3, some (.inr (.inl sums))))
  | 3 => some (.inr (7, 4, some (.inr (.inr (.inr (.inr (fun k => if k < np then some (pd k 0) else none)))))))
  | 4 => some (.inr (8, 6, some (.inr (.inr (.inr (.inr (fun k => if k < nf then some (fd k 0) else none)))))))
  | _ => none
abbrev rm_X4_takeKept : Room := { frames := 0, cells := 0, slots := 0, locals := 0 }
def wp_X4_takeKept_19 (post : Int32 → Dt → Prop)   (x : Dt) : Prop := post (-1) x
set_option maxHeartbeats 4000000 in
set_option maxRecDepth 100000 in
theorem t_X4_takeKept_19 {p : Program} {l : Launch} {e : Env} {s : State} {m : MethodId} {args : Array Value} {below : List Frame} {meth : Method} {c : Code} {D : va_G} {tc : Nat → ClassId} {h0 : Nat} {sa : Nat → Nat}  {ax : Nat → Nat} {Ax : Nat → Prop} {post : Int32 → Dt → Prop}  (X : Cx p c s m meth cX4_takeKept 4 RX4 D tc) (hr : meth.sig.returnType = (Option.some FieldType.int)) (hT : ST h0 sa s s.heap) (hA0 : ∀ q, Ax q → h0 ≤ q)    : ∀ (x : Dt) (locs : List Loc) (ls : Array Slot), wp_X4_takeKept_19 post   x → (Blk D tc Ax (shPr ax) ax x s.heap) → va_S Ax s.heap s.heap locs → lv_has ls 4 [] → W p l e rm_X4_takeKept s m args below meth c s.heap locs 0 0 (MQ below (QB (fun u : Int32 × Dt => post u.1 u.2) (fun (u : Int32 × Dt) (H1 : Heap) => Blk D tc Ax (shPr ax) ax u.2 H1) (fun u : Int32 × Dt => some (.int u.1)) Ax) args s rm_X4_takeKept.cells rm_X4_takeKept.slots Ax) (F0 m 19 ls []) := by
  have hx := X.1
  have hb := X.2.1
  have hown := X.2.2.2.1
  have hU := X.2.2.2.2.1.1
  intro x  locs ls hw hBx hS hl
  unfold wp_X4_takeKept_19 at hw
  refine lv_iconst (v := (-1)) hx hb dX4_takeKept_19 (by decide) ?_
  exact e_i X hr dX4_takeKept_20 hS ((-1), x) rfl hw hBx ⟨Nat.le_of_ble_eq_true rfl, Nat.le_of_ble_eq_true rfl⟩
def wp_X4_takeKept_66 (post : Int32 → Dt → Prop)   (y2 : Int32) (x : Dt) : Prop := ∀ w6 : Dt, w6 = up2 x 0 11 ((x 0 11) - 1) → (post y2 w6)
set_option maxHeartbeats 4000000 in
set_option maxRecDepth 100000 in
theorem t_X4_takeKept_66 {p : Program} {l : Launch} {e : Env} {s : State} {m : MethodId} {args : Array Value} {below : List Frame} {meth : Method} {c : Code} {D : va_G} {tc : Nat → ClassId} {h0 : Nat} {sa : Nat → Nat}  {ax : Nat → Nat} {Ax : Nat → Prop} {post : Int32 → Dt → Prop}  (X : Cx p c s m meth cX4_takeKept 4 RX4 D tc) (hr : meth.sig.returnType = (Option.some FieldType.int)) (hT : ST h0 sa s s.heap) (hA0 : ∀ q, Ax q → h0 ≤ q)    : ∀ (y2 : Int32) (x : Dt) (H : Heap) (locs : List Loc) (ls : Array Slot), wp_X4_takeKept_66 post   y2 x → (Blk D tc Ax (shPr ax) ax x H) → va_S Ax s.heap H locs → lv_has ls 4 [(0, .ref (ax 0)), (2, .int y2)] → W p l e rm_X4_takeKept s m args below meth c H locs 0 0 (MQ below (QB (fun u : Int32 × Dt => post u.1 u.2) (fun (u : Int32 × Dt) (H1 : Heap) => Blk D tc Ax (shPr ax) ax u.2 H1) (fun u : Int32 × Dt => some (.int u.1)) Ax) args s rm_X4_takeKept.cells rm_X4_takeKept.slots Ax) (F0 m 66 ls []) := by
  have hx := X.1
  have hb := X.2.1
  have hown := X.2.2.2.1
  have hU := X.2.2.2.2.1.1
  intro y2 x H locs ls hw hBx hS hl
  unfold wp_X4_takeKept_66 at hw
  refine lv_aload_n hx hb dX4_takeKept_66 rfl (lv_at hl 0 rfl) ?_
  refine lv_dup hx hb dX4_takeKept_67 rfl ?_
  refine g_get X dX4_takeKept_68 f_X4_67 hBx 0 (v := .int (x 0 11)) rfl rfl ?_
  refine lv_iconst (v := 1) hx hb dX4_takeKept_71 (by decide) ?_
  refine lv_isub hx hb dX4_takeKept_72 ?_
  refine g_puti X dX4_takeKept_73 f_X4_67 hBx hS 0 rfl (x := ((x 0 11) - 1)) rfl rfl rfl (fun H locs hBx oq hS => ?_)
  obtain ⟨w6, ew6⟩ : ∃ z : Dt, z = up2 x 0 11 ((x 0 11) - 1) := ⟨_, rfl⟩
  rw [← ew6] at hBx
  have hw := hw w6 ew6
  refine lv_iload_n hx hb dX4_takeKept_76 rfl (lv_at hl 1 rfl) ?_
  exact e_i X hr dX4_takeKept_77 hS (y2, w6) rfl hw hBx ⟨Nat.le_of_ble_eq_true rfl, Nat.le_of_ble_eq_true rfl⟩
def wp_X4_takeKept_32 (post : Int32 → Dt → Prop)   : Nat → Int32 → Int32 → Dt → Prop
  | 0, _, _, _ => False
  | n9 + 1, y2, y3, x => ((x 0 11) ≤ y3 → wp_X4_takeKept_66 post   y2 x) ∧ (¬ (x 0 11) ≤ y3 → (6 ≤ y3 → wp_X4_takeKept_66 post   y2 x) ∧ (¬ 6 ≤ y3 → vp_in y3 6 ∧ (vp_in (y3 - 1) 6 ∧ (∀ w10 : Dt, w10 = up2 x 4 (y3 - 1).toNatClampNeg (x 4 y3.toNatClampNeg) → (wp_X4_takeKept_32 post   n9 y2 (y3 + 1) w10)))))
set_option maxHeartbeats 4000000 in
set_option maxRecDepth 100000 in
theorem t_X4_takeKept_32 {p : Program} {l : Launch} {e : Env} {s : State} {m : MethodId} {args : Array Value} {below : List Frame} {meth : Method} {c : Code} {D : va_G} {tc : Nat → ClassId} {h0 : Nat} {sa : Nat → Nat}  {ax : Nat → Nat} {Ax : Nat → Prop} {post : Int32 → Dt → Prop}  (X : Cx p c s m meth cX4_takeKept 4 RX4 D tc) (hr : meth.sig.returnType = (Option.some FieldType.int)) (hT : ST h0 sa s s.heap) (hA0 : ∀ q, Ax q → h0 ≤ q)    : ∀ (n9 : Nat) (y2 : Int32) (y3 : Int32) (x : Dt) (H : Heap) (locs : List Loc) (ls : Array Slot), wp_X4_takeKept_32 post   n9 y2 y3 x → (Blk D tc Ax (shPr ax) ax x H) → va_S Ax s.heap H locs → lv_has ls 4 [(0, .ref (ax 0)), (2, .int y2), (3, .int y3)] → W p l e rm_X4_takeKept s m args below meth c H locs 0 0 (MQ below (QB (fun u : Int32 × Dt => post u.1 u.2) (fun (u : Int32 × Dt) (H1 : Heap) => Blk D tc Ax (shPr ax) ax u.2 H1) (fun u : Int32 × Dt => some (.int u.1)) Ax) args s rm_X4_takeKept.cells rm_X4_takeKept.slots Ax) (F0 m 32 ls []) := by
  have hx := X.1
  have hb := X.2.1
  have hown := X.2.2.2.1
  have hU := X.2.2.2.2.1.1
  intro n9
  induction n9 with
  | zero =>
    intro y2 y3 x H locs ls hw
    exact hw.elim
  | succ n9 ih =>
    intro y2 y3 x H locs ls hw hBx hS hl
    unfold wp_X4_takeKept_32 at hw
    refine lv_iload_n hx hb dX4_takeKept_32 rfl (lv_at hl 2 rfl) ?_
    refine lv_aload_n hx hb dX4_takeKept_33 rfl (lv_at hl 0 rfl) ?_
    refine g_get X dX4_takeKept_34 f_X4_67 hBx 0 (v := .int (x 0 11)) rfl rfl ?_
    refine lv_icmp_ge (tgt := 66) hx hb dX4_takeKept_37 (by decide) (fun c5 => ?_) (fun c5 => ?_)
    · have hw := hw.1 c5
      exact t_X4_takeKept_66 X hr hT hA0   _ _ _ _ _ hw hBx hS (lv_sub hl [0, 1] rfl)
    · have hw := hw.2 c5
      refine lv_iload_n hx hb dX4_takeKept_40 rfl (lv_at hl 2 rfl) ?_
      refine lv_bipush (v := 6) hx hb dX4_takeKept_41 (by decide) ?_
      refine lv_icmp_ge (tgt := 66) hx hb dX4_takeKept_43 (by decide) (fun c7 => ?_) (fun c7 => ?_)
      · have hw := hw.1 c7
        exact t_X4_takeKept_66 X hr hT hA0   _ _ _ _ _ hw hBx hS (lv_sub hl [0, 1] rfl)
      · have hw := hw.2 c7
        refine lv_aload_n hx hb dX4_takeKept_46 rfl (lv_at hl 0 rfl) ?_
        refine g_get X dX4_takeKept_47 f_X4_21 hBx 0 (v := .ref (ax 4)) rfl rfl ?_
        refine lv_iload_n hx hb dX4_takeKept_50 rfl (lv_at hl 2 rfl) ?_
        refine lv_iconst (v := 1) hx hb dX4_takeKept_51 (by decide) ?_
        refine lv_isub hx hb dX4_takeKept_52 ?_
        refine lv_aload_n hx hb dX4_takeKept_53 rfl (lv_at hl 0 rfl) ?_
        refine g_get X dX4_takeKept_54 f_X4_21 hBx 0 (v := .ref (ax 4)) rfl rfl ?_
        refine lv_iload_n hx hb dX4_takeKept_57 rfl (lv_at hl 2 rfl) ?_
        obtain ⟨o8, hw⟩ := hw
        refine g_iald X dX4_takeKept_58 hBx 4 rfl o8 rfl ?_
        obtain ⟨o9, hw⟩ := hw
        refine g_iast X dX4_takeKept_59 hBx hS 4 rfl o9 rfl  (fun H locs hBx oq hS => ?_)
        obtain ⟨w10, ew10⟩ : ∃ z : Dt, z = up2 x 4 (y3 - 1).toNatClampNeg (x 4 y3.toNatClampNeg) := ⟨_, rfl⟩
        rw [← ew10] at hBx
        have hw := hw w10 ew10
        refine lv_iinc (lv' := [(3, .int (y3 + 1)), (0, .ref (ax 0)), (2, .int y2)]) hx hb dX4_takeKept_60 hl (k := 2) rfl (by rfl) (by decide) rfl (fun ls hl => ?_)
        refine lv_goto (tgt := 32) hx hb dX4_takeKept_63 (by decide) ?_
        exact ih _ _ _ _ _ _ hw hBx hS (lv_sub hl [1, 2, 0] rfl)
def wp_X4_takeKept (post : Int32 → Dt → Prop) (x : Dt) (x1 : Int32) : Prop := (x1 < 0 → wp_X4_takeKept_19 post   x) ∧ (¬ x1 < 0 → (6 ≤ x1 → wp_X4_takeKept_19 post   x) ∧ (¬ 6 ≤ x1 → ((x 0 11) ≤ 6 → vp_in x1 6 ∧ (∃ k9 : Nat, wp_X4_takeKept_32 post   k9 (x 4 x1.toNatClampNeg) (x1 + 1) x)) ∧ (¬ (x 0 11) ≤ 6 → wp_X4_takeKept_19 post   x)))
set_option maxHeartbeats 4000000 in
set_option maxRecDepth 100000 in
theorem c_X4_takeKept (l : Launch) (D : va_G) (tc : Nat → ClassId) (h0 : Nat) (sa : Nat → Nat) (x1 : Int32) (H0 : Heap) {ax : Nat → Nat} {Ax : Nat → Prop} {x : Dt} (hBx : Blk D tc Ax (shPr ax) ax x H0) (hA0 : ∀ q, Ax q → h0 ≤ q) {post : Int32 → Dt → Prop} (hw : wp_X4_takeKept post x x1) : MB l yX4_takeKept cX4_takeKept 4 (Option.some FieldType.int) rm_X4_takeKept Ax [.ref (ax 0), .int x1] D tc h0 sa H0 (fun u : Int32 × Dt => post u.1 u.2) (fun (u : Int32 × Dt) (H1 : Heap) => Blk D tc Ax (shPr ax) ax u.2 H1) (fun u : Int32 × Dt => some (.int u.1)) := by
  refine MB.of RX4 [(0, .ref (ax 0)), (1, .int x1)] (by decide +kernel) rfl (Nat.le_of_ble_eq_true rfl) rfl ?_
  intro p e s m below meth c ls X hr hin hT hH hS hl
  subst hH
  have hx := X.1
  have hb := X.2.1
  have hown := X.2.2.2.1
  have hU := X.2.2.2.2.1.1
  unfold wp_X4_takeKept at hw
  refine lv_iload_n hx hb dX4_takeKept_0 rfl (lv_at hl 1 rfl) ?_
  refine lv_if_lt (tgt := 19) hx hb dX4_takeKept_1 (by decide) (fun c1 => ?_) (fun c1 => ?_)
  · have hw := hw.1 c1
    exact t_X4_takeKept_19 X hr hT hA0   _ _ _ hw hBx hS (lv_sub hl [] rfl)
  · have hw := hw.2 c1
    refine lv_iload_n hx hb dX4_takeKept_4 rfl (lv_at hl 1 rfl) ?_
    refine lv_bipush (v := 6) hx hb dX4_takeKept_5 (by decide) ?_
    refine lv_icmp_ge (tgt := 19) hx hb dX4_takeKept_7 (by decide) (fun c2 => ?_) (fun c2 => ?_)
    · have hw := hw.1 c2
      exact t_X4_takeKept_19 X hr hT hA0   _ _ _ hw hBx hS (lv_sub hl [] rfl)
    · have hw := hw.2 c2
      refine lv_aload_n hx hb dX4_takeKept_10 rfl (lv_at hl 0 rfl) ?_
      refine g_get X dX4_takeKept_11 f_X4_67 hBx 0 (v := .int (x 0 11)) rfl rfl ?_
      refine lv_bipush (v := 6) hx hb dX4_takeKept_14 (by decide) ?_
      refine lv_icmp_le (tgt := 21) hx hb dX4_takeKept_16 (by decide) (fun c3 => ?_) (fun c3 => ?_)
      · have hw := hw.1 c3
        refine lv_aload_n hx hb dX4_takeKept_21 rfl (lv_at hl 0 rfl) ?_
        refine g_get X dX4_takeKept_22 f_X4_21 hBx 0 (v := .ref (ax 4)) rfl rfl ?_
        refine lv_iload_n hx hb dX4_takeKept_25 rfl (lv_at hl 1 rfl) ?_
        obtain ⟨o4, hw⟩ := hw
        refine g_iald X dX4_takeKept_26 hBx 4 rfl o4 rfl ?_
        refine lv_istore_n (lv' := [(2, .int (x 4 x1.toNatClampNeg)), (0, .ref (ax 0)), (1, .int x1)]) hx hb dX4_takeKept_27 rfl hl (by decide) rfl (fun ls hl => ?_)
        refine lv_iload_n hx hb dX4_takeKept_28 rfl (lv_at hl 2 rfl) ?_
        refine lv_iconst (v := 1) hx hb dX4_takeKept_29 (by decide) ?_
        refine lv_iadd hx hb dX4_takeKept_30 ?_
        refine lv_istore_n (lv' := [(3, .int (x1 + 1)), (2, .int (x 4 x1.toNatClampNeg)), (0, .ref (ax 0)), (1, .int x1)]) hx hb dX4_takeKept_31 rfl hl (by decide) rfl (fun ls hl => ?_)
        obtain ⟨k9, hw⟩ := hw
        exact t_X4_takeKept_32 X hr hT hA0   k9 _ _ _ _ _ _ hw hBx hS (lv_sub hl [2, 1, 0] rfl)
      · have hw := hw.2 c3
        exact t_X4_takeKept_19 X hr hT hA0   _ _ _ hw hBx hS (lv_sub hl [] rfl)
abbrev rm_X4_keep : Room := { frames := 1, cells := 0, slots := 0, locals := 23 }
def wp_X4_keep_61 (post : Dt → Prop)   (x : Dt) : Prop := post x
set_option maxHeartbeats 4000000 in
set_option maxRecDepth 100000 in
theorem t_X4_keep_61 {p : Program} {l : Launch} {e : Env} {s : State} {m : MethodId} {args : Array Value} {below : List Frame} {meth : Method} {c : Code} {D : va_G} {tc : Nat → ClassId} {h0 : Nat} {sa : Nat → Nat}  {ax : Nat → Nat} {Ax : Nat → Prop} {post : Dt → Prop}  (X : Cx p c s m meth cX4_keep 2 RX4 D tc) (hr : meth.sig.returnType = (Option.none : Option FieldType)) (hT : ST h0 sa s s.heap) (hA0 : ∀ q, Ax q → h0 ≤ q)    : ∀ (x : Dt) (H : Heap) (locs : List Loc) (ls : Array Slot), wp_X4_keep_61 post   x → (Blk D tc Ax (shPr ax) ax x H) → va_S Ax s.heap H locs → lv_has ls 2 [] → W p l e rm_X4_keep s m args below meth c H locs 0 0 (MQ below (QB post (fun (u : Dt) (H1 : Heap) => Blk D tc Ax (shPr ax) ax u H1) (fun _ : Dt => none) Ax) args s rm_X4_keep.cells rm_X4_keep.slots Ax) (F0 m 61 ls []) := by
  have hx := X.1
  have hb := X.2.1
  have hown := X.2.2.2.1
  have hU := X.2.2.2.2.1.1
  intro x H locs ls hw hBx hS hl
  unfold wp_X4_keep_61 at hw
  exact e_v X hr dX4_keep_61 hS (x) rfl hw hBx ⟨Nat.le_of_ble_eq_true rfl, Nat.le_of_ble_eq_true rfl⟩
def wp_X4_keep_25 (post : Dt → Prop)   (y1 : Int32) (x : Dt) : Prop := ((x 0 11) < 0 → wp_X4_keep_61 post   x) ∧ (¬ (x 0 11) < 0 → (6 ≤ (x 0 11) → wp_X4_keep_61 post   x) ∧ (¬ 6 ≤ (x 0 11) → vp_in (x 0 11) 6 ∧ (∀ w5 : Dt, w5 = up2 x 4 (x 0 11).toNatClampNeg y1 → (∀ w6 : Dt, w6 = up2 w5 0 11 ((w5 0 11) + 1) → (wp_X4_keep_61 post   w6)))))
set_option maxHeartbeats 4000000 in
set_option maxRecDepth 100000 in
theorem t_X4_keep_25 {p : Program} {l : Launch} {e : Env} {s : State} {m : MethodId} {args : Array Value} {below : List Frame} {meth : Method} {c : Code} {D : va_G} {tc : Nat → ClassId} {h0 : Nat} {sa : Nat → Nat}  {ax : Nat → Nat} {Ax : Nat → Prop} {post : Dt → Prop}  (X : Cx p c s m meth cX4_keep 2 RX4 D tc) (hr : meth.sig.returnType = (Option.none : Option FieldType)) (hT : ST h0 sa s s.heap) (hA0 : ∀ q, Ax q → h0 ≤ q)    : ∀ (y1 : Int32) (x : Dt) (H : Heap) (locs : List Loc) (ls : Array Slot), wp_X4_keep_25 post   y1 x → (Blk D tc Ax (shPr ax) ax x H) → va_S Ax s.heap H locs → lv_has ls 2 [(0, .ref (ax 0)), (1, .int y1)] → W p l e rm_X4_keep s m args below meth c H locs 0 0 (MQ below (QB post (fun (u : Dt) (H1 : Heap) => Blk D tc Ax (shPr ax) ax u H1) (fun _ : Dt => none) Ax) args s rm_X4_keep.cells rm_X4_keep.slots Ax) (F0 m 25 ls []) := by
  have hx := X.1
  have hb := X.2.1
  have hown := X.2.2.2.1
  have hU := X.2.2.2.2.1.1
  intro y1 x H locs ls hw hBx hS hl
  unfold wp_X4_keep_25 at hw
  refine lv_aload_n hx hb dX4_keep_25 rfl (lv_at hl 0 rfl) ?_
  refine g_get X dX4_keep_26 f_X4_67 hBx 0 (v := .int (x 0 11)) rfl rfl ?_
  refine lv_if_lt (tgt := 61) hx hb dX4_keep_29 (by decide) (fun c2 => ?_) (fun c2 => ?_)
  · have hw := hw.1 c2
    exact t_X4_keep_61 X hr hT hA0   _ _ _ _ hw hBx hS (lv_sub hl [] rfl)
  · have hw := hw.2 c2
    refine lv_aload_n hx hb dX4_keep_32 rfl (lv_at hl 0 rfl) ?_
    refine g_get X dX4_keep_33 f_X4_67 hBx 0 (v := .int (x 0 11)) rfl rfl ?_
    refine lv_bipush (v := 6) hx hb dX4_keep_36 (by decide) ?_
    refine lv_icmp_ge (tgt := 61) hx hb dX4_keep_38 (by decide) (fun c3 => ?_) (fun c3 => ?_)
    · have hw := hw.1 c3
      exact t_X4_keep_61 X hr hT hA0   _ _ _ _ hw hBx hS (lv_sub hl [] rfl)
    · have hw := hw.2 c3
      refine lv_aload_n hx hb dX4_keep_41 rfl (lv_at hl 0 rfl) ?_
      refine g_get X dX4_keep_42 f_X4_21 hBx 0 (v := .ref (ax 4)) rfl rfl ?_
      refine lv_aload_n hx hb dX4_keep_45 rfl (lv_at hl 0 rfl) ?_
      refine g_get X dX4_keep_46 f_X4_67 hBx 0 (v := .int (x 0 11)) rfl rfl ?_
      refine lv_iload_n hx hb dX4_keep_49 rfl (lv_at hl 1 rfl) ?_
      obtain ⟨o4, hw⟩ := hw
      refine g_iast X dX4_keep_50 hBx hS 4 rfl o4 rfl  (fun H locs hBx oq hS => ?_)
      obtain ⟨w5, ew5⟩ : ∃ z : Dt, z = up2 x 4 (x 0 11).toNatClampNeg y1 := ⟨_, rfl⟩
      rw [← ew5] at hBx
      have hw := hw w5 ew5
      refine lv_aload_n hx hb dX4_keep_51 rfl (lv_at hl 0 rfl) ?_
      refine lv_dup hx hb dX4_keep_52 rfl ?_
      refine g_get X dX4_keep_53 f_X4_67 hBx 0 (v := .int (w5 0 11)) rfl rfl ?_
      refine lv_iconst (v := 1) hx hb dX4_keep_56 (by decide) ?_
      refine lv_iadd hx hb dX4_keep_57 ?_
      refine g_puti X dX4_keep_58 f_X4_67 hBx hS 0 rfl (x := ((w5 0 11) + 1)) rfl rfl rfl (fun H locs hBx oq hS => ?_)
      obtain ⟨w6, ew6⟩ : ∃ z : Dt, z = up2 w5 0 11 ((w5 0 11) + 1) := ⟨_, rfl⟩
      rw [← ew6] at hBx
      have hw := hw w6 ew6
      exact t_X4_keep_61 X hr hT hA0   _ _ _ _ hw hBx hS (lv_sub hl [] rfl)
def wp_X4_keep (post : Dt → Prop) (x : Dt) (x1 : Int32) : Prop := ((x 0 11) < 6 → wp_X4_keep_25 post   x1 x) ∧ (¬ (x 0 11) < 6 → wp_X4_takeKept (fun r7 w8 => ∀ w9 : Dt, w9 = up2 w8 0 14 ((w8 0 14) + 1) → (wp_X4_keep_25 post   x1 w9)) x 0)
set_option maxHeartbeats 4000000 in
set_option maxRecDepth 100000 in
theorem c_X4_keep (l : Launch) (D : va_G) (tc : Nat → ClassId) (h0 : Nat) (sa : Nat → Nat) (x1 : Int32) (H0 : Heap) {ax : Nat → Nat} {Ax : Nat → Prop} {x : Dt} (hBx : Blk D tc Ax (shPr ax) ax x H0) (hA0 : ∀ q, Ax q → h0 ≤ q) {post : Dt → Prop} (hw : wp_X4_keep post x x1) : MB l yX4_keep cX4_keep 2 (Option.none : Option FieldType) rm_X4_keep Ax [.ref (ax 0), .int x1] D tc h0 sa H0 post (fun (u : Dt) (H1 : Heap) => Blk D tc Ax (shPr ax) ax u H1) (fun _ : Dt => none) := by
  refine MB.of RX4 [(0, .ref (ax 0)), (1, .int x1)] (by decide +kernel) rfl (Nat.le_of_ble_eq_true rfl) rfl ?_
  intro p e s m below meth c ls X hr hin hT hH hS hl
  subst hH
  have hx := X.1
  have hb := X.2.1
  have hown := X.2.2.2.1
  have hU := X.2.2.2.2.1.1
  unfold wp_X4_keep at hw
  refine lv_aload_n hx hb dX4_keep_0 rfl (lv_at hl 0 rfl) ?_
  refine g_get X dX4_keep_1 f_X4_67 hBx 0 (v := .int (x 0 11)) rfl rfl ?_
  refine lv_bipush (v := 6) hx hb dX4_keep_4 (by decide) ?_
  refine lv_icmp_lt (tgt := 25) hx hb dX4_keep_6 (by decide) (fun c1 => ?_) (fun c1 => ?_)
  · have hw := hw.1 c1
    exact t_X4_keep_25 X hr hT hA0   _ _ _ _ _ hw hBx hS (lv_sub hl [0, 1] rfl)
  · have hw := hw.2 c1
    refine lv_aload_n hx hb dX4_keep_9 rfl (lv_at hl 0 rfl) ?_
    refine lv_iconst (v := 0) hx hb dX4_keep_10 (by decide) ?_
    refine g_after (st0 := .int 0 :: .ref (ax 0) :: []) (rest := []) (g_V X m_X4_70 (c_X4_takeKept l D tc h0 sa 0 _ hBx hA0 hw) (hBx.recv X 0 rfl (q := (RX4, TX4, 15)) rfl) hT hS hA0 dX4_keep_11 hl.1 rfl rfl ⟨Nat.le_of_ble_eq_true rfl, Nat.le_of_ble_eq_true rfl⟩ (Nat.le_of_ble_eq_true rfl) ⟨Nat.le_of_ble_eq_true rfl, Nat.le_of_ble_eq_true rfl⟩) hS (fun _ h => h) (fun u => .int u.1 :: []) (fun _ => rfl) (fun u H9 locs hw hP9 hz9 hk9 hS => ?_)
    obtain ⟨r7, w8⟩ := u
    have hBx : Blk D tc Ax (shPr ax) ax w8 H9 := hP9
    try dsimp only at hw
    refine lv_pop hx hb dX4_keep_14 rfl ?_
    refine lv_aload_n hx hb dX4_keep_15 rfl (lv_at hl 0 rfl) ?_
    refine lv_dup hx hb dX4_keep_16 rfl ?_
    refine g_get X dX4_keep_17 f_X4_73 hBx 0 (v := .int (w8 0 14)) rfl rfl ?_
    refine lv_iconst (v := 1) hx hb dX4_keep_20 (by decide) ?_
    refine lv_iadd hx hb dX4_keep_21 ?_
    refine g_puti X dX4_keep_22 f_X4_73 hBx hS 0 rfl (x := ((w8 0 14) + 1)) rfl rfl rfl (fun H locs hBx oq hS => ?_)
    obtain ⟨w9, ew9⟩ : ∃ z : Dt, z = up2 w8 0 14 ((w8 0 14) + 1) := ⟨_, rfl⟩
    rw [← ew9] at hBx
    have hw := hw w9 ew9
    exact t_X4_keep_25 X hr hT hA0   _ _ _ _ _ hw hBx hS (lv_sub hl [0, 1] rfl)
abbrev rm_X4_transmit : Room := { frames := 1, cells := 0, slots := 0, locals := 23 }
def wp_X4_transmit_81 (post : Dt → Prop)   (x : Dt) : Prop := post x
set_option maxHeartbeats 4000000 in
set_option maxRecDepth 100000 in
theorem t_X4_transmit_81 {p : Program} {l : Launch} {e : Env} {s : State} {m : MethodId} {args : Array Value} {below : List Frame} {meth : Method} {c : Code} {D : va_G} {tc : Nat → ClassId} {h0 : Nat} {sa : Nat → Nat}  {ax : Nat → Nat} {Ax : Nat → Prop} {post : Dt → Prop}  (X : Cx p c s m meth cX4_transmit 3 RX4 D tc) (hr : meth.sig.returnType = (Option.none : Option FieldType)) (hT : ST h0 sa s s.heap) (hA0 : ∀ q, Ax q → h0 ≤ q)    : ∀ (x : Dt) (H : Heap) (locs : List Loc) (ls : Array Slot), wp_X4_transmit_81 post   x → (Blk D tc Ax (shPr ax) ax x H) → va_S Ax s.heap H locs → lv_has ls 3 [] → W p l e rm_X4_transmit s m args below meth c H locs 0 0 (MQ below (QB post (fun (u : Dt) (H1 : Heap) => Blk D tc Ax (shPr ax) ax u H1) (fun _ : Dt => none) Ax) args s rm_X4_transmit.cells rm_X4_transmit.slots Ax) (F0 m 81 ls []) := by
  have hx := X.1
  have hb := X.2.1
  have hown := X.2.2.2.1
  have hU := X.2.2.2.2.1.1
  intro x H locs ls hw hBx hS hl
  unfold wp_X4_transmit_81 at hw
  exact e_v X hr dX4_transmit_81 hS (x) rfl hw hBx ⟨Nat.le_of_ble_eq_true rfl, Nat.le_of_ble_eq_true rfl⟩
def wp_X4_transmit_75 (post : Dt → Prop)  (K2 : Int32 → Dt → Prop) (y1 : Int32) (x : Dt) : Prop := K2 (y1 + 1) x
set_option maxHeartbeats 4000000 in
set_option maxRecDepth 100000 in
theorem t_X4_transmit_75 {p : Program} {l : Launch} {e : Env} {s : State} {m : MethodId} {args : Array Value} {below : List Frame} {meth : Method} {c : Code} {D : va_G} {tc : Nat → ClassId} {h0 : Nat} {sa : Nat → Nat}  {ax : Nat → Nat} {Ax : Nat → Prop} {post : Dt → Prop} {K2 : Int32 → Dt → Prop} (X : Cx p c s m meth cX4_transmit 3 RX4 D tc) (hr : meth.sig.returnType = (Option.none : Option FieldType)) (hT : ST h0 sa s s.heap) (hA0 : ∀ q, Ax q → h0 ≤ q)   (hK2 : ∀ (y1 : Int32) (x : Dt) (H : Heap) (locs : List Loc) (ls : Array Slot), K2 y1 x → (Blk D tc Ax (shPr ax) ax x H) → va_S Ax s.heap H locs → lv_has ls 3 [(0, .ref (ax 0)), (1, .int y1)] → W p l e rm_X4_transmit s m args below meth c H locs 0 0 (MQ below (QB post (fun (u : Dt) (H1 : Heap) => Blk D tc Ax (shPr ax) ax u H1) (fun _ : Dt => none) Ax) args s rm_X4_transmit.cells rm_X4_transmit.slots Ax) (F0 m 2 ls [])) : ∀ (y1 : Int32) (x : Dt) (H : Heap) (locs : List Loc) (ls : Array Slot), wp_X4_transmit_75 post  K2 y1 x → (Blk D tc Ax (shPr ax) ax x H) → va_S Ax s.heap H locs → lv_has ls 3 [(0, .ref (ax 0)), (1, .int y1)] → W p l e rm_X4_transmit s m args below meth c H locs 0 0 (MQ below (QB post (fun (u : Dt) (H1 : Heap) => Blk D tc Ax (shPr ax) ax u H1) (fun _ : Dt => none) Ax) args s rm_X4_transmit.cells rm_X4_transmit.slots Ax) (F0 m 75 ls []) := by
  have hx := X.1
  have hb := X.2.1
  have hown := X.2.2.2.1
  have hU := X.2.2.2.2.1.1
  intro y1 x H locs ls hw hBx hS hl
  unfold wp_X4_transmit_75 at hw
  refine lv_iinc (lv' := [(1, .int (y1 + 1)), (0, .ref (ax 0))]) hx hb dX4_transmit_75 hl (k := 1) rfl (by rfl) (by decide) rfl (fun ls hl => ?_)
  refine lv_goto (tgt := 2) hx hb dX4_transmit_78 (by decide) ?_
  exact hK2 _ _ _ _ _ hw hBx hS (lv_sub hl [1, 0] rfl)
def wp_X4_transmit_35 (post : Dt → Prop)  (K2 : Int32 → Dt → Prop) (y1 : Int32) (z0 : Int32) (x : Dt) : Prop := wp_X4_takeKept (fun r4 w5 => ((w5 0 13) < 0 → wp_X4_transmit_75 post  K2 y1 w5) ∧ (¬ (w5 0 13) < 0 → (19 ≤ (w5 0 13) → wp_X4_transmit_75 post  K2 y1 w5) ∧ (¬ 19 ≤ (w5 0 13) → vp_in (w5 0 13) 19 ∧ (∀ w9 : Dt, w9 = up2 w5 5 (w5 0 13).toNatClampNeg r4 → (∀ w10 : Dt, w10 = up2 w9 0 13 ((w9 0 13) + 1) → (wp_X4_transmit_75 post  K2 y1 w10)))))) x z0
set_option maxHeartbeats 4000000 in
set_option maxRecDepth 100000 in
theorem t_X4_transmit_35 {p : Program} {l : Launch} {e : Env} {s : State} {m : MethodId} {args : Array Value} {below : List Frame} {meth : Method} {c : Code} {D : va_G} {tc : Nat → ClassId} {h0 : Nat} {sa : Nat → Nat}  {ax : Nat → Nat} {Ax : Nat → Prop} {post : Dt → Prop} {K2 : Int32 → Dt → Prop} (X : Cx p c s m meth cX4_transmit 3 RX4 D tc) (hr : meth.sig.returnType = (Option.none : Option FieldType)) (hT : ST h0 sa s s.heap) (hA0 : ∀ q, Ax q → h0 ≤ q)   (hK2 : ∀ (y1 : Int32) (x : Dt) (H : Heap) (locs : List Loc) (ls : Array Slot), K2 y1 x → (Blk D tc Ax (shPr ax) ax x H) → va_S Ax s.heap H locs → lv_has ls 3 [(0, .ref (ax 0)), (1, .int y1)] → W p l e rm_X4_transmit s m args below meth c H locs 0 0 (MQ below (QB post (fun (u : Dt) (H1 : Heap) => Blk D tc Ax (shPr ax) ax u H1) (fun _ : Dt => none) Ax) args s rm_X4_transmit.cells rm_X4_transmit.slots Ax) (F0 m 2 ls [])) : ∀ (y1 : Int32) (z0 : Int32) (x : Dt) (H : Heap) (locs : List Loc) (ls : Array Slot), wp_X4_transmit_35 post  K2 y1 z0 x → (Blk D tc Ax (shPr ax) ax x H) → va_S Ax s.heap H locs → lv_has ls 3 [(0, .ref (ax 0)), (1, .int y1)] → W p l e rm_X4_transmit s m args below meth c H locs 0 0 (MQ below (QB post (fun (u : Dt) (H1 : Heap) => Blk D tc Ax (shPr ax) ax u H1) (fun _ : Dt => none) Ax) args s rm_X4_transmit.cells rm_X4_transmit.slots Ax) (F0 m 35 ls [.int z0, .ref (ax 0)]) := by
  have hx := X.1
  have hb := X.2.1
  have hown := X.2.2.2.1
  have hU := X.2.2.2.2.1.1
  intro y1 z0 x H locs ls hw hBx hS hl
  unfold wp_X4_transmit_35 at hw
  refine g_after (st0 := .int z0 :: .ref (ax 0) :: []) (rest := []) (g_V X m_X4_70 (c_X4_takeKept l D tc h0 sa z0 _ hBx hA0 hw) (hBx.recv X 0 rfl (q := (RX4, TX4, 15)) rfl) hT hS hA0 dX4_transmit_35 hl.1 rfl rfl ⟨Nat.le_of_ble_eq_true rfl, Nat.le_of_ble_eq_true rfl⟩ (Nat.le_of_ble_eq_true rfl) ⟨Nat.le_of_ble_eq_true rfl, Nat.le_of_ble_eq_true rfl⟩) hS (fun _ h => h) (fun u => .int u.1 :: []) (fun _ => rfl) (fun u H9 locs hw hP9 hz9 hk9 hS => ?_)
  obtain ⟨r4, w5⟩ := u
  have hBx : Blk D tc Ax (shPr ax) ax w5 H9 := hP9
  try dsimp only at hw
  refine lv_istore_n (lv' := [(2, .int r4), (0, .ref (ax 0)), (1, .int y1)]) hx hb dX4_transmit_38 rfl hl (by decide) rfl (fun ls hl => ?_)
  refine lv_aload_n hx hb dX4_transmit_39 rfl (lv_at hl 1 rfl) ?_
  refine g_get X dX4_transmit_40 f_X4_76 hBx 0 (v := .int (w5 0 13)) rfl rfl ?_
  refine lv_if_lt (tgt := 75) hx hb dX4_transmit_43 (by decide) (fun c6 => ?_) (fun c6 => ?_)
  · have hw := hw.1 c6
    exact t_X4_transmit_75 X hr hT hA0  hK2 _ _ _ _ _ hw hBx hS (lv_sub hl [1, 2] rfl)
  · have hw := hw.2 c6
    refine lv_aload_n hx hb dX4_transmit_46 rfl (lv_at hl 1 rfl) ?_
    refine g_get X dX4_transmit_47 f_X4_76 hBx 0 (v := .int (w5 0 13)) rfl rfl ?_
    refine lv_bipush (v := 19) hx hb dX4_transmit_50 (by decide) ?_
    refine lv_icmp_ge (tgt := 75) hx hb dX4_transmit_52 (by decide) (fun c7 => ?_) (fun c7 => ?_)
    · have hw := hw.1 c7
      exact t_X4_transmit_75 X hr hT hA0  hK2 _ _ _ _ _ hw hBx hS (lv_sub hl [1, 2] rfl)
    · have hw := hw.2 c7
      refine lv_aload_n hx hb dX4_transmit_55 rfl (lv_at hl 1 rfl) ?_
      refine g_get X dX4_transmit_56 f_X4_24 hBx 0 (v := .ref (ax 5)) rfl rfl ?_
      refine lv_aload_n hx hb dX4_transmit_59 rfl (lv_at hl 1 rfl) ?_
      refine g_get X dX4_transmit_60 f_X4_76 hBx 0 (v := .int (w5 0 13)) rfl rfl ?_
      refine lv_iload_n hx hb dX4_transmit_63 rfl (lv_at hl 0 rfl) ?_
      obtain ⟨o8, hw⟩ := hw
      refine g_iast X dX4_transmit_64 hBx hS 5 rfl o8 rfl  (fun H locs hBx oq hS => ?_)
      obtain ⟨w9, ew9⟩ : ∃ z : Dt, z = up2 w5 5 (w5 0 13).toNatClampNeg r4 := ⟨_, rfl⟩
      rw [← ew9] at hBx
      have hw := hw w9 ew9
      refine lv_aload_n hx hb dX4_transmit_65 rfl (lv_at hl 1 rfl) ?_
      refine lv_dup hx hb dX4_transmit_66 rfl ?_
      refine g_get X dX4_transmit_67 f_X4_76 hBx 0 (v := .int (w9 0 13)) rfl rfl ?_
      refine lv_iconst (v := 1) hx hb dX4_transmit_70 (by decide) ?_
      refine lv_iadd hx hb dX4_transmit_71 ?_
      refine g_puti X dX4_transmit_72 f_X4_76 hBx hS 0 rfl (x := ((w9 0 13) + 1)) rfl rfl rfl (fun H locs hBx oq hS => ?_)
      obtain ⟨w10, ew10⟩ : ∃ z : Dt, z = up2 w9 0 13 ((w9 0 13) + 1) := ⟨_, rfl⟩
      rw [← ew10] at hBx
      have hw := hw w10 ew10
      exact t_X4_transmit_75 X hr hT hA0  hK2 _ _ _ _ _ hw hBx hS (lv_sub hl [1, 2] rfl)
def wp_X4_transmit_2 (post : Dt → Prop)   : Nat → Int32 → Dt → Prop
  | 0, _, _ => False
  | n9 + 1, y1, x => ((x 0 2) ≤ y1 → wp_X4_transmit_81 post   x) ∧ (¬ (x 0 2) ≤ y1 → ((x 0 11) ≤ 0 → wp_X4_transmit_81 post   x) ∧ (¬ (x 0 11) ≤ 0 → ((x 0 3) = 0 → wp_X4_transmit_35 post  (fun a0 x => wp_X4_transmit_2 post   n9 a0 x) y1 ((x 0 11) - 1) x) ∧ (¬ (x 0 3) = 0 → wp_X4_transmit_35 post  (fun a0 x => wp_X4_transmit_2 post   n9 a0 x) y1 0 x)))
set_option maxHeartbeats 4000000 in
set_option maxRecDepth 100000 in
theorem t_X4_transmit_2 {p : Program} {l : Launch} {e : Env} {s : State} {m : MethodId} {args : Array Value} {below : List Frame} {meth : Method} {c : Code} {D : va_G} {tc : Nat → ClassId} {h0 : Nat} {sa : Nat → Nat}  {ax : Nat → Nat} {Ax : Nat → Prop} {post : Dt → Prop}  (X : Cx p c s m meth cX4_transmit 3 RX4 D tc) (hr : meth.sig.returnType = (Option.none : Option FieldType)) (hT : ST h0 sa s s.heap) (hA0 : ∀ q, Ax q → h0 ≤ q)    : ∀ (n9 : Nat) (y1 : Int32) (x : Dt) (H : Heap) (locs : List Loc) (ls : Array Slot), wp_X4_transmit_2 post   n9 y1 x → (Blk D tc Ax (shPr ax) ax x H) → va_S Ax s.heap H locs → lv_has ls 3 [(0, .ref (ax 0)), (1, .int y1)] → W p l e rm_X4_transmit s m args below meth c H locs 0 0 (MQ below (QB post (fun (u : Dt) (H1 : Heap) => Blk D tc Ax (shPr ax) ax u H1) (fun _ : Dt => none) Ax) args s rm_X4_transmit.cells rm_X4_transmit.slots Ax) (F0 m 2 ls []) := by
  have hx := X.1
  have hb := X.2.1
  have hown := X.2.2.2.1
  have hU := X.2.2.2.2.1.1
  intro n9
  induction n9 with
  | zero =>
    intro y1 x H locs ls hw
    exact hw.elim
  | succ n9 ih =>
    intro y1 x H locs ls hw hBx hS hl
    unfold wp_X4_transmit_2 at hw
    refine lv_iload_n hx hb dX4_transmit_2 rfl (lv_at hl 1 rfl) ?_
    refine lv_aload_n hx hb dX4_transmit_3 rfl (lv_at hl 0 rfl) ?_
    refine g_get X dX4_transmit_4 f_X4_34 hBx 0 (v := .int (x 0 2)) rfl rfl ?_
    refine lv_icmp_ge (tgt := 81) hx hb dX4_transmit_7 (by decide) (fun c1 => ?_) (fun c1 => ?_)
    · have hw := hw.1 c1
      exact t_X4_transmit_81 X hr hT hA0   _ _ _ _ hw hBx hS (lv_sub hl [] rfl)
    · have hw := hw.2 c1
      refine lv_aload_n hx hb dX4_transmit_10 rfl (lv_at hl 0 rfl) ?_
      refine g_get X dX4_transmit_11 f_X4_67 hBx 0 (v := .int (x 0 11)) rfl rfl ?_
      refine lv_if_le (tgt := 81) hx hb dX4_transmit_14 (by decide) (fun c2 => ?_) (fun c2 => ?_)
      · have hw := hw.1 c2
        exact t_X4_transmit_81 X hr hT hA0   _ _ _ _ hw hBx hS (lv_sub hl [] rfl)
      · have hw := hw.2 c2
        refine lv_aload_n hx hb dX4_transmit_17 rfl (lv_at hl 0 rfl) ?_
        refine lv_aload_n hx hb dX4_transmit_18 rfl (lv_at hl 0 rfl) ?_
        refine g_get X dX4_transmit_19 f_X4_37 hBx 0 (v := .int (x 0 3)) rfl rfl ?_
        refine lv_if_eq (tgt := 29) hx hb dX4_transmit_22 (by decide) (fun c3 => ?_) (fun c3 => ?_)
        · have hw := hw.1 c3
          refine lv_aload_n hx hb dX4_transmit_29 rfl (lv_at hl 0 rfl) ?_
          refine g_get X dX4_transmit_30 f_X4_67 hBx 0 (v := .int (x 0 11)) rfl rfl ?_
          refine lv_iconst (v := 1) hx hb dX4_transmit_33 (by decide) ?_
          refine lv_isub hx hb dX4_transmit_34 ?_
          exact t_X4_transmit_35 X hr hT hA0  ih _ _ _ _ _ _ hw hBx hS (lv_sub hl [0, 1] rfl)
        · have hw := hw.2 c3
          refine lv_iconst (v := 0) hx hb dX4_transmit_25 (by decide) ?_
          refine lv_goto (tgt := 35) hx hb dX4_transmit_26 (by decide) ?_
          exact t_X4_transmit_35 X hr hT hA0  ih _ _ _ _ _ _ hw hBx hS (lv_sub hl [0, 1] rfl)
def wp_X4_transmit (post : Dt → Prop) (x : Dt) : Prop := ∃ k9 : Nat, wp_X4_transmit_2 post   k9 0 x
set_option maxHeartbeats 4000000 in
set_option maxRecDepth 100000 in
theorem c_X4_transmit (l : Launch) (D : va_G) (tc : Nat → ClassId) (h0 : Nat) (sa : Nat → Nat)  (H0 : Heap) {ax : Nat → Nat} {Ax : Nat → Prop} {x : Dt} (hBx : Blk D tc Ax (shPr ax) ax x H0) (hA0 : ∀ q, Ax q → h0 ≤ q) {post : Dt → Prop} (hw : wp_X4_transmit post x) : MB l yX4_transmit cX4_transmit 3 (Option.none : Option FieldType) rm_X4_transmit Ax [.ref (ax 0)] D tc h0 sa H0 post (fun (u : Dt) (H1 : Heap) => Blk D tc Ax (shPr ax) ax u H1) (fun _ : Dt => none) := by
  refine MB.of RX4 [(0, .ref (ax 0))] (by decide +kernel) rfl (Nat.le_of_ble_eq_true rfl) rfl ?_
  intro p e s m below meth c ls X hr hin hT hH hS hl
  subst hH
  have hx := X.1
  have hb := X.2.1
  have hown := X.2.2.2.1
  have hU := X.2.2.2.2.1.1
  unfold wp_X4_transmit at hw
  refine lv_iconst (v := 0) hx hb dX4_transmit_0 (by decide) ?_
  refine lv_istore_n (lv' := [(1, .int 0), (0, .ref (ax 0))]) hx hb dX4_transmit_1 rfl hl (by decide) rfl (fun ls hl => ?_)
  obtain ⟨k9, hw⟩ := hw
  exact t_X4_transmit_2 X hr hT hA0   k9 _ _ _ _ _ hw hBx hS (lv_sub hl [1, 0] rfl)
abbrev rm_X4_fall : Room := { frames := 0, cells := 0, slots := 0, locals := 0 }
def wp_X4_fall_54 (post : Dt → Prop)   (x : Dt) : Prop := post x
set_option maxHeartbeats 4000000 in
set_option maxRecDepth 100000 in
theorem t_X4_fall_54 {p : Program} {l : Launch} {e : Env} {s : State} {m : MethodId} {args : Array Value} {below : List Frame} {meth : Method} {c : Code} {D : va_G} {tc : Nat → ClassId} {h0 : Nat} {sa : Nat → Nat}  {ax : Nat → Nat} {Ax : Nat → Prop} {post : Dt → Prop}  (X : Cx p c s m meth cX4_fall 2 RX4 D tc) (hr : meth.sig.returnType = (Option.none : Option FieldType)) (hT : ST h0 sa s s.heap) (hA0 : ∀ q, Ax q → h0 ≤ q)    : ∀ (x : Dt) (H : Heap) (locs : List Loc) (ls : Array Slot), wp_X4_fall_54 post   x → (Blk D tc Ax (shPr ax) ax x H) → va_S Ax s.heap H locs → lv_has ls 2 [] → W p l e rm_X4_fall s m args below meth c H locs 0 0 (MQ below (QB post (fun (u : Dt) (H1 : Heap) => Blk D tc Ax (shPr ax) ax u H1) (fun _ : Dt => none) Ax) args s rm_X4_fall.cells rm_X4_fall.slots Ax) (F0 m 54 ls []) := by
  have hx := X.1
  have hb := X.2.1
  have hown := X.2.2.2.1
  have hU := X.2.2.2.2.1.1
  intro x H locs ls hw hBx hS hl
  unfold wp_X4_fall_54 at hw
  exact e_v X hr dX4_fall_54 hS (x) rfl hw hBx ⟨Nat.le_of_ble_eq_true rfl, Nat.le_of_ble_eq_true rfl⟩
def wp_X4_fall_16 (post : Dt → Prop)   (x : Dt) : Prop := ∀ w2 : Dt, w2 = up2 x 0 6 1 → (wp_X4_fall_54 post   w2)
set_option maxHeartbeats 4000000 in
set_option maxRecDepth 100000 in
theorem t_X4_fall_16 {p : Program} {l : Launch} {e : Env} {s : State} {m : MethodId} {args : Array Value} {below : List Frame} {meth : Method} {c : Code} {D : va_G} {tc : Nat → ClassId} {h0 : Nat} {sa : Nat → Nat}  {ax : Nat → Nat} {Ax : Nat → Prop} {post : Dt → Prop}  (X : Cx p c s m meth cX4_fall 2 RX4 D tc) (hr : meth.sig.returnType = (Option.none : Option FieldType)) (hT : ST h0 sa s s.heap) (hA0 : ∀ q, Ax q → h0 ≤ q)    : ∀ (x : Dt) (locs : List Loc) (ls : Array Slot), wp_X4_fall_16 post   x → (Blk D tc Ax (shPr ax) ax x s.heap) → va_S Ax s.heap s.heap locs → lv_has ls 2 [(0, .ref (ax 0))] → W p l e rm_X4_fall s m args below meth c s.heap locs 0 0 (MQ below (QB post (fun (u : Dt) (H1 : Heap) => Blk D tc Ax (shPr ax) ax u H1) (fun _ : Dt => none) Ax) args s rm_X4_fall.cells rm_X4_fall.slots Ax) (F0 m 16 ls []) := by
  have hx := X.1
  have hb := X.2.1
  have hown := X.2.2.2.1
  have hU := X.2.2.2.2.1.1
  intro x  locs ls hw hBx hS hl
  unfold wp_X4_fall_16 at hw
  refine lv_aload_n hx hb dX4_fall_16 rfl (lv_at hl 0 rfl) ?_
  refine lv_iconst (v := 1) hx hb dX4_fall_17 (by decide) ?_
  refine g_puti X dX4_fall_18 f_X4_47 hBx hS 0 rfl (x := 1) rfl rfl rfl (fun H locs hBx oq hS => ?_)
  obtain ⟨w2, ew2⟩ : ∃ z : Dt, z = up2 x 0 6 1 := ⟨_, rfl⟩
  rw [← ew2] at hBx
  have hw := hw w2 ew2
  refine lv_goto (tgt := 54) hx hb dX4_fall_21 (by decide) ?_
  exact t_X4_fall_54 X hr hT hA0   _ _ _ _ hw hBx hS (lv_sub hl [] rfl)
def wp_X4_fall_44 (post : Dt → Prop)   (x : Dt) : Prop := ∀ w5 : Dt, w5 = up2 x 0 4 ((x 0 4) + 1) → (wp_X4_fall_54 post   w5)
set_option maxHeartbeats 4000000 in
set_option maxRecDepth 100000 in
theorem t_X4_fall_44 {p : Program} {l : Launch} {e : Env} {s : State} {m : MethodId} {args : Array Value} {below : List Frame} {meth : Method} {c : Code} {D : va_G} {tc : Nat → ClassId} {h0 : Nat} {sa : Nat → Nat}  {ax : Nat → Nat} {Ax : Nat → Prop} {post : Dt → Prop}  (X : Cx p c s m meth cX4_fall 2 RX4 D tc) (hr : meth.sig.returnType = (Option.none : Option FieldType)) (hT : ST h0 sa s s.heap) (hA0 : ∀ q, Ax q → h0 ≤ q)    : ∀ (x : Dt) (locs : List Loc) (ls : Array Slot), wp_X4_fall_44 post   x → (Blk D tc Ax (shPr ax) ax x s.heap) → va_S Ax s.heap s.heap locs → lv_has ls 2 [(0, .ref (ax 0))] → W p l e rm_X4_fall s m args below meth c s.heap locs 0 0 (MQ below (QB post (fun (u : Dt) (H1 : Heap) => Blk D tc Ax (shPr ax) ax u H1) (fun _ : Dt => none) Ax) args s rm_X4_fall.cells rm_X4_fall.slots Ax) (F0 m 44 ls []) := by
  have hx := X.1
  have hb := X.2.1
  have hown := X.2.2.2.1
  have hU := X.2.2.2.2.1.1
  intro x  locs ls hw hBx hS hl
  unfold wp_X4_fall_44 at hw
  refine lv_aload_n hx hb dX4_fall_44 rfl (lv_at hl 0 rfl) ?_
  refine lv_dup hx hb dX4_fall_45 rfl ?_
  refine g_get X dX4_fall_46 f_X4_44 hBx 0 (v := .int (x 0 4)) rfl rfl ?_
  refine lv_iconst (v := 1) hx hb dX4_fall_49 (by decide) ?_
  refine lv_iadd hx hb dX4_fall_50 ?_
  refine g_puti X dX4_fall_51 f_X4_44 hBx hS 0 rfl (x := ((x 0 4) + 1)) rfl rfl rfl (fun H locs hBx oq hS => ?_)
  obtain ⟨w5, ew5⟩ : ∃ z : Dt, z = up2 x 0 4 ((x 0 4) + 1) := ⟨_, rfl⟩
  rw [← ew5] at hBx
  have hw := hw w5 ew5
  exact t_X4_fall_54 X hr hT hA0   _ _ _ _ hw hBx hS (lv_sub hl [] rfl)
def wp_X4_fall (post : Dt → Prop) (x : Dt) (x1 : Int32) : Prop := (9 ≤ (x 0 4) → wp_X4_fall_16 post   x) ∧ (¬ 9 ≤ (x 0 4) → (x1 ≤ 600 → ((x 0 0) ≤ (x 0 4) → wp_X4_fall_44 post   x) ∧ (¬ (x 0 0) ≤ (x 0 4) → (¬ ((x 0 5) - (x 0 5) / 2 * 2) = 0 → wp_X4_fall_54 post   x) ∧ (((x 0 5) - (x 0 5) / 2 * 2) = 0 → wp_X4_fall_44 post   x))) ∧ (¬ x1 ≤ 600 → wp_X4_fall_16 post   x))
set_option maxHeartbeats 4000000 in
set_option maxRecDepth 100000 in
theorem c_X4_fall (l : Launch) (D : va_G) (tc : Nat → ClassId) (h0 : Nat) (sa : Nat → Nat) (x1 : Int32) (H0 : Heap) {ax : Nat → Nat} {Ax : Nat → Prop} {x : Dt} (hBx : Blk D tc Ax (shPr ax) ax x H0) (hA0 : ∀ q, Ax q → h0 ≤ q) {post : Dt → Prop} (hw : wp_X4_fall post x x1) : MB l yX4_fall cX4_fall 2 (Option.none : Option FieldType) rm_X4_fall Ax [.ref (ax 0), .int x1] D tc h0 sa H0 post (fun (u : Dt) (H1 : Heap) => Blk D tc Ax (shPr ax) ax u H1) (fun _ : Dt => none) := by
  refine MB.of RX4 [(0, .ref (ax 0)), (1, .int x1)] (by decide +kernel) rfl (Nat.le_of_ble_eq_true rfl) rfl ?_
  intro p e s m below meth c ls X hr hin hT hH hS hl
  subst hH
  have hx := X.1
  have hb := X.2.1
  have hown := X.2.2.2.1
  have hU := X.2.2.2.2.1.1
  unfold wp_X4_fall at hw
  refine lv_aload_n hx hb dX4_fall_0 rfl (lv_at hl 0 rfl) ?_
  refine g_get X dX4_fall_1 f_X4_44 hBx 0 (v := .int (x 0 4)) rfl rfl ?_
  refine lv_bipush (v := 9) hx hb dX4_fall_4 (by decide) ?_
  refine lv_icmp_ge (tgt := 16) hx hb dX4_fall_6 (by decide) (fun c1 => ?_) (fun c1 => ?_)
  · have hw := hw.1 c1
    exact t_X4_fall_16 X hr hT hA0   _ _ _ hw hBx hS (lv_sub hl [0] rfl)
  · have hw := hw.2 c1
    refine lv_iload_n hx hb dX4_fall_9 rfl (lv_at hl 1 rfl) ?_
    refine lv_sipush (v := 600) hx hb dX4_fall_10 (by decide) ?_
    refine lv_icmp_le (tgt := 24) hx hb dX4_fall_13 (by decide) (fun c3 => ?_) (fun c3 => ?_)
    · have hw := hw.1 c3
      refine lv_aload_n hx hb dX4_fall_24 rfl (lv_at hl 0 rfl) ?_
      refine g_get X dX4_fall_25 f_X4_44 hBx 0 (v := .int (x 0 4)) rfl rfl ?_
      refine lv_aload_n hx hb dX4_fall_28 rfl (lv_at hl 0 rfl) ?_
      refine g_get X dX4_fall_29 f_X4_27 hBx 0 (v := .int (x 0 0)) rfl rfl ?_
      refine lv_icmp_ge (tgt := 44) hx hb dX4_fall_32 (by decide) (fun c4 => ?_) (fun c4 => ?_)
      · have hw := hw.1 c4
        exact t_X4_fall_44 X hr hT hA0   _ _ _ hw hBx hS (lv_sub hl [0] rfl)
      · have hw := hw.2 c4
        refine lv_aload_n hx hb dX4_fall_35 rfl (lv_at hl 0 rfl) ?_
        refine g_get X dX4_fall_36 f_X4_41 hBx 0 (v := .int (x 0 5)) rfl rfl ?_
        refine lv_iconst (v := 2) hx hb dX4_fall_39 (by decide) ?_
        refine lv_irem hx hb dX4_fall_40 (by decide) ?_
        refine lv_if_ne (tgt := 54) hx hb dX4_fall_41 (by decide) (fun c6 => ?_) (fun c6 => ?_)
        · have hw := hw.1 c6
          exact t_X4_fall_54 X hr hT hA0   _ _ _ _ hw hBx hS (lv_sub hl [] rfl)
        · have hw := hw.2 c6
          exact t_X4_fall_44 X hr hT hA0   _ _ _ hw hBx hS (lv_sub hl [0] rfl)
    · have hw := hw.2 c3
      exact t_X4_fall_16 X hr hT hA0   _ _ _ hw hBx hS (lv_sub hl [0] rfl)
abbrev rm_X4_goOn : Room := { frames := 2, cells := 0, slots := 0, locals := 45 }
def wp_X4_goOn_32 (post : Dt → Prop)   (x : Dt) (w : Dt) : Prop := ∀ w2 : Dt, w2 = up2 x 0 6 1 → (post w2)
set_option maxHeartbeats 4000000 in
set_option maxRecDepth 100000 in
theorem t_X4_goOn_32 {p : Program} {l : Launch} {e : Env} {s : State} {m : MethodId} {args : Array Value} {below : List Frame} {meth : Method} {c : Code} {D : va_G} {tc : Nat → ClassId} {h0 : Nat} {sa : Nat → Nat}  {ax : Nat → Nat} {Ax : Nat → Prop} {ad : Nat → Nat} {A : Nat → Prop} {post : Dt → Prop}  (X : Cx p c s m meth cX4_goOn 2 RX4 D tc) (hr : meth.sig.returnType = (Option.none : Option FieldType)) (hT : ST h0 sa s s.heap) (hA0 : ∀ q, Ax q → h0 ≤ q) (hDw : ∀ q, Ax q → ¬ A q)   : ∀ (x : Dt) (w : Dt) (locs : List Loc) (ls : Array Slot), wp_X4_goOn_32 post   x w → (Blk D tc Ax (shPr ax) ax x s.heap) → (Blk D tc A (shW ad) ad w s.heap) → va_S Ax s.heap s.heap locs → lv_has ls 2 [(0, .ref (ax 0))] → W p l e rm_X4_goOn s m args below meth c s.heap locs 0 0 (MQ below (QB post (fun (u : Dt) (H1 : Heap) => Blk D tc Ax (shPr ax) ax u H1) (fun _ : Dt => none) Ax) args s rm_X4_goOn.cells rm_X4_goOn.slots Ax) (F0 m 32 ls []) := by
  have hx := X.1
  have hb := X.2.1
  have hown := X.2.2.2.1
  have hU := X.2.2.2.2.1.1
  intro x w  locs ls hw hBx hBw hS hl
  unfold wp_X4_goOn_32 at hw
  refine lv_aload_n hx hb dX4_goOn_32 rfl (lv_at hl 0 rfl) ?_
  refine lv_iconst (v := 1) hx hb dX4_goOn_33 (by decide) ?_
  refine g_puti X dX4_goOn_34 f_X4_47 hBx hS 0 rfl (x := 1) rfl rfl rfl (fun H locs hBx oq hS => ?_)
  have hBw := hBw.kept1 oq (hDw _ (hBx.in (i := 0) rfl))
  obtain ⟨w2, ew2⟩ : ∃ z : Dt, z = up2 x 0 6 1 := ⟨_, rfl⟩
  rw [← ew2] at hBx
  have hw := hw w2 ew2
  exact e_v X hr dX4_goOn_37 hS (w2) rfl hw hBx ⟨Nat.le_of_ble_eq_true rfl, Nat.le_of_ble_eq_true rfl⟩
def wp_X4_goOn_119 (post : Dt → Prop)   (x : Dt) (w : Dt) : Prop := vp_in (x 0 4) 10 ∧ (wp_X4_fall (fun w18 => post w18) x (w 2 (x 0 4).toNatClampNeg))
set_option maxHeartbeats 4000000 in
set_option maxRecDepth 100000 in
theorem t_X4_goOn_119 {p : Program} {l : Launch} {e : Env} {s : State} {m : MethodId} {args : Array Value} {below : List Frame} {meth : Method} {c : Code} {D : va_G} {tc : Nat → ClassId} {h0 : Nat} {sa : Nat → Nat}  {ax : Nat → Nat} {Ax : Nat → Prop} {ad : Nat → Nat} {A : Nat → Prop} {post : Dt → Prop}  (X : Cx p c s m meth cX4_goOn 2 RX4 D tc) (hr : meth.sig.returnType = (Option.none : Option FieldType)) (hT : ST h0 sa s s.heap) (hA0 : ∀ q, Ax q → h0 ≤ q) (hDw : ∀ q, Ax q → ¬ A q)   : ∀ (x : Dt) (w : Dt) (H : Heap) (locs : List Loc) (ls : Array Slot), wp_X4_goOn_119 post   x w → (Blk D tc Ax (shPr ax) ax x H) → (Blk D tc A (shW ad) ad w H) → va_S Ax s.heap H locs → lv_has ls 2 [(0, .ref (ax 0)), (1, .ref (ad 1))] → W p l e rm_X4_goOn s m args below meth c H locs 0 0 (MQ below (QB post (fun (u : Dt) (H1 : Heap) => Blk D tc Ax (shPr ax) ax u H1) (fun _ : Dt => none) Ax) args s rm_X4_goOn.cells rm_X4_goOn.slots Ax) (F0 m 119 ls []) := by
  have hx := X.1
  have hb := X.2.1
  have hown := X.2.2.2.1
  have hU := X.2.2.2.2.1.1
  intro x w H locs ls hw hBx hBw hS hl
  unfold wp_X4_goOn_119 at hw
  refine lv_aload_n hx hb dX4_goOn_119 rfl (lv_at hl 0 rfl) ?_
  refine lv_aload_n hx hb dX4_goOn_120 rfl (lv_at hl 1 rfl) ?_
  refine g_get X dX4_goOn_121 f_X4_50 hBw 1 (v := .ref (ad 2)) rfl rfl ?_
  refine lv_aload_n hx hb dX4_goOn_124 rfl (lv_at hl 0 rfl) ?_
  refine g_get X dX4_goOn_125 f_X4_44 hBx 0 (v := .int (x 0 4)) rfl rfl ?_
  obtain ⟨o17, hw⟩ := hw
  refine g_iald X dX4_goOn_128 hBw 2 rfl o17 rfl ?_
  refine g_after (st0 := .int (w 2 (x 0 4).toNatClampNeg) :: .ref (ax 0) :: []) (rest := []) (g_V X m_X4_64 (c_X4_fall l D tc h0 sa (w 2 (x 0 4).toNatClampNeg) _ hBx hA0 hw) (hBx.recv X 0 rfl (q := (RX4, TX4, 15)) rfl) hT hS hA0 dX4_goOn_129 hl.1 rfl rfl ⟨Nat.le_of_ble_eq_true rfl, Nat.le_of_ble_eq_true rfl⟩ (Nat.le_of_ble_eq_true rfl) ⟨Nat.le_of_ble_eq_true rfl, Nat.le_of_ble_eq_true rfl⟩) hS (fun _ h => h) (fun u => []) (fun _ => rfl) (fun u H9 locs hw hP9 hz9 hk9 hS => ?_)
  obtain ⟨w18, rfl⟩ : ∃ z, z = u := ⟨_, rfl⟩
  have hBx : Blk D tc Ax (shPr ax) ax w18 H9 := hP9
  have hBw := hBw.kept (fun q hq hA9 => hk9 q hq (fun z => hDw q z hA9))
  try dsimp only at hw
  exact e_v X hr dX4_goOn_132 hS (w18) rfl hw hBx ⟨Nat.le_of_ble_eq_true rfl, Nat.le_of_ble_eq_true rfl⟩
def wp_X4_goOn (post : Dt → Prop) (x : Dt) (w : Dt) : Prop := ((x 0 5) < 0 → wp_X4_goOn_32 post   x w) ∧ (¬ (x 0 5) < 0 → (19 ≤ (x 0 5) → wp_X4_goOn_32 post   x w) ∧ (¬ 19 ≤ (x 0 5) → ((x 0 4) < 0 → wp_X4_goOn_32 post   x w) ∧ (¬ (x 0 4) < 0 → ((x 0 4) < 10 → vp_in (x 0 5) 19 ∧ (∀ w7 : Dt, w7 = up2 x 1 (x 0 5).toNatClampNeg (x 0 4) → (vp_in (w7 0 4) 10 ∧ (vp_in (w7 0 5) 19 ∧ (∀ w10 : Dt, w10 = up2 w7 2 (w7 0 5).toNatClampNeg (w 2 (w7 0 4).toNatClampNeg) → (wp_X1_iceIn (fun r11 => vp_in (w10 0 5) 19 ∧ (∀ w13 : Dt, w13 = up2 w10 3 (w10 0 5).toNatClampNeg r11 → (wp_X4_keep (fun w14 => ∀ w15 : Dt, w15 = up2 w14 0 5 ((w14 0 5) + 1) → (((w15 0 1) < (w15 0 5) → wp_X4_goOn_119 post   w15 w) ∧ (¬ (w15 0 1) < (w15 0 5) → wp_X4_transmit (fun w19 => wp_X4_goOn_119 post   w19 w) w15))) w13 (w13 0 5)))) w (w10 0 4))))))) ∧ (¬ (x 0 4) < 10 → wp_X4_goOn_32 post   x w))))
set_option maxHeartbeats 4000000 in
set_option maxRecDepth 100000 in
theorem c_X4_goOn (l : Launch) (D : va_G) (tc : Nat → ClassId) (h0 : Nat) (sa : Nat → Nat)  (H0 : Heap) {ax : Nat → Nat} {Ax : Nat → Prop} {ad : Nat → Nat} {A : Nat → Prop} {x : Dt} {w : Dt} (hBx : Blk D tc Ax (shPr ax) ax x H0) (hBw : Blk D tc A (shW ad) ad w H0) (hDw : ∀ q, Ax q → ¬ A q) (hA0 : ∀ q, Ax q → h0 ≤ q) {post : Dt → Prop} (hw : wp_X4_goOn post x w) : MB l yX4_goOn cX4_goOn 2 (Option.none : Option FieldType) rm_X4_goOn Ax [.ref (ax 0), .ref (ad 1)] D tc h0 sa H0 post (fun (u : Dt) (H1 : Heap) => Blk D tc Ax (shPr ax) ax u H1) (fun _ : Dt => none) := by
  refine MB.of RX4 [(0, .ref (ax 0)), (1, .ref (ad 1))] (by decide +kernel) rfl (Nat.le_of_ble_eq_true rfl) rfl ?_
  intro p e s m below meth c ls X hr hin hT hH hS hl
  subst hH
  have hx := X.1
  have hb := X.2.1
  have hown := X.2.2.2.1
  have hU := X.2.2.2.2.1.1
  unfold wp_X4_goOn at hw
  refine lv_aload_n hx hb dX4_goOn_0 rfl (lv_at hl 0 rfl) ?_
  refine g_get X dX4_goOn_1 f_X4_41 hBx 0 (v := .int (x 0 5)) rfl rfl ?_
  refine lv_if_lt (tgt := 32) hx hb dX4_goOn_4 (by decide) (fun c1 => ?_) (fun c1 => ?_)
  · have hw := hw.1 c1
    exact t_X4_goOn_32 X hr hT hA0 hDw  _ _ _ _ hw hBx hBw hS (lv_sub hl [0] rfl)
  · have hw := hw.2 c1
    refine lv_aload_n hx hb dX4_goOn_7 rfl (lv_at hl 0 rfl) ?_
    refine g_get X dX4_goOn_8 f_X4_41 hBx 0 (v := .int (x 0 5)) rfl rfl ?_
    refine lv_bipush (v := 19) hx hb dX4_goOn_11 (by decide) ?_
    refine lv_icmp_ge (tgt := 32) hx hb dX4_goOn_13 (by decide) (fun c3 => ?_) (fun c3 => ?_)
    · have hw := hw.1 c3
      exact t_X4_goOn_32 X hr hT hA0 hDw  _ _ _ _ hw hBx hBw hS (lv_sub hl [0] rfl)
    · have hw := hw.2 c3
      refine lv_aload_n hx hb dX4_goOn_16 rfl (lv_at hl 0 rfl) ?_
      refine g_get X dX4_goOn_17 f_X4_44 hBx 0 (v := .int (x 0 4)) rfl rfl ?_
      refine lv_if_lt (tgt := 32) hx hb dX4_goOn_20 (by decide) (fun c4 => ?_) (fun c4 => ?_)
      · have hw := hw.1 c4
        exact t_X4_goOn_32 X hr hT hA0 hDw  _ _ _ _ hw hBx hBw hS (lv_sub hl [0] rfl)
      · have hw := hw.2 c4
        refine lv_aload_n hx hb dX4_goOn_23 rfl (lv_at hl 0 rfl) ?_
        refine g_get X dX4_goOn_24 f_X4_44 hBx 0 (v := .int (x 0 4)) rfl rfl ?_
        refine lv_bipush (v := 10) hx hb dX4_goOn_27 (by decide) ?_
        refine lv_icmp_lt (tgt := 38) hx hb dX4_goOn_29 (by decide) (fun c5 => ?_) (fun c5 => ?_)
        · have hw := hw.1 c5
          refine lv_aload_n hx hb dX4_goOn_38 rfl (lv_at hl 0 rfl) ?_
          refine g_get X dX4_goOn_39 f_X4_11 hBx 0 (v := .ref (ax 1)) rfl rfl ?_
          refine lv_aload_n hx hb dX4_goOn_42 rfl (lv_at hl 0 rfl) ?_
          refine g_get X dX4_goOn_43 f_X4_41 hBx 0 (v := .int (x 0 5)) rfl rfl ?_
          refine lv_aload_n hx hb dX4_goOn_46 rfl (lv_at hl 0 rfl) ?_
          refine g_get X dX4_goOn_47 f_X4_44 hBx 0 (v := .int (x 0 4)) rfl rfl ?_
          obtain ⟨o6, hw⟩ := hw
          refine g_iast X dX4_goOn_50 hBx hS 1 rfl o6 rfl  (fun H locs hBx oq hS => ?_)
          have hBw := hBw.kept1 oq (hDw _ (hBx.in (i := 1) rfl))
          obtain ⟨w7, ew7⟩ : ∃ z : Dt, z = up2 x 1 (x 0 5).toNatClampNeg (x 0 4) := ⟨_, rfl⟩
          rw [← ew7] at hBx
          have hw := hw w7 ew7
          refine lv_aload_n hx hb dX4_goOn_51 rfl (lv_at hl 0 rfl) ?_
          refine g_get X dX4_goOn_52 f_X4_15 hBx 0 (v := .ref (ax 2)) rfl rfl ?_
          refine lv_aload_n hx hb dX4_goOn_55 rfl (lv_at hl 0 rfl) ?_
          refine g_get X dX4_goOn_56 f_X4_41 hBx 0 (v := .int (w7 0 5)) rfl rfl ?_
          refine lv_aload_n hx hb dX4_goOn_59 rfl (lv_at hl 1 rfl) ?_
          refine g_get X dX4_goOn_60 f_X4_50 hBw 1 (v := .ref (ad 2)) rfl rfl ?_
          refine lv_aload_n hx hb dX4_goOn_63 rfl (lv_at hl 0 rfl) ?_
          refine g_get X dX4_goOn_64 f_X4_44 hBx 0 (v := .int (w7 0 4)) rfl rfl ?_
          obtain ⟨o8, hw⟩ := hw
          refine g_iald X dX4_goOn_67 hBw 2 rfl o8 rfl ?_
          obtain ⟨o9, hw⟩ := hw
          refine g_iast X dX4_goOn_68 hBx hS 2 rfl o9 rfl  (fun H locs hBx oq hS => ?_)
          have hBw := hBw.kept1 oq (hDw _ (hBx.in (i := 2) rfl))
          obtain ⟨w10, ew10⟩ : ∃ z : Dt, z = up2 w7 2 (w7 0 5).toNatClampNeg (w 2 (w7 0 4).toNatClampNeg) := ⟨_, rfl⟩
          rw [← ew10] at hBx
          have hw := hw w10 ew10
          refine lv_aload_n hx hb dX4_goOn_69 rfl (lv_at hl 0 rfl) ?_
          refine g_get X dX4_goOn_70 f_X4_18 hBx 0 (v := .ref (ax 3)) rfl rfl ?_
          refine lv_aload_n hx hb dX4_goOn_73 rfl (lv_at hl 0 rfl) ?_
          refine g_get X dX4_goOn_74 f_X4_41 hBx 0 (v := .int (w10 0 5)) rfl rfl ?_
          refine lv_aload_n hx hb dX4_goOn_77 rfl (lv_at hl 1 rfl) ?_
          refine lv_aload_n hx hb dX4_goOn_78 rfl (lv_at hl 0 rfl) ?_
          refine g_get X dX4_goOn_79 f_X4_44 hBx 0 (v := .int (w10 0 4)) rfl rfl ?_
          refine g_after (st0 := .int (w10 0 4) :: .ref (ad 1) :: [.int (w10 0 5), .ref (ax 3)]) (rest := [.int (w10 0 5), .ref (ax 3)]) (g_V X m_X4_53 (c_X1_iceIn l D tc h0 sa (w10 0 4) _ hBw hw) (hBw.recv X 1 rfl (q := (RX1, TX1, 8)) rfl) hT hS hA0 dX4_goOn_82 hl.1 rfl rfl ⟨Nat.le_of_ble_eq_true rfl, Nat.le_of_ble_eq_true rfl⟩ (Nat.le_of_ble_eq_true rfl) ⟨Nat.le_of_ble_eq_true rfl, Nat.le_of_ble_eq_true rfl⟩) hS (fun _ h => h.elim) (fun u => .int u :: [.int (w10 0 5), .ref (ax 3)]) (fun _ => rfl) (fun u H9 locs hw hP9 hz9 hk9 hS => ?_)
          have e9 : H9 = _ := hP9
          rw [e9] at hS ⊢
          obtain ⟨r11, rfl⟩ : ∃ z, z = u := ⟨_, rfl⟩
          try dsimp only at hw
          obtain ⟨o12, hw⟩ := hw
          refine g_iast X dX4_goOn_85 hBx hS 3 rfl o12 rfl  (fun H locs hBx oq hS => ?_)
          have hBw := hBw.kept1 oq (hDw _ (hBx.in (i := 3) rfl))
          obtain ⟨w13, ew13⟩ : ∃ z : Dt, z = up2 w10 3 (w10 0 5).toNatClampNeg r11 := ⟨_, rfl⟩
          rw [← ew13] at hBx
          have hw := hw w13 ew13
          refine lv_aload_n hx hb dX4_goOn_86 rfl (lv_at hl 0 rfl) ?_
          refine lv_aload_n hx hb dX4_goOn_87 rfl (lv_at hl 0 rfl) ?_
          refine g_get X dX4_goOn_88 f_X4_41 hBx 0 (v := .int (w13 0 5)) rfl rfl ?_
          refine g_after (st0 := .int (w13 0 5) :: .ref (ax 0) :: []) (rest := []) (g_V X m_X4_57 (c_X4_keep l D tc h0 sa (w13 0 5) _ hBx hA0 hw) (hBx.recv X 0 rfl (q := (RX4, TX4, 15)) rfl) hT hS hA0 dX4_goOn_91 hl.1 rfl rfl ⟨Nat.le_of_ble_eq_true rfl, Nat.le_of_ble_eq_true rfl⟩ (Nat.le_of_ble_eq_true rfl) ⟨Nat.le_of_ble_eq_true rfl, Nat.le_of_ble_eq_true rfl⟩) hS (fun _ h => h) (fun u => []) (fun _ => rfl) (fun u H9 locs hw hP9 hz9 hk9 hS => ?_)
          obtain ⟨w14, rfl⟩ : ∃ z, z = u := ⟨_, rfl⟩
          have hBx : Blk D tc Ax (shPr ax) ax w14 H9 := hP9
          have hBw := hBw.kept (fun q hq hA9 => hk9 q hq (fun z => hDw q z hA9))
          try dsimp only at hw
          refine lv_aload_n hx hb dX4_goOn_94 rfl (lv_at hl 0 rfl) ?_
          refine lv_dup hx hb dX4_goOn_95 rfl ?_
          refine g_get X dX4_goOn_96 f_X4_41 hBx 0 (v := .int (w14 0 5)) rfl rfl ?_
          refine lv_iconst (v := 1) hx hb dX4_goOn_99 (by decide) ?_
          refine lv_iadd hx hb dX4_goOn_100 ?_
          refine g_puti X dX4_goOn_101 f_X4_41 hBx hS 0 rfl (x := ((w14 0 5) + 1)) rfl rfl rfl (fun H locs hBx oq hS => ?_)
          have hBw := hBw.kept1 oq (hDw _ (hBx.in (i := 0) rfl))
          obtain ⟨w15, ew15⟩ : ∃ z : Dt, z = up2 w14 0 5 ((w14 0 5) + 1) := ⟨_, rfl⟩
          rw [← ew15] at hBx
          have hw := hw w15 ew15
          refine lv_aload_n hx hb dX4_goOn_104 rfl (lv_at hl 0 rfl) ?_
          refine g_get X dX4_goOn_105 f_X4_41 hBx 0 (v := .int (w15 0 5)) rfl rfl ?_
          refine lv_aload_n hx hb dX4_goOn_108 rfl (lv_at hl 0 rfl) ?_
          refine g_get X dX4_goOn_109 f_X4_31 hBx 0 (v := .int (w15 0 1)) rfl rfl ?_
          refine lv_icmp_gt (tgt := 119) hx hb dX4_goOn_112 (by decide) (fun c16 => ?_) (fun c16 => ?_)
          · have hw := hw.1 c16
            exact t_X4_goOn_119 X hr hT hA0 hDw  _ _ _ _ _ hw hBx hBw hS (lv_sub hl [0, 1] rfl)
          · have hw := hw.2 c16
            refine lv_aload_n hx hb dX4_goOn_115 rfl (lv_at hl 0 rfl) ?_
            refine g_after (st0 := .ref (ax 0) :: []) (rest := []) (g_V X m_X4_61 (c_X4_transmit l D tc h0 sa  _ hBx hA0 hw) (hBx.recv X 0 rfl (q := (RX4, TX4, 15)) rfl) hT hS hA0 dX4_goOn_116 hl.1 rfl rfl ⟨Nat.le_of_ble_eq_true rfl, Nat.le_of_ble_eq_true rfl⟩ (Nat.le_of_ble_eq_true rfl) ⟨Nat.le_of_ble_eq_true rfl, Nat.le_of_ble_eq_true rfl⟩) hS (fun _ h => h) (fun u => []) (fun _ => rfl) (fun u H9 locs hw hP9 hz9 hk9 hS => ?_)
            obtain ⟨w19, rfl⟩ : ∃ z, z = u := ⟨_, rfl⟩
            have hBx : Blk D tc Ax (shPr ax) ax w19 H9 := hP9
            have hBw := hBw.kept (fun q hq hA9 => hk9 q hq (fun z => hDw q z hA9))
            try dsimp only at hw
            exact t_X4_goOn_119 X hr hT hA0 hDw  _ _ _ _ _ hw hBx hBw hS (lv_sub hl [0, 1] rfl)
        · have hw := hw.2 c5
          exact t_X4_goOn_32 X hr hT hA0 hDw  _ _ _ _ hw hBx hBw hS (lv_sub hl [0] rfl)
abbrev rm_X2_see : Room := { frames := 2, cells := 0, slots := 0, locals := 43 }
def wp_X2_see_108 (post : Dt → Prop)   (x : Dt) (w : Dt) : Prop := post x
set_option maxHeartbeats 4000000 in
set_option maxRecDepth 100000 in
theorem t_X2_see_108 {p : Program} {l : Launch} {e : Env} {s : State} {m : MethodId} {args : Array Value} {below : List Frame} {meth : Method} {c : Code} {D : va_G} {tc : Nat → ClassId} {h0 : Nat} {sa : Nat → Nat}  {ax : Nat → Nat} {Ax : Nat → Prop} {ad : Nat → Nat} {A : Nat → Prop} {post : Dt → Prop}  (X : Cx p c s m meth cX2_see 6 RX2 D tc) (hr : meth.sig.returnType = (Option.none : Option FieldType)) (hT : ST h0 sa s s.heap) (hA0 : ∀ q, Ax q → h0 ≤ q) (hDw : ∀ q, Ax q → ¬ A q)   : ∀ (x : Dt) (w : Dt) (H : Heap) (locs : List Loc) (ls : Array Slot), wp_X2_see_108 post   x w → (Blk D tc Ax (shFr ax) ax x H) → (Blk D tc A (shW ad) ad w H) → va_S Ax s.heap H locs → lv_has ls 6 [] → W p l e rm_X2_see s m args below meth c H locs 0 0 (MQ below (QB post (fun (u : Dt) (H1 : Heap) => Blk D tc Ax (shFr ax) ax u H1) (fun _ : Dt => none) Ax) args s rm_X2_see.cells rm_X2_see.slots Ax) (F0 m 108 ls []) := by
  have hx := X.1
  have hb := X.2.1
  have hown := X.2.2.2.1
  have hU := X.2.2.2.2.1.1
  intro x w H locs ls hw hBx hBw hS hl
  unfold wp_X2_see_108 at hw
  exact e_v X hr dX2_see_108 hS (x) rfl hw hBx ⟨Nat.le_of_ble_eq_true rfl, Nat.le_of_ble_eq_true rfl⟩
def wp_X2_see_102 (post : Dt → Prop)  (K2 : Int32 → Int32 → Dt → Dt → Prop) (y2 : Int32) (y3 : Int32) (x : Dt) (w : Dt) : Prop := K2 y2 (y3 + 1) x w
set_option maxHeartbeats 4000000 in
set_option maxRecDepth 100000 in
theorem t_X2_see_102 {p : Program} {l : Launch} {e : Env} {s : State} {m : MethodId} {args : Array Value} {below : List Frame} {meth : Method} {c : Code} {D : va_G} {tc : Nat → ClassId} {h0 : Nat} {sa : Nat → Nat}  {ax : Nat → Nat} {Ax : Nat → Prop} {ad : Nat → Nat} {A : Nat → Prop} {post : Dt → Prop} {K2 : Int32 → Int32 → Dt → Dt → Prop} (X : Cx p c s m meth cX2_see 6 RX2 D tc) (hr : meth.sig.returnType = (Option.none : Option FieldType)) (hT : ST h0 sa s s.heap) (hA0 : ∀ q, Ax q → h0 ≤ q) (hDw : ∀ q, Ax q → ¬ A q)  (hK2 : ∀ (y2 : Int32) (y3 : Int32) (x : Dt) (w : Dt) (H : Heap) (locs : List Loc) (ls : Array Slot), K2 y2 y3 x w → (Blk D tc Ax (shFr ax) ax x H) → (Blk D tc A (shW ad) ad w H) → va_S Ax s.heap H locs → lv_has ls 6 [(0, .ref (ax 0)), (1, .ref (ad 7)), (2, .int y2), (3, .int y3)] → W p l e rm_X2_see s m args below meth c H locs 0 0 (MQ below (QB post (fun (u : Dt) (H1 : Heap) => Blk D tc Ax (shFr ax) ax u H1) (fun _ : Dt => none) Ax) args s rm_X2_see.cells rm_X2_see.slots Ax) (F0 m 2 ls [])) : ∀ (y2 : Int32) (y3 : Int32) (x : Dt) (w : Dt) (H : Heap) (locs : List Loc) (ls : Array Slot), wp_X2_see_102 post  K2 y2 y3 x w → (Blk D tc Ax (shFr ax) ax x H) → (Blk D tc A (shW ad) ad w H) → va_S Ax s.heap H locs → lv_has ls 6 [(0, .ref (ax 0)), (1, .ref (ad 7)), (2, .int y2), (3, .int y3)] → W p l e rm_X2_see s m args below meth c H locs 0 0 (MQ below (QB post (fun (u : Dt) (H1 : Heap) => Blk D tc Ax (shFr ax) ax u H1) (fun _ : Dt => none) Ax) args s rm_X2_see.cells rm_X2_see.slots Ax) (F0 m 102 ls []) := by
  have hx := X.1
  have hb := X.2.1
  have hown := X.2.2.2.1
  have hU := X.2.2.2.2.1.1
  intro y2 y3 x w H locs ls hw hBx hBw hS hl
  unfold wp_X2_see_102 at hw
  refine lv_iinc (lv' := [(3, .int (y3 + 1)), (0, .ref (ax 0)), (1, .ref (ad 7)), (2, .int y2)]) hx hb dX2_see_102 hl (k := 3) rfl (by rfl) (by decide) rfl (fun ls hl => ?_)
  refine lv_goto (tgt := 2) hx hb dX2_see_105 (by decide) ?_
  exact hK2 _ _ _ _ _ _ _ hw hBx hBw hS (lv_sub hl [1, 2, 3, 0] rfl)
def wp_X2_see_50 (post : Dt → Prop)  (K2 : Int32 → Int32 → Dt → Dt → Prop) (y2 : Int32) (y3 : Int32) (y4 : Int32) (z0 : Int32) (x : Dt) (w : Dt) : Prop := (z0 = 0 → wp_X2_see_102 post  K2 y2 y3 x w) ∧ (¬ z0 = 0 → (12 ≤ (x 0 1) → wp_X2_see_102 post  K2 y2 y3 x w) ∧ (¬ 12 ≤ (x 0 1) → vp_in y3 12 ∧ (vp_in (x 0 1) 12 ∧ (narrow .char (.int (w 12 y3.toNatClampNeg)) = .int (w 12 y3.toNatClampNeg) ∧ (∀ w10 : Dt, w10 = up2 x 1 (x 0 1).toNatClampNeg (w 12 y3.toNatClampNeg) → (vp_in (w10 0 1) 12 ∧ (∀ w12 : Dt, w12 = up2 w10 2 (w10 0 1).toNatClampNeg y4 → (∀ w13 : Dt, w13 = up2 w12 0 1 ((w12 0 1) + 1) → (wp_X2_see_102 post  K2 y2 y3 w13 w)))))))))
set_option maxHeartbeats 4000000 in
set_option maxRecDepth 100000 in
theorem t_X2_see_50 {p : Program} {l : Launch} {e : Env} {s : State} {m : MethodId} {args : Array Value} {below : List Frame} {meth : Method} {c : Code} {D : va_G} {tc : Nat → ClassId} {h0 : Nat} {sa : Nat → Nat}  {ax : Nat → Nat} {Ax : Nat → Prop} {ad : Nat → Nat} {A : Nat → Prop} {post : Dt → Prop} {K2 : Int32 → Int32 → Dt → Dt → Prop} (X : Cx p c s m meth cX2_see 6 RX2 D tc) (hr : meth.sig.returnType = (Option.none : Option FieldType)) (hT : ST h0 sa s s.heap) (hA0 : ∀ q, Ax q → h0 ≤ q) (hDw : ∀ q, Ax q → ¬ A q)  (hK2 : ∀ (y2 : Int32) (y3 : Int32) (x : Dt) (w : Dt) (H : Heap) (locs : List Loc) (ls : Array Slot), K2 y2 y3 x w → (Blk D tc Ax (shFr ax) ax x H) → (Blk D tc A (shW ad) ad w H) → va_S Ax s.heap H locs → lv_has ls 6 [(0, .ref (ax 0)), (1, .ref (ad 7)), (2, .int y2), (3, .int y3)] → W p l e rm_X2_see s m args below meth c H locs 0 0 (MQ below (QB post (fun (u : Dt) (H1 : Heap) => Blk D tc Ax (shFr ax) ax u H1) (fun _ : Dt => none) Ax) args s rm_X2_see.cells rm_X2_see.slots Ax) (F0 m 2 ls [])) : ∀ (y2 : Int32) (y3 : Int32) (y4 : Int32) (z0 : Int32) (x : Dt) (w : Dt) (H : Heap) (locs : List Loc) (ls : Array Slot), wp_X2_see_50 post  K2 y2 y3 y4 z0 x w → (Blk D tc Ax (shFr ax) ax x H) → (Blk D tc A (shW ad) ad w H) → va_S Ax s.heap H locs → lv_has ls 6 [(0, .ref (ax 0)), (1, .ref (ad 7)), (2, .int y2), (3, .int y3), (4, .int y4)] → W p l e rm_X2_see s m args below meth c H locs 0 0 (MQ below (QB post (fun (u : Dt) (H1 : Heap) => Blk D tc Ax (shFr ax) ax u H1) (fun _ : Dt => none) Ax) args s rm_X2_see.cells rm_X2_see.slots Ax) (F0 m 50 ls [.int z0]) := by
  have hx := X.1
  have hb := X.2.1
  have hown := X.2.2.2.1
  have hU := X.2.2.2.2.1.1
  intro y2 y3 y4 z0 x w H locs ls hw hBx hBw hS hl
  unfold wp_X2_see_50 at hw
  refine lv_istore (lv' := [(5, .int z0), (0, .ref (ax 0)), (1, .ref (ad 7)), (2, .int y2), (3, .int y3), (4, .int y4)]) hx hb dX2_see_50 hl (by decide) rfl (fun ls hl => ?_)
  refine lv_iload hx hb dX2_see_52 (lv_at hl 0 rfl) ?_
  refine lv_if_eq (tgt := 102) hx hb dX2_see_54 (by decide) (fun c5 => ?_) (fun c5 => ?_)
  · have hw := hw.1 c5
    exact t_X2_see_102 X hr hT hA0 hDw hK2 _ _ _ _ _ _ _ hw hBx hBw hS (lv_sub hl [1, 2, 3, 4] rfl)
  · have hw := hw.2 c5
    refine lv_aload_n hx hb dX2_see_57 rfl (lv_at hl 1 rfl) ?_
    refine g_get X dX2_see_58 f_X2_39 hBx 0 (v := .int (x 0 1)) rfl rfl ?_
    refine lv_bipush (v := 12) hx hb dX2_see_61 (by decide) ?_
    refine lv_icmp_ge (tgt := 102) hx hb dX2_see_63 (by decide) (fun c6 => ?_) (fun c6 => ?_)
    · have hw := hw.1 c6
      exact t_X2_see_102 X hr hT hA0 hDw hK2 _ _ _ _ _ _ _ hw hBx hBw hS (lv_sub hl [1, 2, 3, 4] rfl)
    · have hw := hw.2 c6
      refine lv_aload_n hx hb dX2_see_66 rfl (lv_at hl 1 rfl) ?_
      refine g_get X dX2_see_67 f_X2_9 hBx 0 (v := .ref (ax 1)) rfl rfl ?_
      refine lv_aload_n hx hb dX2_see_70 rfl (lv_at hl 1 rfl) ?_
      refine g_get X dX2_see_71 f_X2_39 hBx 0 (v := .int (x 0 1)) rfl rfl ?_
      refine lv_aload_n hx hb dX2_see_74 rfl (lv_at hl 2 rfl) ?_
      refine g_get X dX2_see_75 f_X2_40 hBw 7 (v := .ref (ad 12)) rfl rfl ?_
      refine lv_iload_n hx hb dX2_see_78 rfl (lv_at hl 4 rfl) ?_
      obtain ⟨o7, hw⟩ := hw
      refine g_cald X dX2_see_79 hBw 12 rfl o7 rfl ?_
      obtain ⟨o8, hw⟩ := hw
      obtain ⟨o9, hw⟩ := hw
      refine g_cast X dX2_see_80 hBx hS 1 rfl o8 rfl o9 (fun H locs hBx oq hS => ?_)
      have hBw := hBw.kept1 oq (hDw _ (hBx.in (i := 1) rfl))
      obtain ⟨w10, ew10⟩ : ∃ z : Dt, z = up2 x 1 (x 0 1).toNatClampNeg (w 12 y3.toNatClampNeg) := ⟨_, rfl⟩
      rw [← ew10] at hBx
      have hw := hw w10 ew10
      refine lv_aload_n hx hb dX2_see_81 rfl (lv_at hl 1 rfl) ?_
      refine g_get X dX2_see_82 f_X2_15 hBx 0 (v := .ref (ax 2)) rfl rfl ?_
      refine lv_aload_n hx hb dX2_see_85 rfl (lv_at hl 1 rfl) ?_
      refine g_get X dX2_see_86 f_X2_39 hBx 0 (v := .int (w10 0 1)) rfl rfl ?_
      refine lv_iload hx hb dX2_see_89 (lv_at hl 5 rfl) ?_
      obtain ⟨o11, hw⟩ := hw
      refine g_iast X dX2_see_91 hBx hS 2 rfl o11 rfl  (fun H locs hBx oq hS => ?_)
      have hBw := hBw.kept1 oq (hDw _ (hBx.in (i := 2) rfl))
      obtain ⟨w12, ew12⟩ : ∃ z : Dt, z = up2 w10 2 (w10 0 1).toNatClampNeg y4 := ⟨_, rfl⟩
      rw [← ew12] at hBx
      have hw := hw w12 ew12
      refine lv_aload_n hx hb dX2_see_92 rfl (lv_at hl 1 rfl) ?_
      refine lv_dup hx hb dX2_see_93 rfl ?_
      refine g_get X dX2_see_94 f_X2_39 hBx 0 (v := .int (w12 0 1)) rfl rfl ?_
      refine lv_iconst (v := 1) hx hb dX2_see_97 (by decide) ?_
      refine lv_iadd hx hb dX2_see_98 ?_
      refine g_puti X dX2_see_99 f_X2_39 hBx hS 0 rfl (x := ((w12 0 1) + 1)) rfl rfl rfl (fun H locs hBx oq hS => ?_)
      have hBw := hBw.kept1 oq (hDw _ (hBx.in (i := 0) rfl))
      obtain ⟨w13, ew13⟩ : ∃ z : Dt, z = up2 w12 0 1 ((w12 0 1) + 1) := ⟨_, rfl⟩
      rw [← ew13] at hBx
      have hw := hw w13 ew13
      exact t_X2_see_102 X hr hT hA0 hDw hK2 _ _ _ _ _ _ _ hw hBx hBw hS (lv_sub hl [1, 2, 3, 4] rfl)
def wp_X2_see_49 (post : Dt → Prop)  (K2 : Int32 → Int32 → Dt → Dt → Prop) (y2 : Int32) (y3 : Int32) (y4 : Int32) (x : Dt) (w : Dt) : Prop := wp_X2_see_50 post  K2 y2 y3 y4 0 x w
set_option maxHeartbeats 4000000 in
set_option maxRecDepth 100000 in
theorem t_X2_see_49 {p : Program} {l : Launch} {e : Env} {s : State} {m : MethodId} {args : Array Value} {below : List Frame} {meth : Method} {c : Code} {D : va_G} {tc : Nat → ClassId} {h0 : Nat} {sa : Nat → Nat}  {ax : Nat → Nat} {Ax : Nat → Prop} {ad : Nat → Nat} {A : Nat → Prop} {post : Dt → Prop} {K2 : Int32 → Int32 → Dt → Dt → Prop} (X : Cx p c s m meth cX2_see 6 RX2 D tc) (hr : meth.sig.returnType = (Option.none : Option FieldType)) (hT : ST h0 sa s s.heap) (hA0 : ∀ q, Ax q → h0 ≤ q) (hDw : ∀ q, Ax q → ¬ A q)  (hK2 : ∀ (y2 : Int32) (y3 : Int32) (x : Dt) (w : Dt) (H : Heap) (locs : List Loc) (ls : Array Slot), K2 y2 y3 x w → (Blk D tc Ax (shFr ax) ax x H) → (Blk D tc A (shW ad) ad w H) → va_S Ax s.heap H locs → lv_has ls 6 [(0, .ref (ax 0)), (1, .ref (ad 7)), (2, .int y2), (3, .int y3)] → W p l e rm_X2_see s m args below meth c H locs 0 0 (MQ below (QB post (fun (u : Dt) (H1 : Heap) => Blk D tc Ax (shFr ax) ax u H1) (fun _ : Dt => none) Ax) args s rm_X2_see.cells rm_X2_see.slots Ax) (F0 m 2 ls [])) : ∀ (y2 : Int32) (y3 : Int32) (y4 : Int32) (x : Dt) (w : Dt) (H : Heap) (locs : List Loc) (ls : Array Slot), wp_X2_see_49 post  K2 y2 y3 y4 x w → (Blk D tc Ax (shFr ax) ax x H) → (Blk D tc A (shW ad) ad w H) → va_S Ax s.heap H locs → lv_has ls 6 [(0, .ref (ax 0)), (1, .ref (ad 7)), (2, .int y2), (3, .int y3), (4, .int y4)] → W p l e rm_X2_see s m args below meth c H locs 0 0 (MQ below (QB post (fun (u : Dt) (H1 : Heap) => Blk D tc Ax (shFr ax) ax u H1) (fun _ : Dt => none) Ax) args s rm_X2_see.cells rm_X2_see.slots Ax) (F0 m 49 ls []) := by
  have hx := X.1
  have hb := X.2.1
  have hown := X.2.2.2.1
  have hU := X.2.2.2.2.1.1
  intro y2 y3 y4 x w H locs ls hw hBx hBw hS hl
  unfold wp_X2_see_49 at hw
  refine lv_iconst (v := 0) hx hb dX2_see_49 (by decide) ?_
  exact t_X2_see_50 X hr hT hA0 hDw hK2 _ _ _ _ _ _ _ _ _ hw hBx hBw hS (lv_sub hl [0, 1, 2, 3, 4] rfl)
def wp_X2_see_2 (post : Dt → Prop)   : Nat → Int32 → Int32 → Dt → Dt → Prop
  | 0, _, _, _, _ => False
  | n9 + 1, y2, y3, x, w => ((w 7 0) ≤ y3 → wp_X2_see_108 post   x w) ∧ (¬ (w 7 0) ≤ y3 → (12 ≤ y3 → wp_X2_see_108 post   x w) ∧ (¬ 12 ≤ y3 → vp_in y3 12 ∧ (((w 13 y3.toNatClampNeg) = 0 → wp_X2_see_49 post  (fun a0 a1 x w => wp_X2_see_2 post   n9 a0 a1 x w) y2 y3 (w 9 y3.toNatClampNeg) x w) ∧ (¬ (w 13 y3.toNatClampNeg) = 0 → wp_X8_distance (fun r14 => (900 < r14 → wp_X2_see_49 post  (fun a0 a1 x w => wp_X2_see_2 post   n9 a0 a1 x w) y2 y3 (w 9 y3.toNatClampNeg) x w) ∧ (¬ 900 < r14 → wp_X2_see_50 post  (fun a0 a1 x w => wp_X2_see_2 post   n9 a0 a1 x w) y2 y3 (w 9 y3.toNatClampNeg) 1 x w)) (w 9 y3.toNatClampNeg) y2))))
set_option maxHeartbeats 4000000 in
set_option maxRecDepth 100000 in
theorem t_X2_see_2 {p : Program} {l : Launch} {e : Env} {s : State} {m : MethodId} {args : Array Value} {below : List Frame} {meth : Method} {c : Code} {D : va_G} {tc : Nat → ClassId} {h0 : Nat} {sa : Nat → Nat}  {ax : Nat → Nat} {Ax : Nat → Prop} {ad : Nat → Nat} {A : Nat → Prop} {post : Dt → Prop}  (X : Cx p c s m meth cX2_see 6 RX2 D tc) (hr : meth.sig.returnType = (Option.none : Option FieldType)) (hT : ST h0 sa s s.heap) (hA0 : ∀ q, Ax q → h0 ≤ q) (hDw : ∀ q, Ax q → ¬ A q)   : ∀ (n9 : Nat) (y2 : Int32) (y3 : Int32) (x : Dt) (w : Dt) (H : Heap) (locs : List Loc) (ls : Array Slot), wp_X2_see_2 post   n9 y2 y3 x w → (Blk D tc Ax (shFr ax) ax x H) → (Blk D tc A (shW ad) ad w H) → va_S Ax s.heap H locs → lv_has ls 6 [(0, .ref (ax 0)), (1, .ref (ad 7)), (2, .int y2), (3, .int y3)] → W p l e rm_X2_see s m args below meth c H locs 0 0 (MQ below (QB post (fun (u : Dt) (H1 : Heap) => Blk D tc Ax (shFr ax) ax u H1) (fun _ : Dt => none) Ax) args s rm_X2_see.cells rm_X2_see.slots Ax) (F0 m 2 ls []) := by
  have hx := X.1
  have hb := X.2.1
  have hown := X.2.2.2.1
  have hU := X.2.2.2.2.1.1
  intro n9
  induction n9 with
  | zero =>
    intro y2 y3 x w H locs ls hw
    exact hw.elim
  | succ n9 ih =>
    intro y2 y3 x w H locs ls hw hBx hBw hS hl
    unfold wp_X2_see_2 at hw
    refine lv_iload_n hx hb dX2_see_2 rfl (lv_at hl 3 rfl) ?_
    refine lv_aload_n hx hb dX2_see_3 rfl (lv_at hl 1 rfl) ?_
    refine g_get X dX2_see_4 f_X2_23 hBw 7 (v := .int (w 7 0)) rfl rfl ?_
    refine lv_icmp_ge (tgt := 108) hx hb dX2_see_7 (by decide) (fun c1 => ?_) (fun c1 => ?_)
    · have hw := hw.1 c1
      exact t_X2_see_108 X hr hT hA0 hDw  _ _ _ _ _ hw hBx hBw hS (lv_sub hl [] rfl)
    · have hw := hw.2 c1
      refine lv_iload_n hx hb dX2_see_10 rfl (lv_at hl 3 rfl) ?_
      refine lv_bipush (v := 12) hx hb dX2_see_11 (by decide) ?_
      refine lv_icmp_ge (tgt := 108) hx hb dX2_see_13 (by decide) (fun c2 => ?_) (fun c2 => ?_)
      · have hw := hw.1 c2
        exact t_X2_see_108 X hr hT hA0 hDw  _ _ _ _ _ hw hBx hBw hS (lv_sub hl [] rfl)
      · have hw := hw.2 c2
        refine lv_aload_n hx hb dX2_see_16 rfl (lv_at hl 1 rfl) ?_
        refine g_get X dX2_see_17 f_X2_28 hBw 7 (v := .ref (ad 9)) rfl rfl ?_
        refine lv_iload_n hx hb dX2_see_20 rfl (lv_at hl 3 rfl) ?_
        obtain ⟨o3, hw⟩ := hw
        refine g_iald X dX2_see_21 hBw 9 rfl o3 rfl ?_
        refine lv_istore (lv' := [(4, .int (w 9 y3.toNatClampNeg)), (0, .ref (ax 0)), (1, .ref (ad 7)), (2, .int y2), (3, .int y3)]) hx hb dX2_see_22 hl (by decide) rfl (fun ls hl => ?_)
        refine lv_aload_n hx hb dX2_see_24 rfl (lv_at hl 2 rfl) ?_
        refine g_get X dX2_see_25 f_X2_31 hBw 7 (v := .ref (ad 13)) rfl rfl ?_
        refine lv_iload_n hx hb dX2_see_28 rfl (lv_at hl 4 rfl) ?_
        refine g_zald X dX2_see_29 hBw 13 rfl o3 rfl ?_
        refine lv_if_eq (tgt := 49) hx hb dX2_see_30 (by decide) (fun c4 => ?_) (fun c4 => ?_)
        · have hw := hw.1 c4
          exact t_X2_see_49 X hr hT hA0 hDw ih _ _ _ _ _ _ _ _ hw hBx hBw hS (lv_sub hl [1, 2, 3, 4, 0] rfl)
        · have hw := hw.2 c4
          refine lv_iload hx hb dX2_see_33 (lv_at hl 0 rfl) ?_
          refine lv_iload_n hx hb dX2_see_35 rfl (lv_at hl 3 rfl) ?_
          refine g_after (st0 := .int y2 :: .int (w 9 y3.toNatClampNeg) :: []) (rest := []) (g_SN X m_X2_35 (c_X8_distance l D tc h0 sa (w 9 y3.toNatClampNeg) y2 _  hw) hT hS hA0 dX2_see_36 hl.1 rfl rfl ⟨Nat.le_of_ble_eq_true rfl, Nat.le_of_ble_eq_true rfl⟩ (Nat.le_of_ble_eq_true rfl) ⟨Nat.le_of_ble_eq_true rfl, Nat.le_of_ble_eq_true rfl⟩) hS (fun _ h => h.elim) (fun u => .int u :: []) (fun _ => rfl) (fun u H9 locs hw hP9 hz9 hk9 hS => ?_)
          have e9 : H9 = _ := hP9
          rw [e9] at hS ⊢
          obtain ⟨r14, rfl⟩ : ∃ z, z = u := ⟨_, rfl⟩
          try dsimp only at hw
          refine lv_sipush (v := 900) hx hb dX2_see_39 (by decide) ?_
          refine lv_icmp_gt (tgt := 49) hx hb dX2_see_42 (by decide) (fun c15 => ?_) (fun c15 => ?_)
          · have hw := hw.1 c15
            exact t_X2_see_49 X hr hT hA0 hDw ih _ _ _ _ _ _ _ _ hw hBx hBw hS (lv_sub hl [1, 2, 3, 4, 0] rfl)
          · have hw := hw.2 c15
            refine lv_iconst (v := 1) hx hb dX2_see_45 (by decide) ?_
            refine lv_goto (tgt := 50) hx hb dX2_see_46 (by decide) ?_
            exact t_X2_see_50 X hr hT hA0 hDw ih _ _ _ _ _ _ _ _ _ hw hBx hBw hS (lv_sub hl [1, 2, 3, 4, 0] rfl)
def wp_X2_see (post : Dt → Prop) (x : Dt) (w : Dt) (x2 : Int32) : Prop := ∃ k9 : Nat, wp_X2_see_2 post   k9 x2 0 x w
set_option maxHeartbeats 4000000 in
set_option maxRecDepth 100000 in
theorem c_X2_see (l : Launch) (D : va_G) (tc : Nat → ClassId) (h0 : Nat) (sa : Nat → Nat) (x2 : Int32) (H0 : Heap) {ax : Nat → Nat} {Ax : Nat → Prop} {ad : Nat → Nat} {A : Nat → Prop} {x : Dt} {w : Dt} (hBx : Blk D tc Ax (shFr ax) ax x H0) (hBw : Blk D tc A (shW ad) ad w H0) (hDw : ∀ q, Ax q → ¬ A q) (hA0 : ∀ q, Ax q → h0 ≤ q) {post : Dt → Prop} (hw : wp_X2_see post x w x2) : MB l yX2_see cX2_see 6 (Option.none : Option FieldType) rm_X2_see Ax [.ref (ax 0), .ref (ad 7), .int x2] D tc h0 sa H0 post (fun (u : Dt) (H1 : Heap) => Blk D tc Ax (shFr ax) ax u H1) (fun _ : Dt => none) := by
  refine MB.of RX2 [(0, .ref (ax 0)), (1, .ref (ad 7)), (2, .int x2)] (by decide +kernel) rfl (Nat.le_of_ble_eq_true rfl) rfl ?_
  intro p e s m below meth c ls X hr hin hT hH hS hl
  subst hH
  have hx := X.1
  have hb := X.2.1
  have hown := X.2.2.2.1
  have hU := X.2.2.2.2.1.1
  unfold wp_X2_see at hw
  refine lv_iconst (v := 0) hx hb dX2_see_0 (by decide) ?_
  refine lv_istore_n (lv' := [(3, .int 0), (0, .ref (ax 0)), (1, .ref (ad 7)), (2, .int x2)]) hx hb dX2_see_1 rfl hl (by decide) rfl (fun ls hl => ?_)
  obtain ⟨k9, hw⟩ := hw
  exact t_X2_see_2 X hr hT hA0 hDw  k9 _ _ _ _ _ _ _ hw hBx hBw hS (lv_sub hl [1, 2, 3, 0] rfl)
abbrev rm_X2_placeOf : Room := { frames := 0, cells := 0, slots := 0, locals := 0 }
def wp_X2_placeOf_39 (post : Int32 → Prop)   (x : Dt) : Prop := post (-1)
set_option maxHeartbeats 4000000 in
set_option maxRecDepth 100000 in
theorem t_X2_placeOf_39 {p : Program} {l : Launch} {e : Env} {s : State} {m : MethodId} {args : Array Value} {below : List Frame} {meth : Method} {c : Code} {D : va_G} {tc : Nat → ClassId} {h0 : Nat} {sa : Nat → Nat}  {ax : Nat → Nat} {Ax : Nat → Prop} {post : Int32 → Prop}  (X : Cx p c s m meth cX2_placeOf 3 RX2 D tc) (hr : meth.sig.returnType = (Option.some FieldType.int)) (hT : ST h0 sa s s.heap) (hA0 : ∀ q, (fun _ => False) q → h0 ≤ q)    : ∀ (x : Dt) (locs : List Loc) (ls : Array Slot), wp_X2_placeOf_39 post   x → (Blk D tc Ax (shFr ax) ax x s.heap) → va_S (fun _ => False) s.heap s.heap locs → lv_has ls 3 [] → W p l e rm_X2_placeOf s m args below meth c s.heap locs 0 0 (MQ below (QB post (fun (_ : Int32) (H1 : Heap) => H1 = s.heap) (fun u : Int32 => some (.int u)) (fun _ => False)) args s rm_X2_placeOf.cells rm_X2_placeOf.slots (fun _ => False)) (F0 m 39 ls []) := by
  have hx := X.1
  have hb := X.2.1
  have hown := X.2.2.2.1
  have hU := X.2.2.2.2.1.1
  intro x  locs ls hw hBx hS hl
  unfold wp_X2_placeOf_39 at hw
  refine lv_iconst (v := (-1)) hx hb dX2_placeOf_39 (by decide) ?_
  exact e_i X hr dX2_placeOf_40 hS ((-1)) rfl hw rfl ⟨Nat.le_of_ble_eq_true rfl, Nat.le_of_ble_eq_true rfl⟩
def wp_X2_placeOf_2 (post : Int32 → Prop)   : Nat → Int32 → Int32 → Dt → Prop
  | 0, _, _, _ => False
  | n9 + 1, y1, y2, x => ((x 0 1) ≤ y2 → wp_X2_placeOf_39 post   x) ∧ (¬ (x 0 1) ≤ y2 → (12 ≤ y2 → wp_X2_placeOf_39 post   x) ∧ (¬ 12 ≤ y2 → vp_in y2 12 ∧ ((¬ (x 1 y2.toNatClampNeg) = y1 → wp_X2_placeOf_2 post   n9 y1 (y2 + 1) x) ∧ ((x 1 y2.toNatClampNeg) = y1 → post (x 2 y2.toNatClampNeg)))))
set_option maxHeartbeats 4000000 in
set_option maxRecDepth 100000 in
theorem t_X2_placeOf_2 {p : Program} {l : Launch} {e : Env} {s : State} {m : MethodId} {args : Array Value} {below : List Frame} {meth : Method} {c : Code} {D : va_G} {tc : Nat → ClassId} {h0 : Nat} {sa : Nat → Nat}  {ax : Nat → Nat} {Ax : Nat → Prop} {post : Int32 → Prop}  (X : Cx p c s m meth cX2_placeOf 3 RX2 D tc) (hr : meth.sig.returnType = (Option.some FieldType.int)) (hT : ST h0 sa s s.heap) (hA0 : ∀ q, (fun _ => False) q → h0 ≤ q)    : ∀ (n9 : Nat) (y1 : Int32) (y2 : Int32) (x : Dt) (locs : List Loc) (ls : Array Slot), wp_X2_placeOf_2 post   n9 y1 y2 x → (Blk D tc Ax (shFr ax) ax x s.heap) → va_S (fun _ => False) s.heap s.heap locs → lv_has ls 3 [(0, .ref (ax 0)), (1, .int y1), (2, .int y2)] → W p l e rm_X2_placeOf s m args below meth c s.heap locs 0 0 (MQ below (QB post (fun (_ : Int32) (H1 : Heap) => H1 = s.heap) (fun u : Int32 => some (.int u)) (fun _ => False)) args s rm_X2_placeOf.cells rm_X2_placeOf.slots (fun _ => False)) (F0 m 2 ls []) := by
  have hx := X.1
  have hb := X.2.1
  have hown := X.2.2.2.1
  have hU := X.2.2.2.2.1.1
  intro n9
  induction n9 with
  | zero =>
    intro y1 y2 x  locs ls hw
    exact hw.elim
  | succ n9 ih =>
    intro y1 y2 x  locs ls hw hBx hS hl
    unfold wp_X2_placeOf_2 at hw
    refine lv_iload_n hx hb dX2_placeOf_2 rfl (lv_at hl 2 rfl) ?_
    refine lv_aload_n hx hb dX2_placeOf_3 rfl (lv_at hl 0 rfl) ?_
    refine g_get X dX2_placeOf_4 f_X2_39 hBx 0 (v := .int (x 0 1)) rfl rfl ?_
    refine lv_icmp_ge (tgt := 39) hx hb dX2_placeOf_7 (by decide) (fun c1 => ?_) (fun c1 => ?_)
    · have hw := hw.1 c1
      exact t_X2_placeOf_39 X hr hT hA0   _ _ _ hw hBx hS (lv_sub hl [] rfl)
    · have hw := hw.2 c1
      refine lv_iload_n hx hb dX2_placeOf_10 rfl (lv_at hl 2 rfl) ?_
      refine lv_bipush (v := 12) hx hb dX2_placeOf_11 (by decide) ?_
      refine lv_icmp_ge (tgt := 39) hx hb dX2_placeOf_13 (by decide) (fun c2 => ?_) (fun c2 => ?_)
      · have hw := hw.1 c2
        exact t_X2_placeOf_39 X hr hT hA0   _ _ _ hw hBx hS (lv_sub hl [] rfl)
      · have hw := hw.2 c2
        refine lv_aload_n hx hb dX2_placeOf_16 rfl (lv_at hl 0 rfl) ?_
        refine g_get X dX2_placeOf_17 f_X2_9 hBx 0 (v := .ref (ax 1)) rfl rfl ?_
        refine lv_iload_n hx hb dX2_placeOf_20 rfl (lv_at hl 2 rfl) ?_
        obtain ⟨o3, hw⟩ := hw
        refine g_cald X dX2_placeOf_21 hBx 1 rfl o3 rfl ?_
        refine lv_iload_n hx hb dX2_placeOf_22 rfl (lv_at hl 1 rfl) ?_
        refine lv_icmp_ne (tgt := 33) hx hb dX2_placeOf_23 (by decide) (fun c4 => ?_) (fun c4 => ?_)
        · have hw := hw.1 c4
          refine lv_iinc (lv' := [(2, .int (y2 + 1)), (0, .ref (ax 0)), (1, .int y1)]) hx hb dX2_placeOf_33 hl (k := 2) rfl (by rfl) (by decide) rfl (fun ls hl => ?_)
          refine lv_goto (tgt := 2) hx hb dX2_placeOf_36 (by decide) ?_
          exact ih _ _ _ _ _ hw hBx hS (lv_sub hl [1, 2, 0] rfl)
        · have hw := hw.2 c4
          refine lv_aload_n hx hb dX2_placeOf_26 rfl (lv_at hl 0 rfl) ?_
          refine g_get X dX2_placeOf_27 f_X2_15 hBx 0 (v := .ref (ax 2)) rfl rfl ?_
          refine lv_iload_n hx hb dX2_placeOf_30 rfl (lv_at hl 2 rfl) ?_
          refine g_iald X dX2_placeOf_31 hBx 2 rfl o3 rfl ?_
          exact e_i X hr dX2_placeOf_32 hS ((x 2 y2.toNatClampNeg)) rfl hw rfl ⟨Nat.le_of_ble_eq_true rfl, Nat.le_of_ble_eq_true rfl⟩
def wp_X2_placeOf (post : Int32 → Prop) (x : Dt) (x1 : Int32) : Prop := ∃ k9 : Nat, wp_X2_placeOf_2 post   k9 x1 0 x
set_option maxHeartbeats 4000000 in
set_option maxRecDepth 100000 in
theorem c_X2_placeOf (l : Launch) (D : va_G) (tc : Nat → ClassId) (h0 : Nat) (sa : Nat → Nat) (x1 : Int32) (H0 : Heap) {ax : Nat → Nat} {Ax : Nat → Prop} {x : Dt} (hBx : Blk D tc Ax (shFr ax) ax x H0)  {post : Int32 → Prop} (hw : wp_X2_placeOf post x x1) : MB l yX2_placeOf cX2_placeOf 3 (Option.some FieldType.int) rm_X2_placeOf (fun _ => False) [.ref (ax 0), .int x1] D tc h0 sa H0 post (fun (_ : Int32) (H1 : Heap) => H1 = H0) (fun u : Int32 => some (.int u)) := by
  have hA0 : ∀ q : Nat, (fun _ : Nat => False) q → h0 ≤ q := fun _ h => h.elim
  refine MB.of RX2 [(0, .ref (ax 0)), (1, .int x1)] (by decide +kernel) rfl (Nat.le_of_ble_eq_true rfl) rfl ?_
  intro p e s m below meth c ls X hr hin hT hH hS hl
  subst hH
  have hx := X.1
  have hb := X.2.1
  have hown := X.2.2.2.1
  have hU := X.2.2.2.2.1.1
  unfold wp_X2_placeOf at hw
  refine lv_iconst (v := 0) hx hb dX2_placeOf_0 (by decide) ?_
  refine lv_istore_n (lv' := [(2, .int 0), (0, .ref (ax 0)), (1, .int x1)]) hx hb dX2_placeOf_1 rfl hl (by decide) rfl (fun ls hl => ?_)
  obtain ⟨k9, hw⟩ := hw
  exact t_X2_placeOf_2 X hr hT hA0   k9 _ _ _ _ _ hw hBx hS (lv_sub hl [1, 2, 0] rfl)
