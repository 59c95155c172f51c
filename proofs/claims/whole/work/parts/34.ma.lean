/-! THE MODEL: small methods -/
abbrev rm_X13_in : Room := { frames := 0, cells := 0, slots := 0, locals := 0 }
def wp_X13_in_18 (post : Int32 → Prop) (tS : Nat → Nat) (nS : Nat → Nat) (rS : Nat → Nat → Nat) (wS : Dt)  (z0 : Int32) : Prop := narrow .boolean (.int z0) = .int z0 ∧ (post z0)
set_option maxHeartbeats 4000000 in
set_option maxRecDepth 100000 in
theorem t_X13_in_18 : ∀ {p : Program} {l : Launch} {e : Env} {s : State} {m : MethodId} {args : Array Value} {below : List Frame} {meth : Method} {c : Code} {D : va_G} {tc : Nat → ClassId} {h0 : Nat} {sa : Nat → Nat} {A : Nat → Prop} {post : Int32 → Prop} {tS : Nat → Nat} {nS : Nat → Nat} {rS : Nat → Nat → Nat} {wS : Dt}  (X : Cx p c s m meth cX13_in 6 RX13 D tc) (hr : meth.sig.returnType = (Option.some FieldType.boolean)) (hT : ST h0 sa s s.heap) (hA0 : ∀ q, (fun _ : Nat => False) q → h0 ≤ q) , ∀ (z0 : Int32) (locs : List Loc) (ls : Array Slot), wp_X13_in_18 post tS nS rS wS  z0 → SB D tc (sa 3) A tS nS rS wS s.heap → va_S (fun _ => False) s.heap s.heap locs → lv_has ls 6 [] → W p l e rm_X13_in s m args below meth c s.heap locs 0 0 (MQ below (QB post (fun (_ : Int32) (H1 : Heap) => H1 = s.heap) (fun u : Int32 => some (.int u)) (fun _ : Nat => False)) args s rm_X13_in.cells rm_X13_in.slots (fun _ : Nat => False)) (F0 m 18 ls [.int z0]) := by
  intro p l e s m args below meth c D tc h0 sa A post tS nS rS wS  X hr hT hA0   z0 locs ls hw hB  hS hl
  have hx := X.1
  have hb := X.2.1
  have hown := X.2.2.2.1
  have hU := X.2.2.2.2.1.1
  unfold wp_X13_in_18 at hw
  obtain ⟨o2, hw⟩ := hw
  exact e_z X hr o2 dX13_in_18 hS (z0) rfl hw rfl ⟨Nat.le_of_ble_eq_true rfl, Nat.le_of_ble_eq_true rfl⟩
def wp_X13_in_17 (post : Int32 → Prop) (tS : Nat → Nat) (nS : Nat → Nat) (rS : Nat → Nat → Nat) (wS : Dt)   : Prop := wp_X13_in_18 post tS nS rS wS  0
set_option maxHeartbeats 4000000 in
set_option maxRecDepth 100000 in
theorem t_X13_in_17 : ∀ {p : Program} {l : Launch} {e : Env} {s : State} {m : MethodId} {args : Array Value} {below : List Frame} {meth : Method} {c : Code} {D : va_G} {tc : Nat → ClassId} {h0 : Nat} {sa : Nat → Nat} {A : Nat → Prop} {post : Int32 → Prop} {tS : Nat → Nat} {nS : Nat → Nat} {rS : Nat → Nat → Nat} {wS : Dt}  (X : Cx p c s m meth cX13_in 6 RX13 D tc) (hr : meth.sig.returnType = (Option.some FieldType.boolean)) (hT : ST h0 sa s s.heap) (hA0 : ∀ q, (fun _ : Nat => False) q → h0 ≤ q) , ∀  (locs : List Loc) (ls : Array Slot), wp_X13_in_17 post tS nS rS wS   → SB D tc (sa 3) A tS nS rS wS s.heap → va_S (fun _ => False) s.heap s.heap locs → lv_has ls 6 [] → W p l e rm_X13_in s m args below meth c s.heap locs 0 0 (MQ below (QB post (fun (_ : Int32) (H1 : Heap) => H1 = s.heap) (fun u : Int32 => some (.int u)) (fun _ : Nat => False)) args s rm_X13_in.cells rm_X13_in.slots (fun _ : Nat => False)) (F0 m 17 ls []) := by
  intro p l e s m args below meth c D tc h0 sa A post tS nS rS wS  X hr hT hA0    locs ls hw hB  hS hl
  have hx := X.1
  have hb := X.2.1
  have hown := X.2.2.2.1
  have hU := X.2.2.2.2.1.1
  unfold wp_X13_in_17 at hw
  refine lv_iconst (v := 0) hx hb dX13_in_17 (by decide) ?_
  exact t_X13_in_18 X hr hT hA0  0 _ _ hw hB  hS (lv_sub hl [] rfl)
def wp_X13_in (post : Int32 → Prop) (tS : Nat → Nat) (nS : Nat → Nat) (rS : Nat → Nat → Nat) (wS : Dt) (x1 : Int64) (x2 : Int64) (x3 : Int64) : Prop := ((lg_cmp x1 x2) < 0 → wp_X13_in_17 post tS nS rS wS  ) ∧ (¬ (lg_cmp x1 x2) < 0 → (0 < (lg_cmp x1 x3) → wp_X13_in_17 post tS nS rS wS  ) ∧ (¬ 0 < (lg_cmp x1 x3) → wp_X13_in_18 post tS nS rS wS  1))
set_option maxHeartbeats 4000000 in
set_option maxRecDepth 100000 in
theorem c_X13_in (l : Launch) (D : va_G) (tc : Nat → ClassId) (h0 : Nat) (sa : Nat → Nat) (x1 : Int64) (x2 : Int64) (x3 : Int64) {A : Nat → Prop} (H0 : Heap) {tS nS : Nat → Nat} {rS : Nat → Nat → Nat} {wS : Dt} (hB : SB D tc (sa 3) A tS nS rS wS H0)  {post : Int32 → Prop} (hw : wp_X13_in post tS nS rS wS  x1 x2 x3) : MB l yX13_in cX13_in 6 (Option.some FieldType.boolean) rm_X13_in (fun _ : Nat => False) [.long x1, .long x2, .long x3] D tc h0 sa H0 post (fun (_ : Int32) (H1 : Heap) => H1 = H0) (fun u : Int32 => some (.int u)) := by
  have hA0 : ∀ q : Nat, (fun _ : Nat => False) q → h0 ≤ q := fun _ h => h.elim
  refine MB.of RX13 [(0, .long x1), (2, .long x2), (4, .long x3)] (by decide +kernel) rfl (Nat.le_of_ble_eq_true rfl) rfl ?_
  intro p e s m below meth c ls X hr hin hT hH hS hl
  subst hH
  have hx := X.1
  have hb := X.2.1
  have hown := X.2.2.2.1
  have hU := X.2.2.2.2.1.1
  unfold wp_X13_in at hw
  refine lv_lload_n hx hb dX13_in_0 rfl (lv_at hl 0 rfl) ?_
  refine lv_lload_n hx hb dX13_in_1 rfl (lv_at hl 1 rfl) ?_
  refine W.lcmp hx hb dX13_in_2 ?_
  refine lv_if_lt (tgt := 17) hx hb dX13_in_3 (by decide) (fun c1 => ?_) (fun c1 => ?_)
  · have hw := hw.1 c1
    exact t_X13_in_17 X hr hT hA0   _ _ hw hB  hS (lv_sub hl [] rfl)
  · have hw := hw.2 c1
    refine lv_lload_n hx hb dX13_in_6 rfl (lv_at hl 0 rfl) ?_
    refine lv_lload hx hb dX13_in_7 (lv_at hl 2 rfl) ?_
    refine W.lcmp hx hb dX13_in_9 ?_
    refine lv_if_gt (tgt := 17) hx hb dX13_in_10 (by decide) (fun c3 => ?_) (fun c3 => ?_)
    · have hw := hw.1 c3
      exact t_X13_in_17 X hr hT hA0   _ _ hw hB  hS (lv_sub hl [] rfl)
    · have hw := hw.2 c3
      refine lv_iconst (v := 1) hx hb dX13_in_13 (by decide) ?_
      refine lv_goto (tgt := 18) hx hb dX13_in_14 (by decide) ?_
      exact t_X13_in_18 X hr hT hA0  1 _ _ hw hB  hS (lv_sub hl [] rfl)
abbrev rm_X13_begins : Room := { frames := 0, cells := 0, slots := 0, locals := 0 }
def wp_X13_begins (post : Dt → Prop) (tS : Nat → Nat) (nS : Nat → Nat) (rS : Nat → Nat → Nat) (wS : Dt) (x0 : Nat) : Prop := ∀ wS1 : Dt, wS1 = up2 wS x0 0 0 → (post wS1)
set_option maxHeartbeats 4000000 in
set_option maxRecDepth 100000 in
theorem c_X13_begins (l : Launch) (D : va_G) (tc : Nat → ClassId) (h0 : Nat) (sa : Nat → Nat) (x0 : Nat) {A : Nat → Prop} (H0 : Heap) {tS nS : Nat → Nat} {rS : Nat → Nat → Nat} {wS : Dt} (hB : SB D tc (sa 3) A tS nS rS wS H0) (hkx0 : tS x0 = 7) (hA0 : ∀ q, A q → h0 ≤ q) {post : Dt → Prop} (hw : wp_X13_begins post tS nS rS wS x0) : MB l yX13_begins cX13_begins 1 (Option.none : Option FieldType) rm_X13_begins A [.ref x0] D tc h0 sa H0 post (fun (u : Dt) (H1 : Heap) => SB D tc (sa 3) A tS nS rS u H1) (fun _ : Dt => none) := by
  refine MB.of RX13 [(0, .ref x0)] (by decide +kernel) rfl (Nat.le_of_ble_eq_true rfl) rfl ?_
  intro p e s m below meth c ls X hr hin hT hH hS hl
  subst hH
  have hx := X.1
  have hb := X.2.1
  have hown := X.2.2.2.1
  have hU := X.2.2.2.2.1.1
  unfold wp_X13_begins at hw
  refine lv_aload_n hx hb dX13_begins_0 rfl (lv_at hl 0 rfl) ?_
  refine lv_iconst (v := 0) hx hb dX13_begins_1 (by decide) ?_
  refine g_puti X dX13_begins_2 f_X13_1 (hB.one (k := 7) hkx0 rfl) hS 0 rfl (x := 0) rfl rfl rfl (fun H locs hb9 oq hS => ?_)
  have hB := hB.putB hkx0 rfl hb9 oq
  obtain ⟨wS1, ewS1⟩ : ∃ z : Dt, z = up2 wS x0 0 0 := ⟨_, rfl⟩
  rw [← ewS1] at hB
  have hw := hw wS1 ewS1
  exact e_v X hr dX13_begins_5 hS (wS1) rfl hw hB ⟨Nat.le_of_ble_eq_true rfl, Nat.le_of_ble_eq_true rfl⟩
abbrev rm_X13_thrown : Room := { frames := 0, cells := 0, slots := 0, locals := 0 }
def wp_X13_thrown (post : Int32 → Prop) (tS : Nat → Nat) (nS : Nat → Nat) (rS : Nat → Nat → Nat) (wS : Dt) (x0 : Nat) : Prop := post (wS x0 0)
set_option maxHeartbeats 4000000 in
set_option maxRecDepth 100000 in
theorem c_X13_thrown (l : Launch) (D : va_G) (tc : Nat → ClassId) (h0 : Nat) (sa : Nat → Nat) (x0 : Nat) {A : Nat → Prop} (H0 : Heap) {tS nS : Nat → Nat} {rS : Nat → Nat → Nat} {wS : Dt} (hB : SB D tc (sa 3) A tS nS rS wS H0) (hkx0 : tS x0 = 7) {post : Int32 → Prop} (hw : wp_X13_thrown post tS nS rS wS  x0) : MB l yX13_thrown cX13_thrown 1 (Option.some FieldType.int) rm_X13_thrown (fun _ : Nat => False) [.ref x0] D tc h0 sa H0 post (fun (_ : Int32) (H1 : Heap) => H1 = H0) (fun u : Int32 => some (.int u)) := by
  have hA0 : ∀ q : Nat, (fun _ : Nat => False) q → h0 ≤ q := fun _ h => h.elim
  refine MB.of RX13 [(0, .ref x0)] (by decide +kernel) rfl (Nat.le_of_ble_eq_true rfl) rfl ?_
  intro p e s m below meth c ls X hr hin hT hH hS hl
  subst hH
  have hx := X.1
  have hb := X.2.1
  have hown := X.2.2.2.1
  have hU := X.2.2.2.2.1.1
  unfold wp_X13_thrown at hw
  refine lv_aload_n hx hb dX13_thrown_0 rfl (lv_at hl 0 rfl) ?_
  refine g_get X dX13_thrown_1 f_X13_1 (hB.one (k := 7) hkx0 rfl) 0 (v := .int (wS x0 0)) rfl rfl ?_
  exact e_i X hr dX13_thrown_4 hS ((wS x0 0)) rfl hw rfl ⟨Nat.le_of_ble_eq_true rfl, Nat.le_of_ble_eq_true rfl⟩
abbrev rm_X13_fails : Room := { frames := 0, cells := 0, slots := 0, locals := 0 }
def wp_X13_fails_28 (post : Int32 → Dt → Prop) (tS : Nat → Nat) (nS : Nat → Nat) (rS : Nat → Nat → Nat)  (z0 : Int32) (wS : Dt) : Prop := narrow .boolean (.int z0) = .int z0 ∧ (post z0 wS)
set_option maxHeartbeats 4000000 in
set_option maxRecDepth 100000 in
theorem t_X13_fails_28 : ∀ {p : Program} {l : Launch} {e : Env} {s : State} {m : MethodId} {args : Array Value} {below : List Frame} {meth : Method} {c : Code} {D : va_G} {tc : Nat → ClassId} {h0 : Nat} {sa : Nat → Nat} {A : Nat → Prop} {post : Int32 → Dt → Prop} {tS : Nat → Nat} {nS : Nat → Nat} {rS : Nat → Nat → Nat}  (X : Cx p c s m meth cX13_fails 3 RX13 D tc) (hr : meth.sig.returnType = (Option.some FieldType.boolean)) (hT : ST h0 sa s s.heap) (hA0 : ∀ q, A q → h0 ≤ q) , ∀ (z0 : Int32) (wS : Dt) (H : Heap) (locs : List Loc) (ls : Array Slot), wp_X13_fails_28 post tS nS rS  z0 wS → SB D tc (sa 3) A tS nS rS wS H → va_S A s.heap H locs → lv_has ls 3 [] → W p l e rm_X13_fails s m args below meth c H locs 0 0 (MQ below (QB (fun u : Int32 × Dt => post u.1 u.2) (fun (u : Int32 × Dt) (H1 : Heap) => SB D tc (sa 3) A tS nS rS u.2 H1) (fun u : Int32 × Dt => some (.int u.1)) A) args s rm_X13_fails.cells rm_X13_fails.slots A) (F0 m 28 ls [.int z0]) := by
  intro p l e s m args below meth c D tc h0 sa A post tS nS rS  X hr hT hA0   z0 wS H locs ls hw hB  hS hl
  have hx := X.1
  have hb := X.2.1
  have hown := X.2.2.2.1
  have hU := X.2.2.2.2.1.1
  unfold wp_X13_fails_28 at hw
  obtain ⟨o3, hw⟩ := hw
  exact e_z X hr o3 dX13_fails_28 hS (z0, wS) rfl hw hB ⟨Nat.le_of_ble_eq_true rfl, Nat.le_of_ble_eq_true rfl⟩
def wp_X13_fails_16 (post : Int32 → Dt → Prop) (tS : Nat → Nat) (nS : Nat → Nat) (rS : Nat → Nat → Nat)  (y0 : Nat) (wS : Dt) : Prop := ((wS y0 0) ≤ 0 → wp_X13_fails_28 post tS nS rS  0 wS) ∧ (¬ (wS y0 0) ≤ 0 → wp_X13_fails_28 post tS nS rS  1 wS)
set_option maxHeartbeats 4000000 in
set_option maxRecDepth 100000 in
theorem t_X13_fails_16 : ∀ {p : Program} {l : Launch} {e : Env} {s : State} {m : MethodId} {args : Array Value} {below : List Frame} {meth : Method} {c : Code} {D : va_G} {tc : Nat → ClassId} {h0 : Nat} {sa : Nat → Nat} {A : Nat → Prop} {post : Int32 → Dt → Prop} {tS : Nat → Nat} {nS : Nat → Nat} {rS : Nat → Nat → Nat}  (X : Cx p c s m meth cX13_fails 3 RX13 D tc) (hr : meth.sig.returnType = (Option.some FieldType.boolean)) (hT : ST h0 sa s s.heap) (hA0 : ∀ q, A q → h0 ≤ q) , ∀ (y0 : Nat) (wS : Dt) (H : Heap) (locs : List Loc) (ls : Array Slot), wp_X13_fails_16 post tS nS rS  y0 wS → SB D tc (sa 3) A tS nS rS wS H → (tS y0 = 7) → va_S A s.heap H locs → lv_has ls 3 [(0, .ref y0)] → W p l e rm_X13_fails s m args below meth c H locs 0 0 (MQ below (QB (fun u : Int32 × Dt => post u.1 u.2) (fun (u : Int32 × Dt) (H1 : Heap) => SB D tc (sa 3) A tS nS rS u.2 H1) (fun u : Int32 × Dt => some (.int u.1)) A) args s rm_X13_fails.cells rm_X13_fails.slots A) (F0 m 16 ls []) := by
  intro p l e s m args below meth c D tc h0 sa A post tS nS rS  X hr hT hA0   y0 wS H locs ls hw hB hky0 hS hl
  have hx := X.1
  have hb := X.2.1
  have hown := X.2.2.2.1
  have hU := X.2.2.2.2.1.1
  unfold wp_X13_fails_16 at hw
  refine lv_aload_n hx hb dX13_fails_16 rfl (lv_at hl 0 rfl) ?_
  refine g_get X dX13_fails_17 f_X13_1 (hB.one (k := 7) hky0 rfl) 0 (v := .int (wS y0 0)) rfl rfl ?_
  refine lv_if_le (tgt := 27) hx hb dX13_fails_20 (by decide) (fun c2 => ?_) (fun c2 => ?_)
  · have hw := hw.1 c2
    refine lv_iconst (v := 0) hx hb dX13_fails_27 (by decide) ?_
    exact t_X13_fails_28 X hr hT hA0  0 wS _ _ _ hw hB  hS (lv_sub hl [] rfl)
  · have hw := hw.2 c2
    refine lv_iconst (v := 1) hx hb dX13_fails_23 (by decide) ?_
    refine lv_goto (tgt := 28) hx hb dX13_fails_24 (by decide) ?_
    exact t_X13_fails_28 X hr hT hA0  1 wS _ _ _ hw hB  hS (lv_sub hl [] rfl)
def wp_X13_fails (post : Int32 → Dt → Prop) (tS : Nat → Nat) (nS : Nat → Nat) (rS : Nat → Nat → Nat) (wS : Dt) (x0 : Nat) (x1 : Int32) (x2 : Int32) : Prop := (¬ (wS x0 0) = 0 → wp_X13_fails_16 post tS nS rS  x0 wS) ∧ ((wS x0 0) = 0 → (x1 = 0 → wp_X13_fails_16 post tS nS rS  x0 wS) ∧ (¬ x1 = 0 → ∀ wS5 : Dt, wS5 = up2 wS x0 0 x2 → (wp_X13_fails_16 post tS nS rS  x0 wS5)))
set_option maxHeartbeats 4000000 in
set_option maxRecDepth 100000 in
theorem c_X13_fails (l : Launch) (D : va_G) (tc : Nat → ClassId) (h0 : Nat) (sa : Nat → Nat) (x0 : Nat) (x1 : Int32) (x2 : Int32) {A : Nat → Prop} (H0 : Heap) {tS nS : Nat → Nat} {rS : Nat → Nat → Nat} {wS : Dt} (hB : SB D tc (sa 3) A tS nS rS wS H0) (hkx0 : tS x0 = 7) (hA0 : ∀ q, A q → h0 ≤ q) {post : Int32 → Dt → Prop} (hw : wp_X13_fails post tS nS rS wS x0 x1 x2) : MB l yX13_fails cX13_fails 3 (Option.some FieldType.boolean) rm_X13_fails A [.ref x0, .int x1, .int x2] D tc h0 sa H0 (fun u : Int32 × Dt => post u.1 u.2) (fun (u : Int32 × Dt) (H1 : Heap) => SB D tc (sa 3) A tS nS rS u.2 H1) (fun u : Int32 × Dt => some (.int u.1)) := by
  refine MB.of RX13 [(0, .ref x0), (1, .int x1), (2, .int x2)] (by decide +kernel) rfl (Nat.le_of_ble_eq_true rfl) rfl ?_
  intro p e s m below meth c ls X hr hin hT hH hS hl
  subst hH
  have hx := X.1
  have hb := X.2.1
  have hown := X.2.2.2.1
  have hU := X.2.2.2.2.1.1
  unfold wp_X13_fails at hw
  refine lv_aload_n hx hb dX13_fails_0 rfl (lv_at hl 0 rfl) ?_
  refine g_get X dX13_fails_1 f_X13_1 (hB.one (k := 7) hkx0 rfl) 0 (v := .int (wS x0 0)) rfl rfl ?_
  refine lv_if_ne (tgt := 16) hx hb dX13_fails_4 (by decide) (fun c1 => ?_) (fun c1 => ?_)
  · have hw := hw.1 c1
    exact t_X13_fails_16 X hr hT hA0  x0 wS _ _ _ hw hB hkx0 hS (lv_sub hl [0] rfl)
  · have hw := hw.2 c1
    refine lv_iload_n hx hb dX13_fails_7 rfl (lv_at hl 1 rfl) ?_
    refine lv_if_eq (tgt := 16) hx hb dX13_fails_8 (by decide) (fun c4 => ?_) (fun c4 => ?_)
    · have hw := hw.1 c4
      exact t_X13_fails_16 X hr hT hA0  x0 wS _ _ _ hw hB hkx0 hS (lv_sub hl [0] rfl)
    · have hw := hw.2 c4
      refine lv_aload_n hx hb dX13_fails_11 rfl (lv_at hl 0 rfl) ?_
      refine lv_iload_n hx hb dX13_fails_12 rfl (lv_at hl 2 rfl) ?_
      refine g_puti X dX13_fails_13 f_X13_1 (hB.one (k := 7) hkx0 rfl) hS 0 rfl (x := x2) rfl rfl rfl (fun H locs hb9 oq hS => ?_)
      have hB := hB.putB hkx0 rfl hb9 oq
      obtain ⟨wS5, ewS5⟩ : ∃ z : Dt, z = up2 wS x0 0 x2 := ⟨_, rfl⟩
      rw [← ewS5] at hB
      have hw := hw wS5 ewS5
      exact t_X13_fails_16 X hr hT hA0  x0 wS5 _ _ _ hw hB hkx0 hS (lv_sub hl [0] rfl)
abbrev rm_X13_isOf : Room := { frames := 1, cells := 0, slots := 0, locals := 25 }
def wp_X13_isOf (post : Int32 → Prop) (tS : Nat → Nat) (nS : Nat → Nat) (rS : Nat → Nat → Nat) (wS : Dt) (x1 : Nat) (x2 : Int32) : Prop := wp_X13_in (fun r1 => narrow .boolean (.int r1) = .int r1 ∧ (post r1)) tS nS rS wS x2.toInt64 0 (((nI (nS x1)) - 1).toInt64)
set_option maxHeartbeats 4000000 in
set_option maxRecDepth 100000 in
theorem c_X13_isOf (l : Launch) (D : va_G) (tc : Nat → ClassId) (h0 : Nat) (sa : Nat → Nat) (x1 : Nat) (x2 : Int32) {A : Nat → Prop} (H0 : Heap) {tS nS : Nat → Nat} {rS : Nat → Nat → Nat} {wS : Dt} (hB : SB D tc (sa 3) A tS nS rS wS H0) (hkx1 : isL (tS x1) = true) {post : Int32 → Prop} (hw : wp_X13_isOf post tS nS rS wS  x1 x2) : MB l yX13_isOf cX13_isOf 2 (Option.some FieldType.boolean) rm_X13_isOf (fun _ : Nat => False) [.ref x1, .int x2] D tc h0 sa H0 post (fun (_ : Int32) (H1 : Heap) => H1 = H0) (fun u : Int32 => some (.int u)) := by
  have hA0 : ∀ q : Nat, (fun _ : Nat => False) q → h0 ≤ q := fun _ h => h.elim
  refine MB.of RX13 [(0, .ref x1), (1, .int x2)] (by decide +kernel) rfl (Nat.le_of_ble_eq_true rfl) rfl ?_
  intro p e s m below meth c ls X hr hin hT hH hS hl
  subst hH
  have hx := X.1
  have hb := X.2.1
  have hown := X.2.2.2.1
  have hU := X.2.2.2.2.1.1
  unfold wp_X13_isOf at hw
  refine lv_iload_n hx hb dX13_isOf_0 rfl (lv_at hl 1 rfl) ?_
  refine lv_i2l (v := x2.toInt64) hx hb dX13_isOf_1 rfl ?_
  refine lv_lconst (v := 0) hx hb dX13_isOf_2 (by decide) ?_
  refine lv_aload_n hx hb dX13_isOf_3 rfl (lv_at hl 0 rfl) ?_
  obtain ⟨fs9, hat9⟩ := hB.lat hkx1
  refine g_after5 (st0 := [.ref x1, .long 0, .long x2.toInt64]) (rest := [.long 0, .long x2.toInt64]) (g_F X mf_X13_7 (c_size l D tc h0 sa _ x1 hB hkx1) rfl hat9 hT hS hA0 dX13_isOf_4 hl.1 rfl rfl ⟨Nat.le_of_ble_eq_true rfl, Nat.le_of_ble_eq_true rfl⟩ (Nat.le_of_ble_eq_true rfl) ⟨Nat.le_of_ble_eq_true rfl, Nat.le_of_ble_eq_true rfl⟩) hS (fun _ h => h.elim) (fun u => .int (nI (nS x1)) :: [.long 0, .long x2.toInt64]) (fun _ => rfl) (fun u H9 locs hu hP9 hz9 hk9 hS => ?_)
  have e9 : H9 = _ := hP9
  rw [e9] at hS ⊢
  refine lv_iconst (v := 1) hx hb dX13_isOf_9 (by decide) ?_
  refine lv_isub hx hb dX13_isOf_10 ?_
  refine lv_i2l (v := ((nI (nS x1)) - 1).toInt64) hx hb dX13_isOf_11 rfl ?_
  refine g_after (st0 := [.long (((nI (nS x1)) - 1).toInt64), .long 0, .long x2.toInt64]) (rest := []) (g_S X m_X13_13 (c_X13_in l D tc h0 sa x2.toInt64 0 (((nI (nS x1)) - 1).toInt64) _ hB  hw) hT hS hA0 dX13_isOf_12 hl.1 rfl rfl ⟨Nat.le_of_ble_eq_true rfl, Nat.le_of_ble_eq_true rfl⟩ (Nat.le_of_ble_eq_true rfl) ⟨Nat.le_of_ble_eq_true rfl, Nat.le_of_ble_eq_true rfl⟩) hS (fun _ h => h.elim) (fun u => .int u :: []) (fun _ => rfl) (fun u H9 locs hw hP9 hz9 hk9 hS => ?_)
  obtain ⟨r1, rfl⟩ : ∃ z, z = u := ⟨_, rfl⟩
  try dsimp only at hw hP9
  have e9 : H9 = _ := hP9
  rw [e9] at hS ⊢
  obtain ⟨o2, hw⟩ := hw
  exact e_z X hr o2 dX13_isOf_15 hS (r1) rfl hw rfl ⟨Nat.le_of_ble_eq_true rfl, Nat.le_of_ble_eq_true rfl⟩
abbrev rm_X13_holdsEach : Room := { frames := 0, cells := 0, slots := 0, locals := 0 }
def wp_X13_holdsEach_21 (post : Int32 → Prop) (tS : Nat → Nat) (nS : Nat → Nat) (rS : Nat → Nat → Nat) (wS : Dt)  (z0 : Int32) : Prop := post z0
set_option maxHeartbeats 4000000 in
set_option maxRecDepth 100000 in
theorem t_X13_holdsEach_21 : ∀ {p : Program} {l : Launch} {e : Env} {s : State} {m : MethodId} {args : Array Value} {below : List Frame} {meth : Method} {c : Code} {D : va_G} {tc : Nat → ClassId} {h0 : Nat} {sa : Nat → Nat} {A : Nat → Prop} {post : Int32 → Prop} {tS : Nat → Nat} {nS : Nat → Nat} {rS : Nat → Nat → Nat} {wS : Dt}  (X : Cx p c s m meth cX13_holdsEach 1 RX13 D tc) (hr : meth.sig.returnType = (Option.some FieldType.int)) (hT : ST h0 sa s s.heap) (hA0 : ∀ q, (fun _ : Nat => False) q → h0 ≤ q) , ∀ (z0 : Int32) (locs : List Loc) (ls : Array Slot), wp_X13_holdsEach_21 post tS nS rS wS  z0 → SB D tc (sa 3) A tS nS rS wS s.heap → va_S (fun _ => False) s.heap s.heap locs → lv_has ls 1 [] → W p l e rm_X13_holdsEach s m args below meth c s.heap locs 0 0 (MQ below (QB post (fun (_ : Int32) (H1 : Heap) => H1 = s.heap) (fun u : Int32 => some (.int u)) (fun _ : Nat => False)) args s rm_X13_holdsEach.cells rm_X13_holdsEach.slots (fun _ : Nat => False)) (F0 m 21 ls [.int z0]) := by
  intro p l e s m args below meth c D tc h0 sa A post tS nS rS wS  X hr hT hA0   z0 locs ls hw hB  hS hl
  have hx := X.1
  have hb := X.2.1
  have hown := X.2.2.2.1
  have hU := X.2.2.2.2.1.1
  unfold wp_X13_holdsEach_21 at hw
  exact e_i X hr dX13_holdsEach_21 hS (z0) rfl hw rfl ⟨Nat.le_of_ble_eq_true rfl, Nat.le_of_ble_eq_true rfl⟩
def wp_X13_holdsEach (post : Int32 → Prop) (tS : Nat → Nat) (nS : Nat → Nat) (rS : Nat → Nat → Nat) (wS : Dt) (x1 : Int32) : Prop := (¬ x1 = 0 → (¬ x1 = 1 → wp_X13_holdsEach_21 post tS nS rS wS  90) ∧ (x1 = 1 → wp_X13_holdsEach_21 post tS nS rS wS  60)) ∧ (x1 = 0 → wp_X13_holdsEach_21 post tS nS rS wS  40)
set_option maxHeartbeats 4000000 in
set_option maxRecDepth 100000 in
theorem c_X13_holdsEach (l : Launch) (D : va_G) (tc : Nat → ClassId) (h0 : Nat) (sa : Nat → Nat) (x1 : Int32) {A : Nat → Prop} (H0 : Heap) {tS nS : Nat → Nat} {rS : Nat → Nat → Nat} {wS : Dt} (hB : SB D tc (sa 3) A tS nS rS wS H0)  {post : Int32 → Prop} (hw : wp_X13_holdsEach post tS nS rS wS  x1) : MB l yX13_holdsEach cX13_holdsEach 1 (Option.some FieldType.int) rm_X13_holdsEach (fun _ : Nat => False) [.int x1] D tc h0 sa H0 post (fun (_ : Int32) (H1 : Heap) => H1 = H0) (fun u : Int32 => some (.int u)) := by
  have hA0 : ∀ q : Nat, (fun _ : Nat => False) q → h0 ≤ q := fun _ h => h.elim
  refine MB.of RX13 [(0, .int x1)] (by decide +kernel) rfl (Nat.le_of_ble_eq_true rfl) rfl ?_
  intro p e s m below meth c ls X hr hin hT hH hS hl
  subst hH
  have hx := X.1
  have hb := X.2.1
  have hown := X.2.2.2.1
  have hU := X.2.2.2.2.1.1
  unfold wp_X13_holdsEach at hw
  refine lv_iload_n hx hb dX13_holdsEach_0 rfl (lv_at hl 0 rfl) ?_
  refine lv_if_ne (tgt := 9) hx hb dX13_holdsEach_1 (by decide) (fun c1 => ?_) (fun c1 => ?_)
  · have hw := hw.1 c1
    refine lv_iload_n hx hb dX13_holdsEach_9 rfl (lv_at hl 0 rfl) ?_
    refine lv_iconst (v := 1) hx hb dX13_holdsEach_10 (by decide) ?_
    refine lv_icmp_ne (tgt := 19) hx hb dX13_holdsEach_11 (by decide) (fun c2 => ?_) (fun c2 => ?_)
    · have hw := hw.1 c2
      refine lv_bipush (v := 90) hx hb dX13_holdsEach_19 (by decide) ?_
      exact t_X13_holdsEach_21 X hr hT hA0  90 _ _ hw hB  hS (lv_sub hl [] rfl)
    · have hw := hw.2 c2
      refine lv_bipush (v := 60) hx hb dX13_holdsEach_14 (by decide) ?_
      refine lv_goto (tgt := 21) hx hb dX13_holdsEach_16 (by decide) ?_
      exact t_X13_holdsEach_21 X hr hT hA0  60 _ _ hw hB  hS (lv_sub hl [] rfl)
  · have hw := hw.2 c1
    refine lv_bipush (v := 40) hx hb dX13_holdsEach_4 (by decide) ?_
    refine lv_goto (tgt := 21) hx hb dX13_holdsEach_6 (by decide) ?_
    exact t_X13_holdsEach_21 X hr hT hA0  40 _ _ hw hB  hS (lv_sub hl [] rfl)
abbrev rm_X13_width : Room := { frames := 4, cells := 0, slots := 0, locals := 85 }
def wp_X13_width_38 (post : Int32 → Prop) (tS : Nat → Nat) (nS : Nat → Nat) (rS : Nat → Nat → Nat) (wS : Dt)  (z0 : Int32) (z1 : Int32) : Prop := post (z1 + z0)
set_option maxHeartbeats 4000000 in
set_option maxRecDepth 100000 in
theorem t_X13_width_38 : ∀ {p : Program} {l : Launch} {e : Env} {s : State} {m : MethodId} {args : Array Value} {below : List Frame} {meth : Method} {c : Code} {D : va_G} {tc : Nat → ClassId} {h0 : Nat} {sa : Nat → Nat} {A : Nat → Prop} {post : Int32 → Prop} {tS : Nat → Nat} {nS : Nat → Nat} {rS : Nat → Nat → Nat} {wS : Dt}  (X : Cx p c s m meth cX13_width 1 RX13 D tc) (hr : meth.sig.returnType = (Option.some FieldType.int)) (hT : ST h0 sa s s.heap) (hA0 : ∀ q, (fun _ : Nat => False) q → h0 ≤ q) , ∀ (z0 : Int32) (z1 : Int32) (locs : List Loc) (ls : Array Slot), wp_X13_width_38 post tS nS rS wS  z0 z1 → SB D tc (sa 3) A tS nS rS wS s.heap → va_S (fun _ => False) s.heap s.heap locs → lv_has ls 1 [] → W p l e rm_X13_width s m args below meth c s.heap locs 0 0 (MQ below (QB post (fun (_ : Int32) (H1 : Heap) => H1 = s.heap) (fun u : Int32 => some (.int u)) (fun _ : Nat => False)) args s rm_X13_width.cells rm_X13_width.slots (fun _ : Nat => False)) (F0 m 38 ls [.int z0, .int z1]) := by
  intro p l e s m args below meth c D tc h0 sa A post tS nS rS wS  X hr hT hA0   z0 z1 locs ls hw hB  hS hl
  have hx := X.1
  have hb := X.2.1
  have hown := X.2.2.2.1
  have hU := X.2.2.2.2.1.1
  unfold wp_X13_width_38 at hw
  refine lv_iadd hx hb dX13_width_38 ?_
  exact e_i X hr dX13_width_39 hS ((z1 + z0)) rfl hw rfl ⟨Nat.le_of_ble_eq_true rfl, Nat.le_of_ble_eq_true rfl⟩
def wp_X13_width_33 (post : Int32 → Prop) (tS : Nat → Nat) (nS : Nat → Nat) (rS : Nat → Nat → Nat) (wS : Dt)  (z0 : Int32) : Prop := wp_X13_width_38 post tS nS rS wS  1 z0
set_option maxHeartbeats 4000000 in
set_option maxRecDepth 100000 in
theorem t_X13_width_33 : ∀ {p : Program} {l : Launch} {e : Env} {s : State} {m : MethodId} {args : Array Value} {below : List Frame} {meth : Method} {c : Code} {D : va_G} {tc : Nat → ClassId} {h0 : Nat} {sa : Nat → Nat} {A : Nat → Prop} {post : Int32 → Prop} {tS : Nat → Nat} {nS : Nat → Nat} {rS : Nat → Nat → Nat} {wS : Dt}  (X : Cx p c s m meth cX13_width 1 RX13 D tc) (hr : meth.sig.returnType = (Option.some FieldType.int)) (hT : ST h0 sa s s.heap) (hA0 : ∀ q, (fun _ : Nat => False) q → h0 ≤ q) , ∀ (z0 : Int32) (locs : List Loc) (ls : Array Slot), wp_X13_width_33 post tS nS rS wS  z0 → SB D tc (sa 3) A tS nS rS wS s.heap → va_S (fun _ => False) s.heap s.heap locs → lv_has ls 1 [] → W p l e rm_X13_width s m args below meth c s.heap locs 0 0 (MQ below (QB post (fun (_ : Int32) (H1 : Heap) => H1 = s.heap) (fun u : Int32 => some (.int u)) (fun _ : Nat => False)) args s rm_X13_width.cells rm_X13_width.slots (fun _ : Nat => False)) (F0 m 33 ls [.int z0]) := by
  intro p l e s m args below meth c D tc h0 sa A post tS nS rS wS  X hr hT hA0   z0 locs ls hw hB  hS hl
  have hx := X.1
  have hb := X.2.1
  have hown := X.2.2.2.1
  have hU := X.2.2.2.2.1.1
  unfold wp_X13_width_33 at hw
  refine lv_iconst (v := 1) hx hb dX13_width_33 (by decide) ?_
  refine lv_goto (tgt := 38) hx hb dX13_width_34 (by decide) ?_
  exact t_X13_width_38 X hr hT hA0  1 z0 _ _ hw hB  hS (lv_sub hl [] rfl)
def wp_X13_width_16 (post : Int32 → Prop) (tS : Nat → Nat) (nS : Nat → Nat) (rS : Nat → Nat → Nat) (wS : Dt)  (y0 : Int32) (z0 : Int32) : Prop := vp_in z0 6 ∧ ((y0 = 5 → wp_X13_width_33 post tS nS rS wS  ((ch246 z0) - 48)) ∧ (¬ y0 = 5 → (¬ y0 = 6 → wp_X13_width_38 post tS nS rS wS  0 ((ch246 z0) - 48)) ∧ (y0 = 6 → wp_X13_width_33 post tS nS rS wS  ((ch246 z0) - 48))))
set_option maxHeartbeats 4000000 in
set_option maxRecDepth 100000 in
theorem t_X13_width_16 : ∀ {p : Program} {l : Launch} {e : Env} {s : State} {m : MethodId} {args : Array Value} {below : List Frame} {meth : Method} {c : Code} {D : va_G} {tc : Nat → ClassId} {h0 : Nat} {sa : Nat → Nat} {A : Nat → Prop} {post : Int32 → Prop} {tS : Nat → Nat} {nS : Nat → Nat} {rS : Nat → Nat → Nat} {wS : Dt}  (X : Cx p c s m meth cX13_width 1 RX13 D tc) (hr : meth.sig.returnType = (Option.some FieldType.int)) (hT : ST h0 sa s s.heap) (hA0 : ∀ q, (fun _ : Nat => False) q → h0 ≤ q) , ∀ (y0 : Int32) (z0 : Int32) (locs : List Loc) (ls : Array Slot), wp_X13_width_16 post tS nS rS wS  y0 z0 → SB D tc (sa 3) A tS nS rS wS s.heap → va_S (fun _ => False) s.heap s.heap locs → lv_has ls 1 [(0, .int y0)] → W p l e rm_X13_width s m args below meth c s.heap locs 0 0 (MQ below (QB post (fun (_ : Int32) (H1 : Heap) => H1 = s.heap) (fun u : Int32 => some (.int u)) (fun _ : Nat => False)) args s rm_X13_width.cells rm_X13_width.slots (fun _ : Nat => False)) (F0 m 16 ls [.int z0, .ref (sa 10)]) := by
  intro p l e s m args below meth c D tc h0 sa A post tS nS rS wS  X hr hT hA0   y0 z0 locs ls hw hB  hS hl
  have hx := X.1
  have hb := X.2.1
  have hown := X.2.2.2.1
  have hU := X.2.2.2.2.1.1
  unfold wp_X13_width_16 at hw
  obtain ⟨o2, hw⟩ := hw
  refine g_after (st0 := .int z0 :: .ref (sa 10) :: []) (rest := []) (g_V X m_X13_19 (c_cha l D tc h0 sa _ z0 o2) (strv hT hS hA0 (i := 0) (by decide)) hT hS hA0 dX13_width_16 hl.1 rfl rfl ⟨Nat.le_of_ble_eq_true rfl, Nat.le_of_ble_eq_true rfl⟩ (Nat.le_of_ble_eq_true rfl) ⟨Nat.le_of_ble_eq_true rfl, Nat.le_of_ble_eq_true rfl⟩) hS (fun _ h => h.elim) (fun u => .int (ch246 z0) :: []) (fun _ => rfl) (fun u H9 locs hu hP9 hz9 hk9 hS => ?_)
  have e9 : H9 = _ := hP9
  rw [e9] at hS ⊢
  refine lv_bipush (v := 48) hx hb dX13_width_19 (by decide) ?_
  refine lv_isub hx hb dX13_width_21 ?_
  refine lv_iload_n hx hb dX13_width_22 rfl (lv_at hl 0 rfl) ?_
  refine lv_iconst (v := 5) hx hb dX13_width_23 (by decide) ?_
  refine lv_icmp_eq (tgt := 33) hx hb dX13_width_24 (by decide) (fun c3 => ?_) (fun c3 => ?_)
  · have hw := hw.1 c3
    exact t_X13_width_33 X hr hT hA0  ((ch246 z0) - 48) _ _ hw hB  hS (lv_sub hl [] rfl)
  · have hw := hw.2 c3
    refine lv_iload_n hx hb dX13_width_27 rfl (lv_at hl 0 rfl) ?_
    refine lv_bipush (v := 6) hx hb dX13_width_28 (by decide) ?_
    refine lv_icmp_ne (tgt := 37) hx hb dX13_width_30 (by decide) (fun c4 => ?_) (fun c4 => ?_)
    · have hw := hw.1 c4
      refine lv_iconst (v := 0) hx hb dX13_width_37 (by decide) ?_
      exact t_X13_width_38 X hr hT hA0  0 ((ch246 z0) - 48) _ _ hw hB  hS (lv_sub hl [] rfl)
    · have hw := hw.2 c4
      exact t_X13_width_33 X hr hT hA0  ((ch246 z0) - 48) _ _ hw hB  hS (lv_sub hl [] rfl)
def wp_X13_width (post : Int32 → Prop) (tS : Nat → Nat) (nS : Nat → Nat) (rS : Nat → Nat → Nat) (wS : Dt) (x1 : Int32) : Prop := (6 ≤ x1 → wp_X13_width_16 post tS nS rS wS  x1 (11 - x1)) ∧ (¬ 6 ≤ x1 → wp_X13_width_16 post tS nS rS wS  x1 x1)
set_option maxHeartbeats 4000000 in
set_option maxRecDepth 100000 in
theorem c_X13_width (l : Launch) (D : va_G) (tc : Nat → ClassId) (h0 : Nat) (sa : Nat → Nat) (x1 : Int32) {A : Nat → Prop} (H0 : Heap) {tS nS : Nat → Nat} {rS : Nat → Nat → Nat} {wS : Dt} (hB : SB D tc (sa 3) A tS nS rS wS H0)  {post : Int32 → Prop} (hw : wp_X13_width post tS nS rS wS  x1) : MB l yX13_width cX13_width 1 (Option.some FieldType.int) rm_X13_width (fun _ : Nat => False) [.int x1] D tc h0 sa H0 post (fun (_ : Int32) (H1 : Heap) => H1 = H0) (fun u : Int32 => some (.int u)) := by
  have hA0 : ∀ q : Nat, (fun _ : Nat => False) q → h0 ≤ q := fun _ h => h.elim
  refine MB.of RX13 [(0, .int x1)] (by decide +kernel) rfl (Nat.le_of_ble_eq_true rfl) rfl ?_
  intro p e s m below meth c ls X hr hin hT hH hS hl
  subst hH
  have hx := X.1
  have hb := X.2.1
  have hown := X.2.2.2.1
  have hU := X.2.2.2.2.1.1
  unfold wp_X13_width at hw
  refine va_ldcS hx hb hown hT.2.2.2.2.2.2.2.2.2.2.2.2.2.1 dX13_width_0 ?_
  refine lv_iload_n hx hb dX13_width_2 rfl (lv_at hl 0 rfl) ?_
  refine lv_bipush (v := 6) hx hb dX13_width_3 (by decide) ?_
  refine lv_icmp_ge (tgt := 12) hx hb dX13_width_5 (by decide) (fun c1 => ?_) (fun c1 => ?_)
  · have hw := hw.1 c1
    refine lv_bipush (v := 11) hx hb dX13_width_12 (by decide) ?_
    refine lv_iload_n hx hb dX13_width_14 rfl (lv_at hl 0 rfl) ?_
    refine lv_isub hx hb dX13_width_15 ?_
    exact t_X13_width_16 X hr hT hA0  x1 (11 - x1) _ _ hw hB  hS (lv_sub hl [0] rfl)
  · have hw := hw.2 c1
    refine lv_iload_n hx hb dX13_width_8 rfl (lv_at hl 0 rfl) ?_
    refine lv_goto (tgt := 16) hx hb dX13_width_9 (by decide) ?_
    exact t_X13_width_16 X hr hT hA0  x1 x1 _ _ hw hB  hS (lv_sub hl [0] rfl)
abbrev rm_X13_isPlace : Room := { frames := 1, cells := 0, slots := 0, locals := 25 }
def wp_X13_isPlace (post : Int32 → Prop) (tS : Nat → Nat) (nS : Nat → Nat) (rS : Nat → Nat → Nat) (wS : Dt) (x1 : Int32) : Prop := wp_X13_in (fun r1 => narrow .boolean (.int r1) = .int r1 ∧ (post r1)) tS nS rS wS x1.toInt64 0 3599
set_option maxHeartbeats 4000000 in
set_option maxRecDepth 100000 in
theorem c_X13_isPlace (l : Launch) (D : va_G) (tc : Nat → ClassId) (h0 : Nat) (sa : Nat → Nat) (x1 : Int32) {A : Nat → Prop} (H0 : Heap) {tS nS : Nat → Nat} {rS : Nat → Nat → Nat} {wS : Dt} (hB : SB D tc (sa 3) A tS nS rS wS H0)  {post : Int32 → Prop} (hw : wp_X13_isPlace post tS nS rS wS  x1) : MB l yX13_isPlace cX13_isPlace 1 (Option.some FieldType.boolean) rm_X13_isPlace (fun _ : Nat => False) [.int x1] D tc h0 sa H0 post (fun (_ : Int32) (H1 : Heap) => H1 = H0) (fun u : Int32 => some (.int u)) := by
  have hA0 : ∀ q : Nat, (fun _ : Nat => False) q → h0 ≤ q := fun _ h => h.elim
  refine MB.of RX13 [(0, .int x1)] (by decide +kernel) rfl (Nat.le_of_ble_eq_true rfl) rfl ?_
  intro p e s m below meth c ls X hr hin hT hH hS hl
  subst hH
  have hx := X.1
  have hb := X.2.1
  have hown := X.2.2.2.1
  have hU := X.2.2.2.2.1.1
  unfold wp_X13_isPlace at hw
  refine lv_iload_n hx hb dX13_isPlace_0 rfl (lv_at hl 0 rfl) ?_
  refine lv_i2l (v := x1.toInt64) hx hb dX13_isPlace_1 rfl ?_
  refine lv_lconst (v := 0) hx hb dX13_isPlace_2 (by decide) ?_
  refine lv_ldc2 (v := 3599) hx hb hown (hU.use w_1418) dX13_isPlace_3 ?_
  refine g_after (st0 := [.long 3599, .long 0, .long x1.toInt64]) (rest := []) (g_S X m_X13_13 (c_X13_in l D tc h0 sa x1.toInt64 0 3599 _ hB  hw) hT hS hA0 dX13_isPlace_6 hl.1 rfl rfl ⟨Nat.le_of_ble_eq_true rfl, Nat.le_of_ble_eq_true rfl⟩ (Nat.le_of_ble_eq_true rfl) ⟨Nat.le_of_ble_eq_true rfl, Nat.le_of_ble_eq_true rfl⟩) hS (fun _ h => h.elim) (fun u => .int u :: []) (fun _ => rfl) (fun u H9 locs hw hP9 hz9 hk9 hS => ?_)
  obtain ⟨r1, rfl⟩ : ∃ z, z = u := ⟨_, rfl⟩
  try dsimp only at hw hP9
  have e9 : H9 = _ := hP9
  rw [e9] at hS ⊢
  obtain ⟨o2, hw⟩ := hw
  exact e_z X hr o2 dX13_isPlace_9 hS (r1) rfl hw rfl ⟨Nat.le_of_ble_eq_true rfl, Nat.le_of_ble_eq_true rfl⟩
abbrev rm_X12_weight : Room := { frames := 0, cells := 0, slots := 0, locals := 0 }
def wp_X12_weight_4 (post : Int32 → Prop) (tS : Nat → Nat) (nS : Nat → Nat) (rS : Nat → Nat → Nat) (wS : Dt)  : Nat → (Nat) → (Int32) → (Int32) → (Int32) → Prop
  | 0, _, _, _, _ => False
  | n9 + 1, y0, y1, y2, y3 => (3 ≤ y3 → post y2) ∧ (¬ 3 ≤ y3 → vp_in y1 10 ∧ (vp_in y3 3 ∧ (∀ v8 : Int32, v8 = (y2 + ((wS (rS (rS y0 1) y1.toNatClampNeg) y3.toNatClampNeg) + (wS (rS (rS y0 2) y1.toNatClampNeg) y3.toNatClampNeg))) → (wp_X12_weight_4 post tS nS rS wS  n9 y0 y1 v8 (y3 + 1)))))
set_option maxHeartbeats 4000000 in
set_option maxRecDepth 100000 in
theorem t_X12_weight_4 : ∀ {p : Program} {l : Launch} {e : Env} {s : State} {m : MethodId} {args : Array Value} {below : List Frame} {meth : Method} {c : Code} {D : va_G} {tc : Nat → ClassId} {h0 : Nat} {sa : Nat → Nat} {A : Nat → Prop} {post : Int32 → Prop} {tS : Nat → Nat} {nS : Nat → Nat} {rS : Nat → Nat → Nat} {wS : Dt}  (X : Cx p c s m meth cX12_weight 4 RX12 D tc) (hr : meth.sig.returnType = (Option.some FieldType.int)) (hT : ST h0 sa s s.heap) (hA0 : ∀ q, (fun _ : Nat => False) q → h0 ≤ q)  (n9 : Nat), ∀ (y0 : Nat) (y1 : Int32) (y2 : Int32) (y3 : Int32) (locs : List Loc) (ls : Array Slot), wp_X12_weight_4 post tS nS rS wS  n9 y0 y1 y2 y3 → SB D tc (sa 3) A tS nS rS wS s.heap → (tS y0 = 4) → va_S (fun _ => False) s.heap s.heap locs → lv_has ls 4 [(0, .ref y0), (1, .int y1), (2, .int y2), (3, .int y3)] → W p l e rm_X12_weight s m args below meth c s.heap locs 0 0 (MQ below (QB post (fun (_ : Int32) (H1 : Heap) => H1 = s.heap) (fun u : Int32 => some (.int u)) (fun _ : Nat => False)) args s rm_X12_weight.cells rm_X12_weight.slots (fun _ : Nat => False)) (F0 m 4 ls []) := by
  intro p l e s m args below meth c D tc h0 sa A post tS nS rS wS  X hr hT hA0  n9
  have hx := X.1
  have hb := X.2.1
  have hown := X.2.2.2.1
  have hU := X.2.2.2.2.1.1
  induction n9 with
  | zero =>
    intro  y0 y1 y2 y3 locs ls hw
    exact hw.elim
  | succ n9 ih =>
    intro  y0 y1 y2 y3 locs ls hw hB hky0 hS hl
    unfold wp_X12_weight_4 at hw
    refine lv_iload_n hx hb dX12_weight_4 rfl (lv_at hl 3 rfl) ?_
    refine lv_iconst (v := 3) hx hb dX12_weight_5 (by decide) ?_
    refine lv_icmp_ge (tgt := 35) hx hb dX12_weight_6 (by decide) (fun c1 => ?_) (fun c1 => ?_)
    · have hw := hw.1 c1
      refine lv_iload_n hx hb dX12_weight_35 rfl (lv_at hl 2 rfl) ?_
      exact e_i X hr dX12_weight_36 hS (y2) rfl hw rfl ⟨Nat.le_of_ble_eq_true rfl, Nat.le_of_ble_eq_true rfl⟩
    · have hw := hw.2 c1
      refine lv_iload_n hx hb dX12_weight_9 rfl (lv_at hl 2 rfl) ?_
      refine lv_aload_n hx hb dX12_weight_10 rfl (lv_at hl 0 rfl) ?_
      refine g_get X dX12_weight_11 f_X12_17 (hB.one (k := 4) hky0 rfl) 0 (v := .ref (rS y0 1)) rfl rfl ?_
      have k2 : tS (rS y0 1) = 2 := (hB.wtk hky0).2.1
      refine lv_iload_n hx hb dX12_weight_14 rfl (lv_at hl 1 rfl) ?_
      obtain ⟨o3, hw⟩ := hw
      refine g_aaldA X dX12_weight_15 (hB.one (k := 2) k2 rfl) 0 rfl o3 (v := .ref (rS (rS y0 1) y1.toNatClampNeg)) (row_at (lt10 o3)) ?_
      have k4 : tS (rS (rS y0 1) y1.toNatClampNeg) = 23 := (hB.wtk k2) _ (lt10 o3)
      refine lv_iload_n hx hb dX12_weight_16 rfl (lv_at hl 3 rfl) ?_
      obtain ⟨o5, hw⟩ := hw
      refine g_iald X dX12_weight_17 (hB.one (k := 23) k4 rfl) 0 rfl o5 rfl ?_
      refine lv_aload_n hx hb dX12_weight_18 rfl (lv_at hl 0 rfl) ?_
      refine g_get X dX12_weight_19 f_X12_20 (hB.one (k := 4) hky0 rfl) 0 (v := .ref (rS y0 2)) rfl rfl ?_
      have k6 : tS (rS y0 2) = 2 := (hB.wtk hky0).2.2.1
      refine lv_iload_n hx hb dX12_weight_22 rfl (lv_at hl 1 rfl) ?_
      refine g_aaldA X dX12_weight_23 (hB.one (k := 2) k6 rfl) 0 rfl o3 (v := .ref (rS (rS y0 2) y1.toNatClampNeg)) (row_at (lt10 o3)) ?_
      have k7 : tS (rS (rS y0 2) y1.toNatClampNeg) = 23 := (hB.wtk k6) _ (lt10 o3)
      refine lv_iload_n hx hb dX12_weight_24 rfl (lv_at hl 3 rfl) ?_
      refine g_iald X dX12_weight_25 (hB.one (k := 23) k7 rfl) 0 rfl o5 rfl ?_
      refine lv_iadd hx hb dX12_weight_26 ?_
      refine lv_iadd hx hb dX12_weight_27 ?_
      refine lv_topi (fun v8 ev8 => ?_)
      have hw := hw v8 ev8
      refine lv_istore_n (lv' := [(2, .int v8), (0, .ref y0), (1, .int y1), (3, .int y3)]) hx hb dX12_weight_28 rfl hl (by decide) rfl (fun ls hl => ?_)
      refine lv_iinc (lv' := [(3, .int (y3 + 1)), (2, .int v8), (0, .ref y0), (1, .int y1)]) hx hb dX12_weight_29 hl (k := 3) rfl (by rfl) (by decide) rfl (fun ls hl => ?_)
      refine lv_goto (tgt := 4) hx hb dX12_weight_32 (by decide) ?_
      exact ih y0 y1 v8 (y3 + 1) _ _ hw hB hky0 hS (lv_sub hl [2, 3, 1, 0] rfl)
def wp_X12_weight (post : Int32 → Prop) (tS : Nat → Nat) (nS : Nat → Nat) (rS : Nat → Nat → Nat) (wS : Dt) (x0 : Nat) (x1 : Int32) : Prop := ∃ k9 : Nat, wp_X12_weight_4 post tS nS rS wS  k9 x0 x1 0 0
set_option maxHeartbeats 4000000 in
set_option maxRecDepth 100000 in
theorem c_X12_weight (l : Launch) (D : va_G) (tc : Nat → ClassId) (h0 : Nat) (sa : Nat → Nat) (x0 : Nat) (x1 : Int32) {A : Nat → Prop} (H0 : Heap) {tS nS : Nat → Nat} {rS : Nat → Nat → Nat} {wS : Dt} (hB : SB D tc (sa 3) A tS nS rS wS H0) (hkx0 : tS x0 = 4) {post : Int32 → Prop} (hw : wp_X12_weight post tS nS rS wS  x0 x1) : MB l yX12_weight cX12_weight 4 (Option.some FieldType.int) rm_X12_weight (fun _ : Nat => False) [.ref x0, .int x1] D tc h0 sa H0 post (fun (_ : Int32) (H1 : Heap) => H1 = H0) (fun u : Int32 => some (.int u)) := by
  have hA0 : ∀ q : Nat, (fun _ : Nat => False) q → h0 ≤ q := fun _ h => h.elim
  refine MB.of RX12 [(0, .ref x0), (1, .int x1)] (by decide +kernel) rfl (Nat.le_of_ble_eq_true rfl) rfl ?_
  intro p e s m below meth c ls X hr hin hT hH hS hl
  subst hH
  have hx := X.1
  have hb := X.2.1
  have hown := X.2.2.2.1
  have hU := X.2.2.2.2.1.1
  unfold wp_X12_weight at hw
  refine lv_iconst (v := 0) hx hb dX12_weight_0 (by decide) ?_
  refine lv_istore_n (lv' := [(2, .int 0), (0, .ref x0), (1, .int x1)]) hx hb dX12_weight_1 rfl hl (by decide) rfl (fun ls hl => ?_)
  refine lv_iconst (v := 0) hx hb dX12_weight_2 (by decide) ?_
  refine lv_istore_n (lv' := [(3, .int 0), (2, .int 0), (0, .ref x0), (1, .int x1)]) hx hb dX12_weight_3 rfl hl (by decide) rfl (fun ls hl => ?_)
  obtain ⟨k9, hw⟩ := hw
  exact t_X12_weight_4 X hr hT hA0  k9 x0 x1 0 0 _ _ hw hB hkx0 hS (lv_sub hl [2, 3, 1, 0] rfl)
abbrev rm_X12_wind : Room := { frames := 5, cells := 0, slots := 0, locals := 105 }
def wp_X12_wind (post : Int32 → Prop) (tS : Nat → Nat) (nS : Nat → Nat) (rS : Nat → Nat → Nat) (wS : Dt) (x0 : Nat) (x1 : Int32) : Prop := vp_in x1 12 ∧ (wp_X13_width (fun r3 => ¬ r3 = 0 ∧ (post ((wS (rS x0 5) x1.toNatClampNeg) / r3))) tS nS rS wS x1)
set_option maxHeartbeats 4000000 in
set_option maxRecDepth 100000 in
theorem c_X12_wind (l : Launch) (D : va_G) (tc : Nat → ClassId) (h0 : Nat) (sa : Nat → Nat) (x0 : Nat) (x1 : Int32) {A : Nat → Prop} (H0 : Heap) {tS nS : Nat → Nat} {rS : Nat → Nat → Nat} {wS : Dt} (hB : SB D tc (sa 3) A tS nS rS wS H0) (hkx0 : tS x0 = 4) {post : Int32 → Prop} (hw : wp_X12_wind post tS nS rS wS  x0 x1) : MB l yX12_wind cX12_wind 2 (Option.some FieldType.int) rm_X12_wind (fun _ : Nat => False) [.ref x0, .int x1] D tc h0 sa H0 post (fun (_ : Int32) (H1 : Heap) => H1 = H0) (fun u : Int32 => some (.int u)) := by
  have hA0 : ∀ q : Nat, (fun _ : Nat => False) q → h0 ≤ q := fun _ h => h.elim
  refine MB.of RX12 [(0, .ref x0), (1, .int x1)] (by decide +kernel) rfl (Nat.le_of_ble_eq_true rfl) rfl ?_
  intro p e s m below meth c ls X hr hin hT hH hS hl
  subst hH
  have hx := X.1
  have hb := X.2.1
  have hown := X.2.2.2.1
  have hU := X.2.2.2.2.1.1
  unfold wp_X12_wind at hw
  refine lv_aload_n hx hb dX12_wind_0 rfl (lv_at hl 0 rfl) ?_
  refine g_get X dX12_wind_1 f_X12_27 (hB.one (k := 4) hkx0 rfl) 0 (v := .ref (rS x0 5)) rfl rfl ?_
  have k1 : tS (rS x0 5) = 22 := (hB.wtk hkx0).2.2.2.1
  refine lv_iload_n hx hb dX12_wind_4 rfl (lv_at hl 1 rfl) ?_
  obtain ⟨o2, hw⟩ := hw
  refine g_iald X dX12_wind_5 (hB.one (k := 22) k1 rfl) 0 rfl o2 rfl ?_
  refine lv_iload_n hx hb dX12_wind_6 rfl (lv_at hl 1 rfl) ?_
  refine g_after (st0 := [.int x1, .int (wS (rS x0 5) x1.toNatClampNeg)]) (rest := [.int (wS (rS x0 5) x1.toNatClampNeg)]) (g_SN X m_X12_96 (c_X13_width l D tc h0 sa x1 _ hB  hw) hT hS hA0 dX12_wind_7 hl.1 rfl rfl ⟨Nat.le_of_ble_eq_true rfl, Nat.le_of_ble_eq_true rfl⟩ (Nat.le_of_ble_eq_true rfl) ⟨Nat.le_of_ble_eq_true rfl, Nat.le_of_ble_eq_true rfl⟩) hS (fun _ h => h.elim) (fun u => .int u :: [.int (wS (rS x0 5) x1.toNatClampNeg)]) (fun _ => rfl) (fun u H9 locs hw hP9 hz9 hk9 hS => ?_)
  obtain ⟨r3, rfl⟩ : ∃ z, z = u := ⟨_, rfl⟩
  try dsimp only at hw hP9
  have e9 : H9 = _ := hP9
  rw [e9] at hS ⊢
  obtain ⟨o4, hw⟩ := hw
  refine lv_idiv hx hb dX12_wind_10 o4 ?_
  exact e_i X hr dX12_wind_11 hS (((wS (rS x0 5) x1.toNatClampNeg) / r3)) rfl hw rfl ⟨Nat.le_of_ble_eq_true rfl, Nat.le_of_ble_eq_true rfl⟩
abbrev rm_X12_shear : Room := { frames := 6, cells := 0, slots := 0, locals := 126 }
def wp_X12_shear (post : Int32 → Prop) (tS : Nat → Nat) (nS : Nat → Nat) (rS : Nat → Nat → Nat) (wS : Dt) (x0 : Nat) (x1 : Int32) : Prop := wp_X12_wind (fun r1 => wp_X12_wind (fun r2 => post (if 0 ≤ (r1 - r2) then (r1 - r2) else 0 - (r1 - r2))) tS nS rS wS x0 (if (x1 + 1) < 11 then (x1 + 1) else 11)) tS nS rS wS x0 (if 0 < (x1 - 1) then (x1 - 1) else 0)
set_option maxHeartbeats 4000000 in
set_option maxRecDepth 100000 in
theorem c_X12_shear (l : Launch) (D : va_G) (tc : Nat → ClassId) (h0 : Nat) (sa : Nat → Nat) (x0 : Nat) (x1 : Int32) {A : Nat → Prop} (H0 : Heap) {tS nS : Nat → Nat} {rS : Nat → Nat → Nat} {wS : Dt} (hB : SB D tc (sa 3) A tS nS rS wS H0) (hkx0 : tS x0 = 4) {post : Int32 → Prop} (hw : wp_X12_shear post tS nS rS wS  x0 x1) : MB l yX12_shear cX12_shear 2 (Option.some FieldType.int) rm_X12_shear (fun _ : Nat => False) [.ref x0, .int x1] D tc h0 sa H0 post (fun (_ : Int32) (H1 : Heap) => H1 = H0) (fun u : Int32 => some (.int u)) := by
  have hA0 : ∀ q : Nat, (fun _ : Nat => False) q → h0 ≤ q := fun _ h => h.elim
  refine MB.of RX12 [(0, .ref x0), (1, .int x1)] (by decide +kernel) rfl (Nat.le_of_ble_eq_true rfl) rfl ?_
  intro p e s m below meth c ls X hr hin hT hH hS hl
  subst hH
  have hx := X.1
  have hb := X.2.1
  have hown := X.2.2.2.1
  have hU := X.2.2.2.2.1.1
  unfold wp_X12_shear at hw
  refine lv_aload_n hx hb dX12_shear_0 rfl (lv_at hl 0 rfl) ?_
  refine lv_iconst (v := 0) hx hb dX12_shear_1 (by decide) ?_
  refine lv_iload_n hx hb dX12_shear_2 rfl (lv_at hl 1 rfl) ?_
  refine lv_iconst (v := 1) hx hb dX12_shear_3 (by decide) ?_
  refine lv_isub hx hb dX12_shear_4 ?_
  refine g_max X hl.1 dX12_shear_5 w_1394 w_604 w_21 w_605 ⟨Nat.le_of_ble_eq_true rfl, Nat.le_of_ble_eq_true rfl, Nat.le_of_ble_eq_true rfl, Nat.le_of_ble_eq_true rfl⟩ ?_
  refine g_after (st0 := [.int (if 0 < (x1 - 1) then (x1 - 1) else 0), .ref x0]) (rest := []) (g_V X m_X12_106 (c_X12_wind l D tc h0 sa x0 (if 0 < (x1 - 1) then (x1 - 1) else 0) _ hB hkx0 hw) (recv1 X.2.2.2.2.1 rfl (hB.at (k := 4) hkx0 rfl)) hT hS hA0 dX12_shear_8 hl.1 rfl rfl ⟨Nat.le_of_ble_eq_true rfl, Nat.le_of_ble_eq_true rfl⟩ (Nat.le_of_ble_eq_true rfl) ⟨Nat.le_of_ble_eq_true rfl, Nat.le_of_ble_eq_true rfl⟩) hS (fun _ h => h.elim) (fun u => .int u :: []) (fun _ => rfl) (fun u H9 locs hw hP9 hz9 hk9 hS => ?_)
  obtain ⟨r1, rfl⟩ : ∃ z, z = u := ⟨_, rfl⟩
  try dsimp only at hw hP9
  have e9 : H9 = _ := hP9
  rw [e9] at hS ⊢
  refine lv_aload_n hx hb dX12_shear_11 rfl (lv_at hl 0 rfl) ?_
  refine lv_bipush (v := 11) hx hb dX12_shear_12 (by decide) ?_
  refine lv_iload_n hx hb dX12_shear_14 rfl (lv_at hl 1 rfl) ?_
  refine lv_iconst (v := 1) hx hb dX12_shear_15 (by decide) ?_
  refine lv_iadd hx hb dX12_shear_16 ?_
  refine g_min X hl.1 dX12_shear_17 w_1396 w_607 w_21 w_608 ⟨Nat.le_of_ble_eq_true rfl, Nat.le_of_ble_eq_true rfl, Nat.le_of_ble_eq_true rfl, Nat.le_of_ble_eq_true rfl⟩ ?_
  refine g_after (st0 := [.int (if (x1 + 1) < 11 then (x1 + 1) else 11), .ref x0, .int r1]) (rest := [.int r1]) (g_V X m_X12_106 (c_X12_wind l D tc h0 sa x0 (if (x1 + 1) < 11 then (x1 + 1) else 11) _ hB hkx0 hw) (recv1 X.2.2.2.2.1 rfl (hB.at (k := 4) hkx0 rfl)) hT hS hA0 dX12_shear_20 hl.1 rfl rfl ⟨Nat.le_of_ble_eq_true rfl, Nat.le_of_ble_eq_true rfl⟩ (Nat.le_of_ble_eq_true rfl) ⟨Nat.le_of_ble_eq_true rfl, Nat.le_of_ble_eq_true rfl⟩) hS (fun _ h => h.elim) (fun u => .int u :: [.int r1]) (fun _ => rfl) (fun u H9 locs hw hP9 hz9 hk9 hS => ?_)
  obtain ⟨r2, rfl⟩ : ∃ z, z = u := ⟨_, rfl⟩
  try dsimp only at hw hP9
  have e9 : H9 = _ := hP9
  rw [e9] at hS ⊢
  refine lv_isub hx hb dX12_shear_23 ?_
  refine g_abs X hl.1 dX12_shear_24 w_1397 w_611 w_21 w_612 ⟨Nat.le_of_ble_eq_true rfl, Nat.le_of_ble_eq_true rfl, Nat.le_of_ble_eq_true rfl, Nat.le_of_ble_eq_true rfl⟩ ?_
  exact e_i X hr dX12_shear_27 hS ((if 0 ≤ (r1 - r2) then (r1 - r2) else 0 - (r1 - r2))) rfl hw rfl ⟨Nat.le_of_ble_eq_true rfl, Nat.le_of_ble_eq_true rfl⟩
abbrev rm_X12_wins : Room := { frames := 0, cells := 0, slots := 0, locals := 0 }
def wp_X12_wins_38 (post : Int32 → Prop) (tS : Nat → Nat) (nS : Nat → Nat) (rS : Nat → Nat → Nat) (wS : Dt)  (z0 : Int32) : Prop := narrow .boolean (.int z0) = .int z0 ∧ (post z0)
set_option maxHeartbeats 4000000 in
set_option maxRecDepth 100000 in
theorem t_X12_wins_38 : ∀ {p : Program} {l : Launch} {e : Env} {s : State} {m : MethodId} {args : Array Value} {below : List Frame} {meth : Method} {c : Code} {D : va_G} {tc : Nat → ClassId} {h0 : Nat} {sa : Nat → Nat} {A : Nat → Prop} {post : Int32 → Prop} {tS : Nat → Nat} {nS : Nat → Nat} {rS : Nat → Nat → Nat} {wS : Dt}  (X : Cx p c s m meth cX12_wins 3 RX12 D tc) (hr : meth.sig.returnType = (Option.some FieldType.boolean)) (hT : ST h0 sa s s.heap) (hA0 : ∀ q, (fun _ : Nat => False) q → h0 ≤ q) , ∀ (z0 : Int32) (locs : List Loc) (ls : Array Slot), wp_X12_wins_38 post tS nS rS wS  z0 → SB D tc (sa 3) A tS nS rS wS s.heap → va_S (fun _ => False) s.heap s.heap locs → lv_has ls 3 [] → W p l e rm_X12_wins s m args below meth c s.heap locs 0 0 (MQ below (QB post (fun (_ : Int32) (H1 : Heap) => H1 = s.heap) (fun u : Int32 => some (.int u)) (fun _ : Nat => False)) args s rm_X12_wins.cells rm_X12_wins.slots (fun _ : Nat => False)) (F0 m 38 ls [.int z0]) := by
  intro p l e s m args below meth c D tc h0 sa A post tS nS rS wS  X hr hT hA0   z0 locs ls hw hB  hS hl
  have hx := X.1
  have hb := X.2.1
  have hown := X.2.2.2.1
  have hU := X.2.2.2.2.1.1
  unfold wp_X12_wins_38 at hw
  obtain ⟨o2, hw⟩ := hw
  exact e_z X hr o2 dX12_wins_38 hS (z0) rfl hw rfl ⟨Nat.le_of_ble_eq_true rfl, Nat.le_of_ble_eq_true rfl⟩
def wp_X12_wins_33 (post : Int32 → Prop) (tS : Nat → Nat) (nS : Nat → Nat) (rS : Nat → Nat → Nat) (wS : Dt)   : Prop := wp_X12_wins_38 post tS nS rS wS  1
set_option maxHeartbeats 4000000 in
set_option maxRecDepth 100000 in
theorem t_X12_wins_33 : ∀ {p : Program} {l : Launch} {e : Env} {s : State} {m : MethodId} {args : Array Value} {below : List Frame} {meth : Method} {c : Code} {D : va_G} {tc : Nat → ClassId} {h0 : Nat} {sa : Nat → Nat} {A : Nat → Prop} {post : Int32 → Prop} {tS : Nat → Nat} {nS : Nat → Nat} {rS : Nat → Nat → Nat} {wS : Dt}  (X : Cx p c s m meth cX12_wins 3 RX12 D tc) (hr : meth.sig.returnType = (Option.some FieldType.boolean)) (hT : ST h0 sa s s.heap) (hA0 : ∀ q, (fun _ : Nat => False) q → h0 ≤ q) , ∀  (locs : List Loc) (ls : Array Slot), wp_X12_wins_33 post tS nS rS wS   → SB D tc (sa 3) A tS nS rS wS s.heap → va_S (fun _ => False) s.heap s.heap locs → lv_has ls 3 [] → W p l e rm_X12_wins s m args below meth c s.heap locs 0 0 (MQ below (QB post (fun (_ : Int32) (H1 : Heap) => H1 = s.heap) (fun u : Int32 => some (.int u)) (fun _ : Nat => False)) args s rm_X12_wins.cells rm_X12_wins.slots (fun _ : Nat => False)) (F0 m 33 ls []) := by
  intro p l e s m args below meth c D tc h0 sa A post tS nS rS wS  X hr hT hA0    locs ls hw hB  hS hl
  have hx := X.1
  have hb := X.2.1
  have hown := X.2.2.2.1
  have hU := X.2.2.2.2.1.1
  unfold wp_X12_wins_33 at hw
  refine lv_iconst (v := 1) hx hb dX12_wins_33 (by decide) ?_
  refine lv_goto (tgt := 38) hx hb dX12_wins_34 (by decide) ?_
  exact t_X12_wins_38 X hr hT hA0  1 _ _ hw hB  hS (lv_sub hl [] rfl)
def wp_X12_wins_37 (post : Int32 → Prop) (tS : Nat → Nat) (nS : Nat → Nat) (rS : Nat → Nat → Nat) (wS : Dt)   : Prop := wp_X12_wins_38 post tS nS rS wS  0
set_option maxHeartbeats 4000000 in
set_option maxRecDepth 100000 in
theorem t_X12_wins_37 : ∀ {p : Program} {l : Launch} {e : Env} {s : State} {m : MethodId} {args : Array Value} {below : List Frame} {meth : Method} {c : Code} {D : va_G} {tc : Nat → ClassId} {h0 : Nat} {sa : Nat → Nat} {A : Nat → Prop} {post : Int32 → Prop} {tS : Nat → Nat} {nS : Nat → Nat} {rS : Nat → Nat → Nat} {wS : Dt}  (X : Cx p c s m meth cX12_wins 3 RX12 D tc) (hr : meth.sig.returnType = (Option.some FieldType.boolean)) (hT : ST h0 sa s s.heap) (hA0 : ∀ q, (fun _ : Nat => False) q → h0 ≤ q) , ∀  (locs : List Loc) (ls : Array Slot), wp_X12_wins_37 post tS nS rS wS   → SB D tc (sa 3) A tS nS rS wS s.heap → va_S (fun _ => False) s.heap s.heap locs → lv_has ls 3 [] → W p l e rm_X12_wins s m args below meth c s.heap locs 0 0 (MQ below (QB post (fun (_ : Int32) (H1 : Heap) => H1 = s.heap) (fun u : Int32 => some (.int u)) (fun _ : Nat => False)) args s rm_X12_wins.cells rm_X12_wins.slots (fun _ : Nat => False)) (F0 m 37 ls []) := by
  intro p l e s m args below meth c D tc h0 sa A post tS nS rS wS  X hr hT hA0    locs ls hw hB  hS hl
  have hx := X.1
  have hb := X.2.1
  have hown := X.2.2.2.1
  have hU := X.2.2.2.2.1.1
  unfold wp_X12_wins_37 at hw
  refine lv_iconst (v := 0) hx hb dX12_wins_37 (by decide) ?_
  exact t_X12_wins_38 X hr hT hA0  0 _ _ hw hB  hS (lv_sub hl [] rfl)
def wp_X12_wins (post : Int32 → Prop) (tS : Nat → Nat) (nS : Nat → Nat) (rS : Nat → Nat → Nat) (wS : Dt) (x0 : Nat) (x1 : Nat) (x2 : Nat) : Prop := ((wS x2 2) < (wS x1 2) → wp_X12_wins_33 post tS nS rS wS  ) ∧ (¬ (wS x2 2) < (wS x1 2) → (¬ (wS x1 2) = (wS x2 2) → wp_X12_wins_37 post tS nS rS wS  ) ∧ ((wS x1 2) = (wS x2 2) → ((wS x1 3) < (wS x2 3) → wp_X12_wins_37 post tS nS rS wS  ) ∧ (¬ (wS x1 3) < (wS x2 3) → wp_X12_wins_33 post tS nS rS wS  )))
set_option maxHeartbeats 4000000 in
set_option maxRecDepth 100000 in
theorem c_X12_wins (l : Launch) (D : va_G) (tc : Nat → ClassId) (h0 : Nat) (sa : Nat → Nat) (x0 : Nat) (x1 : Nat) (x2 : Nat) {A : Nat → Prop} (H0 : Heap) {tS nS : Nat → Nat} {rS : Nat → Nat → Nat} {wS : Dt} (hB : SB D tc (sa 3) A tS nS rS wS H0) (hkx0 : tS x0 = 4) (hkx1 : tS x1 = 3) (hkx2 : tS x2 = 3) {post : Int32 → Prop} (hw : wp_X12_wins post tS nS rS wS  x0 x1 x2) : MB l yX12_wins cX12_wins 3 (Option.some FieldType.boolean) rm_X12_wins (fun _ : Nat => False) [.ref x0, .ref x1, .ref x2] D tc h0 sa H0 post (fun (_ : Int32) (H1 : Heap) => H1 = H0) (fun u : Int32 => some (.int u)) := by
  have hA0 : ∀ q : Nat, (fun _ : Nat => False) q → h0 ≤ q := fun _ h => h.elim
  refine MB.of RX12 [(0, .ref x0), (1, .ref x1), (2, .ref x2)] (by decide +kernel) rfl (Nat.le_of_ble_eq_true rfl) rfl ?_
  intro p e s m below meth c ls X hr hin hT hH hS hl
  subst hH
  have hx := X.1
  have hb := X.2.1
  have hown := X.2.2.2.1
  have hU := X.2.2.2.2.1.1
  unfold wp_X12_wins at hw
  refine lv_aload_n hx hb dX12_wins_0 rfl (lv_at hl 1 rfl) ?_
  refine g_getN X dX12_wins_1 f_X12_125 (hB.one (k := 3) hkx1 rfl) 0 (v := .int (wS x1 2)) rfl rfl ?_
  refine lv_aload_n hx hb dX12_wins_4 rfl (lv_at hl 2 rfl) ?_
  refine g_getN X dX12_wins_5 f_X12_125 (hB.one (k := 3) hkx2 rfl) 0 (v := .int (wS x2 2)) rfl rfl ?_
  refine lv_icmp_gt (tgt := 33) hx hb dX12_wins_8 (by decide) (fun c1 => ?_) (fun c1 => ?_)
  · have hw := hw.1 c1
    exact t_X12_wins_33 X hr hT hA0   _ _ hw hB  hS (lv_sub hl [] rfl)
  · have hw := hw.2 c1
    refine lv_aload_n hx hb dX12_wins_11 rfl (lv_at hl 1 rfl) ?_
    refine g_getN X dX12_wins_12 f_X12_125 (hB.one (k := 3) hkx1 rfl) 0 (v := .int (wS x1 2)) rfl rfl ?_
    refine lv_aload_n hx hb dX12_wins_15 rfl (lv_at hl 2 rfl) ?_
    refine g_getN X dX12_wins_16 f_X12_125 (hB.one (k := 3) hkx2 rfl) 0 (v := .int (wS x2 2)) rfl rfl ?_
    refine lv_icmp_ne (tgt := 37) hx hb dX12_wins_19 (by decide) (fun c3 => ?_) (fun c3 => ?_)
    · have hw := hw.1 c3
      exact t_X12_wins_37 X hr hT hA0   _ _ hw hB  hS (lv_sub hl [] rfl)
    · have hw := hw.2 c3
      refine lv_aload_n hx hb dX12_wins_22 rfl (lv_at hl 1 rfl) ?_
      refine g_getN X dX12_wins_23 f_X12_127 (hB.one (k := 3) hkx1 rfl) 0 (v := .int (wS x1 3)) rfl rfl ?_
      refine lv_aload_n hx hb dX12_wins_26 rfl (lv_at hl 2 rfl) ?_
      refine g_getN X dX12_wins_27 f_X12_127 (hB.one (k := 3) hkx2 rfl) 0 (v := .int (wS x2 3)) rfl rfl ?_
      refine lv_icmp_lt (tgt := 37) hx hb dX12_wins_30 (by decide) (fun c4 => ?_) (fun c4 => ?_)
      · have hw := hw.1 c4
        exact t_X12_wins_37 X hr hT hA0   _ _ hw hB  hS (lv_sub hl [] rfl)
      · have hw := hw.2 c4
        exact t_X12_wins_33 X hr hT hA0   _ _ hw hB  hS (lv_sub hl [] rfl)
abbrev rm_X12_drags : Room := { frames := 0, cells := 0, slots := 0, locals := 0 }
def wp_X12_drags_53 (post : Dt → Prop) (tS : Nat → Nat) (nS : Nat → Nat) (rS : Nat → Nat → Nat)  (wS : Dt) : Prop := post wS
set_option maxHeartbeats 4000000 in
set_option maxRecDepth 100000 in
theorem t_X12_drags_53 : ∀ {p : Program} {l : Launch} {e : Env} {s : State} {m : MethodId} {args : Array Value} {below : List Frame} {meth : Method} {c : Code} {D : va_G} {tc : Nat → ClassId} {h0 : Nat} {sa : Nat → Nat} {A : Nat → Prop} {post : Dt → Prop} {tS : Nat → Nat} {nS : Nat → Nat} {rS : Nat → Nat → Nat}  (X : Cx p c s m meth cX12_drags 3 RX12 D tc) (hr : meth.sig.returnType = (Option.none : Option FieldType)) (hT : ST h0 sa s s.heap) (hA0 : ∀ q, A q → h0 ≤ q) , ∀ (wS : Dt) (H : Heap) (locs : List Loc) (ls : Array Slot), wp_X12_drags_53 post tS nS rS  wS → SB D tc (sa 3) A tS nS rS wS H → va_S A s.heap H locs → lv_has ls 3 [] → W p l e rm_X12_drags s m args below meth c H locs 0 0 (MQ below (QB post (fun (u : Dt) (H1 : Heap) => SB D tc (sa 3) A tS nS rS u H1) (fun _ : Dt => none) A) args s rm_X12_drags.cells rm_X12_drags.slots A) (F0 m 53 ls []) := by
  intro p l e s m args below meth c D tc h0 sa A post tS nS rS  X hr hT hA0   wS H locs ls hw hB  hS hl
  have hx := X.1
  have hb := X.2.1
  have hown := X.2.2.2.1
  have hU := X.2.2.2.2.1.1
  unfold wp_X12_drags_53 at hw
  exact e_v X hr dX12_drags_53 hS (wS) rfl hw hB ⟨Nat.le_of_ble_eq_true rfl, Nat.le_of_ble_eq_true rfl⟩
def wp_X12_drags_2 (post : Dt → Prop) (tS : Nat → Nat) (nS : Nat → Nat) (rS : Nat → Nat → Nat)  : Nat → (Nat) → (Int32) → (Dt) → Prop
  | 0, _, _, _ => False
  | n9 + 1, y0, y1, wS => (12 ≤ y1 → wp_X12_drags_53 post tS nS rS  wS) ∧ (¬ 12 ≤ y1 → ((wS y0 6) ≤ 0 → wp_X12_drags_53 post tS nS rS  wS) ∧ (¬ (wS y0 6) ≤ 0 → vp_in y1 12 ∧ (¬ (wS y0 6) = 0 ∧ (∀ v6 : Int32, v6 = ((wS (rS y0 5) y1.toNatClampNeg) / (wS y0 6)) → (∀ wS8 : Dt, wS8 = up2 wS (rS y0 5) y1.toNatClampNeg ((wS (rS y0 5) y1.toNatClampNeg) - v6) → (∀ wS9 : Dt, wS9 = up2 wS8 y0 7 ((wS8 y0 7) + v6) → (wp_X12_drags_2 post tS nS rS  n9 y0 (y1 + 1) wS9)))))))
set_option maxHeartbeats 4000000 in
set_option maxRecDepth 100000 in
theorem t_X12_drags_2 : ∀ {p : Program} {l : Launch} {e : Env} {s : State} {m : MethodId} {args : Array Value} {below : List Frame} {meth : Method} {c : Code} {D : va_G} {tc : Nat → ClassId} {h0 : Nat} {sa : Nat → Nat} {A : Nat → Prop} {post : Dt → Prop} {tS : Nat → Nat} {nS : Nat → Nat} {rS : Nat → Nat → Nat}  (X : Cx p c s m meth cX12_drags 3 RX12 D tc) (hr : meth.sig.returnType = (Option.none : Option FieldType)) (hT : ST h0 sa s s.heap) (hA0 : ∀ q, A q → h0 ≤ q)  (n9 : Nat), ∀ (y0 : Nat) (y1 : Int32) (wS : Dt) (H : Heap) (locs : List Loc) (ls : Array Slot), wp_X12_drags_2 post tS nS rS  n9 y0 y1 wS → SB D tc (sa 3) A tS nS rS wS H → (tS y0 = 4) → va_S A s.heap H locs → lv_has ls 3 [(0, .ref y0), (1, .int y1)] → W p l e rm_X12_drags s m args below meth c H locs 0 0 (MQ below (QB post (fun (u : Dt) (H1 : Heap) => SB D tc (sa 3) A tS nS rS u H1) (fun _ : Dt => none) A) args s rm_X12_drags.cells rm_X12_drags.slots A) (F0 m 2 ls []) := by
  intro p l e s m args below meth c D tc h0 sa A post tS nS rS  X hr hT hA0  n9
  have hx := X.1
  have hb := X.2.1
  have hown := X.2.2.2.1
  have hU := X.2.2.2.2.1.1
  induction n9 with
  | zero =>
    intro  y0 y1 wS H locs ls hw
    exact hw.elim
  | succ n9 ih =>
    intro  y0 y1 wS H locs ls hw hB hky0 hS hl
    unfold wp_X12_drags_2 at hw
    refine lv_iload_n hx hb dX12_drags_2 rfl (lv_at hl 1 rfl) ?_
    refine lv_bipush (v := 12) hx hb dX12_drags_3 (by decide) ?_
    refine lv_icmp_ge (tgt := 53) hx hb dX12_drags_5 (by decide) (fun c1 => ?_) (fun c1 => ?_)
    · have hw := hw.1 c1
      exact t_X12_drags_53 X hr hT hA0  wS _ _ _ hw hB  hS (lv_sub hl [] rfl)
    · have hw := hw.2 c1
      refine lv_aload_n hx hb dX12_drags_8 rfl (lv_at hl 0 rfl) ?_
      refine g_get X dX12_drags_9 f_X12_53 (hB.one (k := 4) hky0 rfl) 0 (v := .int (wS y0 6)) rfl rfl ?_
      refine lv_if_le (tgt := 53) hx hb dX12_drags_12 (by decide) (fun c2 => ?_) (fun c2 => ?_)
      · have hw := hw.1 c2
        exact t_X12_drags_53 X hr hT hA0  wS _ _ _ hw hB  hS (lv_sub hl [] rfl)
      · have hw := hw.2 c2
        refine lv_aload_n hx hb dX12_drags_15 rfl (lv_at hl 0 rfl) ?_
        refine g_get X dX12_drags_16 f_X12_27 (hB.one (k := 4) hky0 rfl) 0 (v := .ref (rS y0 5)) rfl rfl ?_
        have k3 : tS (rS y0 5) = 22 := (hB.wtk hky0).2.2.2.1
        refine lv_iload_n hx hb dX12_drags_19 rfl (lv_at hl 1 rfl) ?_
        obtain ⟨o4, hw⟩ := hw
        refine g_iald X dX12_drags_20 (hB.one (k := 22) k3 rfl) 0 rfl o4 rfl ?_
        refine lv_aload_n hx hb dX12_drags_21 rfl (lv_at hl 0 rfl) ?_
        refine g_get X dX12_drags_22 f_X12_53 (hB.one (k := 4) hky0 rfl) 0 (v := .int (wS y0 6)) rfl rfl ?_
        obtain ⟨o5, hw⟩ := hw
        refine lv_idiv hx hb dX12_drags_25 o5 ?_
        refine lv_topi (fun v6 ev6 => ?_)
        have hw := hw v6 ev6
        refine lv_istore_n (lv' := [(2, .int v6), (0, .ref y0), (1, .int y1)]) hx hb dX12_drags_26 rfl hl (by decide) rfl (fun ls hl => ?_)
        refine lv_aload_n hx hb dX12_drags_27 rfl (lv_at hl 1 rfl) ?_
        refine g_get X dX12_drags_28 f_X12_27 (hB.one (k := 4) hky0 rfl) 0 (v := .ref (rS y0 5)) rfl rfl ?_
        have k7 : tS (rS y0 5) = 22 := (hB.wtk hky0).2.2.2.1
        refine lv_iload_n hx hb dX12_drags_31 rfl (lv_at hl 2 rfl) ?_
        refine lv_dup2_11 hx hb dX12_drags_32 rfl rfl ?_
        refine g_iald X dX12_drags_33 (hB.one (k := 22) k7 rfl) 0 rfl o4 rfl ?_
        refine lv_iload_n hx hb dX12_drags_34 rfl (lv_at hl 0 rfl) ?_
        refine lv_isub hx hb dX12_drags_35 ?_
        refine g_iast X dX12_drags_36 (hB.one (k := 22) k7 rfl) hS 0 rfl o4 rfl (fun H locs hb9 oq hS => ?_)
        have hB := hB.putB k7 rfl hb9 oq
        obtain ⟨wS8, ewS8⟩ : ∃ z : Dt, z = up2 wS (rS y0 5) y1.toNatClampNeg ((wS (rS y0 5) y1.toNatClampNeg) - v6) := ⟨_, rfl⟩
        rw [← ewS8] at hB
        have hw := hw wS8 ewS8
        refine lv_aload_n hx hb dX12_drags_37 rfl (lv_at hl 1 rfl) ?_
        refine lv_dup hx hb dX12_drags_38 rfl ?_
        refine g_get X dX12_drags_39 f_X12_56 (hB.one (k := 4) hky0 rfl) 0 (v := .int (wS8 y0 7)) rfl rfl ?_
        refine lv_iload_n hx hb dX12_drags_42 rfl (lv_at hl 0 rfl) ?_
        refine lv_iadd hx hb dX12_drags_43 ?_
        refine g_puti X dX12_drags_44 f_X12_56 (hB.one (k := 4) hky0 rfl) hS 0 rfl (x := ((wS8 y0 7) + v6)) rfl rfl rfl (fun H locs hb9 oq hS => ?_)
        have hB := hB.putB hky0 rfl hb9 oq
        obtain ⟨wS9, ewS9⟩ : ∃ z : Dt, z = up2 wS8 y0 7 ((wS8 y0 7) + v6) := ⟨_, rfl⟩
        rw [← ewS9] at hB
        have hw := hw wS9 ewS9
        refine lv_iinc (lv' := [(1, .int (y1 + 1)), (2, .int v6), (0, .ref y0)]) hx hb dX12_drags_47 hl (k := 2) rfl (by rfl) (by decide) rfl (fun ls hl => ?_)
        refine lv_goto (tgt := 2) hx hb dX12_drags_50 (by decide) ?_
        exact ih y0 (y1 + 1) wS9 _ _ _ hw hB hky0 hS (lv_sub hl [2, 0] rfl)
def wp_X12_drags (post : Dt → Prop) (tS : Nat → Nat) (nS : Nat → Nat) (rS : Nat → Nat → Nat) (wS : Dt) (x0 : Nat) : Prop := ∃ k9 : Nat, wp_X12_drags_2 post tS nS rS  k9 x0 0 wS
set_option maxHeartbeats 4000000 in
set_option maxRecDepth 100000 in
theorem c_X12_drags (l : Launch) (D : va_G) (tc : Nat → ClassId) (h0 : Nat) (sa : Nat → Nat) (x0 : Nat) {A : Nat → Prop} (H0 : Heap) {tS nS : Nat → Nat} {rS : Nat → Nat → Nat} {wS : Dt} (hB : SB D tc (sa 3) A tS nS rS wS H0) (hkx0 : tS x0 = 4) (hA0 : ∀ q, A q → h0 ≤ q) {post : Dt → Prop} (hw : wp_X12_drags post tS nS rS wS x0) : MB l yX12_drags cX12_drags 3 (Option.none : Option FieldType) rm_X12_drags A [.ref x0] D tc h0 sa H0 post (fun (u : Dt) (H1 : Heap) => SB D tc (sa 3) A tS nS rS u H1) (fun _ : Dt => none) := by
  refine MB.of RX12 [(0, .ref x0)] (by decide +kernel) rfl (Nat.le_of_ble_eq_true rfl) rfl ?_
  intro p e s m below meth c ls X hr hin hT hH hS hl
  subst hH
  have hx := X.1
  have hb := X.2.1
  have hown := X.2.2.2.1
  have hU := X.2.2.2.2.1.1
  unfold wp_X12_drags at hw
  refine lv_iconst (v := 0) hx hb dX12_drags_0 (by decide) ?_
  refine lv_istore_n (lv' := [(1, .int 0), (0, .ref x0)]) hx hb dX12_drags_1 rfl hl (by decide) rfl (fun ls hl => ?_)
  obtain ⟨k9, hw⟩ := hw
  exact t_X12_drags_2 X hr hT hA0  k9 x0 0 wS _ _ _ hw hB hkx0 hS (lv_sub hl [1, 0] rfl)
