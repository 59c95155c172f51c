/-! THE MODEL: calls on the column and the belts -/
abbrev rm_X13_noLevel : Room := { frames := 1, cells := 0, slots := 0, locals := 25 }
def wp_X13_noLevel_18 (post : Int32 → Dt → Prop) (tS : Nat → Nat) (nS : Nat → Nat) (rS : Nat → Nat → Nat)  (z0 : Int32) (z1 : Nat) (wS : Dt) : Prop := wp_X13_fails (fun r3 wS4 => narrow .boolean (.int r3) = .int r3 ∧ (post r3 wS4)) tS nS rS wS z1 z0 1
set_option maxHeartbeats 4000000 in
set_option maxRecDepth 100000 in
theorem t_X13_noLevel_18 : ∀ {p : Program} {l : Launch} {e : Env} {s : State} {m : MethodId} {args : Array Value} {below : List Frame} {meth : Method} {c : Code} {D : va_G} {tc : Nat → ClassId} {h0 : Nat} {sa : Nat → Nat} {A : Nat → Prop} {post : Int32 → Dt → Prop} {tS : Nat → Nat} {nS : Nat → Nat} {rS : Nat → Nat → Nat}  (X : Cx p c s m meth cX13_noLevel 2 RX13 D tc) (hr : meth.sig.returnType = (Option.some FieldType.boolean)) (hT : ST h0 sa s s.heap) (hA0 : ∀ q, A q → h0 ≤ q) , ∀ (z0 : Int32) (z1 : Nat) (wS : Dt) (H : Heap) (locs : List Loc) (ls : Array Slot), wp_X13_noLevel_18 post tS nS rS  z0 z1 wS → SB D tc (sa 3) A tS nS rS wS H → (tS z1 = 7) → va_S A s.heap H locs → lv_has ls 2 [] → W p l e rm_X13_noLevel s m args below meth c H locs 0 0 (MQ below (QB (fun u : Int32 × Dt => post u.1 u.2) (fun (u : Int32 × Dt) (H1 : Heap) => SB D tc (sa 3) A tS nS rS u.2 H1) (fun u : Int32 × Dt => some (.int u.1)) A) args s rm_X13_noLevel.cells rm_X13_noLevel.slots A) (F0 m 18 ls [.int z0, .ref z1]) := by
  intro p l e s m args below meth c D tc h0 sa A post tS nS rS  X hr hT hA0   z0 z1 wS H locs ls hw hB hkz1 hS hl
  have hx := X.1
  have hb := X.2.1
  have hown := X.2.2.2.1
  have hU := X.2.2.2.2.1.1
  unfold wp_X13_noLevel_18 at hw
  refine lv_iconst (v := 1) hx hb dX13_noLevel_18 (by decide) ?_
  refine g_after (st0 := [.int 1, .int z0, .ref z1]) (rest := []) (g_V X m_X13_57 (c_X13_fails l D tc h0 sa z1 z0 1 _ hB hkz1 hA0 hw) (recv1 X.2.2.2.2.1 rfl (hB.at (k := 7) hkz1 rfl)) hT hS hA0 dX13_noLevel_19 hl.1 rfl rfl ⟨Nat.le_of_ble_eq_true rfl, Nat.le_of_ble_eq_true rfl⟩ (Nat.le_of_ble_eq_true rfl) ⟨Nat.le_of_ble_eq_true rfl, Nat.le_of_ble_eq_true rfl⟩) hS (fun _ h => h) (fun u => .int u.1 :: []) (fun _ => rfl) (fun u H locs hw hP9 hz9 hk9 hS => ?_)
  obtain ⟨r3, wS4⟩ := u
  try dsimp only at hw hP9
  have hB := hP9
  obtain ⟨o5, hw⟩ := hw
  exact e_z X hr o5 dX13_noLevel_22 hS (r3, wS4) rfl hw hB ⟨Nat.le_of_ble_eq_true rfl, Nat.le_of_ble_eq_true rfl⟩
def wp_X13_noLevel (post : Int32 → Dt → Prop) (tS : Nat → Nat) (nS : Nat → Nat) (rS : Nat → Nat → Nat) (wS : Dt) (x0 : Nat) (x1 : Int32) : Prop := wp_X13_in (fun r1 => (¬ r1 = 0 → wp_X13_noLevel_18 post tS nS rS  0 x0 wS) ∧ (r1 = 0 → wp_X13_noLevel_18 post tS nS rS  1 x0 wS)) tS nS rS wS x1.toInt64 0 9
set_option maxHeartbeats 4000000 in
set_option maxRecDepth 100000 in
theorem c_X13_noLevel (l : Launch) (D : va_G) (tc : Nat → ClassId) (h0 : Nat) (sa : Nat → Nat) (x0 : Nat) (x1 : Int32) {A : Nat → Prop} (H0 : Heap) {tS nS : Nat → Nat} {rS : Nat → Nat → Nat} {wS : Dt} (hB : SB D tc (sa 3) A tS nS rS wS H0) (hkx0 : tS x0 = 7) (hA0 : ∀ q, A q → h0 ≤ q) {post : Int32 → Dt → Prop} (hw : wp_X13_noLevel post tS nS rS wS x0 x1) : MB l yX13_noLevel cX13_noLevel 2 (Option.some FieldType.boolean) rm_X13_noLevel A [.ref x0, .int x1] D tc h0 sa H0 (fun u : Int32 × Dt => post u.1 u.2) (fun (u : Int32 × Dt) (H1 : Heap) => SB D tc (sa 3) A tS nS rS u.2 H1) (fun u : Int32 × Dt => some (.int u.1)) := by
  refine MB.of RX13 [(0, .ref x0), (1, .int x1)] (by decide +kernel) rfl (Nat.le_of_ble_eq_true rfl) rfl ?_
  intro p e s m below meth c ls X hr hin hT hH hS hl
  subst hH
  have hx := X.1
  have hb := X.2.1
  have hown := X.2.2.2.1
  have hU := X.2.2.2.2.1.1
  unfold wp_X13_noLevel at hw
  refine lv_aload_n hx hb dX13_noLevel_0 rfl (lv_at hl 0 rfl) ?_
  refine lv_iload_n hx hb dX13_noLevel_1 rfl (lv_at hl 1 rfl) ?_
  refine lv_i2l (v := x1.toInt64) hx hb dX13_noLevel_2 rfl ?_
  refine lv_lconst (v := 0) hx hb dX13_noLevel_3 (by decide) ?_
  refine lv_ldc2 (v := 9) hx hb hown (hU.use w_1269) dX13_noLevel_4 ?_
  refine g_after (st0 := [.long 9, .long 0, .long x1.toInt64, .ref x0]) (rest := [.ref x0]) (g_S X m_X13_13 (c_X13_in l D tc h0 sa x1.toInt64 0 9 _ hB  hw) hT hS hA0 dX13_noLevel_7 hl.1 rfl rfl ⟨Nat.le_of_ble_eq_true rfl, Nat.le_of_ble_eq_true rfl⟩ (Nat.le_of_ble_eq_true rfl) ⟨Nat.le_of_ble_eq_true rfl, Nat.le_of_ble_eq_true rfl⟩) hS (fun _ h => h.elim) (fun u => .int u :: [.ref x0]) (fun _ => rfl) (fun u H9 locs hw hP9 hz9 hk9 hS => ?_)
  obtain ⟨r1, rfl⟩ : ∃ z, z = u := ⟨_, rfl⟩
  try dsimp only at hw hP9
  have e9 : H9 = _ := hP9
  rw [e9] at hS ⊢
  refine lv_if_ne (tgt := 17) hx hb dX13_noLevel_10 (by decide) (fun c2 => ?_) (fun c2 => ?_)
  · have hw := hw.1 c2
    refine lv_iconst (v := 0) hx hb dX13_noLevel_17 (by decide) ?_
    exact t_X13_noLevel_18 X hr hT hA0  0 x0 wS _ _ _ hw hB hkx0 hS (lv_sub hl [] rfl)
  · have hw := hw.2 c2
    refine lv_iconst (v := 1) hx hb dX13_noLevel_13 (by decide) ?_
    refine lv_goto (tgt := 18) hx hb dX13_noLevel_14 (by decide) ?_
    exact t_X13_noLevel_18 X hr hT hA0  1 x0 wS _ _ _ hw hB hkx0 hS (lv_sub hl [] rfl)
abbrev rm_X13_noVapour : Room := { frames := 1, cells := 0, slots := 0, locals := 25 }
def wp_X13_noVapour_30 (post : Int32 → Dt → Prop) (tS : Nat → Nat) (nS : Nat → Nat) (rS : Nat → Nat → Nat)  (z0 : Int32) (z1 : Nat) (wS : Dt) : Prop := wp_X13_fails (fun r3 wS4 => narrow .boolean (.int r3) = .int r3 ∧ (post r3 wS4)) tS nS rS wS z1 z0 1
set_option maxHeartbeats 4000000 in
set_option maxRecDepth 100000 in
theorem t_X13_noVapour_30 : ∀ {p : Program} {l : Launch} {e : Env} {s : State} {m : MethodId} {args : Array Value} {below : List Frame} {meth : Method} {c : Code} {D : va_G} {tc : Nat → ClassId} {h0 : Nat} {sa : Nat → Nat} {A : Nat → Prop} {post : Int32 → Dt → Prop} {tS : Nat → Nat} {nS : Nat → Nat} {rS : Nat → Nat → Nat}  (X : Cx p c s m meth cX13_noVapour 3 RX13 D tc) (hr : meth.sig.returnType = (Option.some FieldType.boolean)) (hT : ST h0 sa s s.heap) (hA0 : ∀ q, A q → h0 ≤ q) , ∀ (z0 : Int32) (z1 : Nat) (wS : Dt) (H : Heap) (locs : List Loc) (ls : Array Slot), wp_X13_noVapour_30 post tS nS rS  z0 z1 wS → SB D tc (sa 3) A tS nS rS wS H → (tS z1 = 7) → va_S A s.heap H locs → lv_has ls 3 [] → W p l e rm_X13_noVapour s m args below meth c H locs 0 0 (MQ below (QB (fun u : Int32 × Dt => post u.1 u.2) (fun (u : Int32 × Dt) (H1 : Heap) => SB D tc (sa 3) A tS nS rS u.2 H1) (fun u : Int32 × Dt => some (.int u.1)) A) args s rm_X13_noVapour.cells rm_X13_noVapour.slots A) (F0 m 30 ls [.int z0, .ref z1]) := by
  intro p l e s m args below meth c D tc h0 sa A post tS nS rS  X hr hT hA0   z0 z1 wS H locs ls hw hB hkz1 hS hl
  have hx := X.1
  have hb := X.2.1
  have hown := X.2.2.2.1
  have hU := X.2.2.2.2.1.1
  unfold wp_X13_noVapour_30 at hw
  refine lv_iconst (v := 1) hx hb dX13_noVapour_30 (by decide) ?_
  refine g_after (st0 := [.int 1, .int z0, .ref z1]) (rest := []) (g_V X m_X13_57 (c_X13_fails l D tc h0 sa z1 z0 1 _ hB hkz1 hA0 hw) (recv1 X.2.2.2.2.1 rfl (hB.at (k := 7) hkz1 rfl)) hT hS hA0 dX13_noVapour_31 hl.1 rfl rfl ⟨Nat.le_of_ble_eq_true rfl, Nat.le_of_ble_eq_true rfl⟩ (Nat.le_of_ble_eq_true rfl) ⟨Nat.le_of_ble_eq_true rfl, Nat.le_of_ble_eq_true rfl⟩) hS (fun _ h => h) (fun u => .int u.1 :: []) (fun _ => rfl) (fun u H locs hw hP9 hz9 hk9 hS => ?_)
  obtain ⟨r3, wS4⟩ := u
  try dsimp only at hw hP9
  have hB := hP9
  obtain ⟨o5, hw⟩ := hw
  exact e_z X hr o5 dX13_noVapour_34 hS (r3, wS4) rfl hw hB ⟨Nat.le_of_ble_eq_true rfl, Nat.le_of_ble_eq_true rfl⟩
def wp_X13_noVapour_25 (post : Int32 → Dt → Prop) (tS : Nat → Nat) (nS : Nat → Nat) (rS : Nat → Nat → Nat)  (z0 : Nat) (wS : Dt) : Prop := wp_X13_noVapour_30 post tS nS rS  1 z0 wS
set_option maxHeartbeats 4000000 in
set_option maxRecDepth 100000 in
theorem t_X13_noVapour_25 : ∀ {p : Program} {l : Launch} {e : Env} {s : State} {m : MethodId} {args : Array Value} {below : List Frame} {meth : Method} {c : Code} {D : va_G} {tc : Nat → ClassId} {h0 : Nat} {sa : Nat → Nat} {A : Nat → Prop} {post : Int32 → Dt → Prop} {tS : Nat → Nat} {nS : Nat → Nat} {rS : Nat → Nat → Nat}  (X : Cx p c s m meth cX13_noVapour 3 RX13 D tc) (hr : meth.sig.returnType = (Option.some FieldType.boolean)) (hT : ST h0 sa s s.heap) (hA0 : ∀ q, A q → h0 ≤ q) , ∀ (z0 : Nat) (wS : Dt) (H : Heap) (locs : List Loc) (ls : Array Slot), wp_X13_noVapour_25 post tS nS rS  z0 wS → SB D tc (sa 3) A tS nS rS wS H → (tS z0 = 7) → va_S A s.heap H locs → lv_has ls 3 [] → W p l e rm_X13_noVapour s m args below meth c H locs 0 0 (MQ below (QB (fun u : Int32 × Dt => post u.1 u.2) (fun (u : Int32 × Dt) (H1 : Heap) => SB D tc (sa 3) A tS nS rS u.2 H1) (fun u : Int32 × Dt => some (.int u.1)) A) args s rm_X13_noVapour.cells rm_X13_noVapour.slots A) (F0 m 25 ls [.ref z0]) := by
  intro p l e s m args below meth c D tc h0 sa A post tS nS rS  X hr hT hA0   z0 wS H locs ls hw hB hkz0 hS hl
  have hx := X.1
  have hb := X.2.1
  have hown := X.2.2.2.1
  have hU := X.2.2.2.2.1.1
  unfold wp_X13_noVapour_25 at hw
  refine lv_iconst (v := 1) hx hb dX13_noVapour_25 (by decide) ?_
  refine lv_goto (tgt := 30) hx hb dX13_noVapour_26 (by decide) ?_
  exact t_X13_noVapour_30 X hr hT hA0  1 z0 wS _ _ _ hw hB hkz0 hS (lv_sub hl [] rfl)
def wp_X13_noVapour (post : Int32 → Dt → Prop) (tS : Nat → Nat) (nS : Nat → Nat) (rS : Nat → Nat → Nat) (wS : Dt) (x0 : Nat) (x1 : Int32) (x2 : Int32) : Prop := wp_X13_in (fun r1 => (r1 = 0 → wp_X13_noVapour_25 post tS nS rS  x0 wS) ∧ (¬ r1 = 0 → wp_X13_in (fun r6 => (¬ r6 = 0 → wp_X13_noVapour_30 post tS nS rS  0 x0 wS) ∧ (r6 = 0 → wp_X13_noVapour_25 post tS nS rS  x0 wS)) tS nS rS wS x2.toInt64 0 2)) tS nS rS wS x1.toInt64 0 9
set_option maxHeartbeats 4000000 in
set_option maxRecDepth 100000 in
theorem c_X13_noVapour (l : Launch) (D : va_G) (tc : Nat → ClassId) (h0 : Nat) (sa : Nat → Nat) (x0 : Nat) (x1 : Int32) (x2 : Int32) {A : Nat → Prop} (H0 : Heap) {tS nS : Nat → Nat} {rS : Nat → Nat → Nat} {wS : Dt} (hB : SB D tc (sa 3) A tS nS rS wS H0) (hkx0 : tS x0 = 7) (hA0 : ∀ q, A q → h0 ≤ q) {post : Int32 → Dt → Prop} (hw : wp_X13_noVapour post tS nS rS wS x0 x1 x2) : MB l yX13_noVapour cX13_noVapour 3 (Option.some FieldType.boolean) rm_X13_noVapour A [.ref x0, .int x1, .int x2] D tc h0 sa H0 (fun u : Int32 × Dt => post u.1 u.2) (fun (u : Int32 × Dt) (H1 : Heap) => SB D tc (sa 3) A tS nS rS u.2 H1) (fun u : Int32 × Dt => some (.int u.1)) := by
  refine MB.of RX13 [(0, .ref x0), (1, .int x1), (2, .int x2)] (by decide +kernel) rfl (Nat.le_of_ble_eq_true rfl) rfl ?_
  intro p e s m below meth c ls X hr hin hT hH hS hl
  subst hH
  have hx := X.1
  have hb := X.2.1
  have hown := X.2.2.2.1
  have hU := X.2.2.2.2.1.1
  unfold wp_X13_noVapour at hw
  refine lv_aload_n hx hb dX13_noVapour_0 rfl (lv_at hl 0 rfl) ?_
  refine lv_iload_n hx hb dX13_noVapour_1 rfl (lv_at hl 1 rfl) ?_
  refine lv_i2l (v := x1.toInt64) hx hb dX13_noVapour_2 rfl ?_
  refine lv_lconst (v := 0) hx hb dX13_noVapour_3 (by decide) ?_
  refine lv_ldc2 (v := 9) hx hb hown (hU.use w_1269) dX13_noVapour_4 ?_
  refine g_after (st0 := [.long 9, .long 0, .long x1.toInt64, .ref x0]) (rest := [.ref x0]) (g_S X m_X13_13 (c_X13_in l D tc h0 sa x1.toInt64 0 9 _ hB  hw) hT hS hA0 dX13_noVapour_7 hl.1 rfl rfl ⟨Nat.le_of_ble_eq_true rfl, Nat.le_of_ble_eq_true rfl⟩ (Nat.le_of_ble_eq_true rfl) ⟨Nat.le_of_ble_eq_true rfl, Nat.le_of_ble_eq_true rfl⟩) hS (fun _ h => h.elim) (fun u => .int u :: [.ref x0]) (fun _ => rfl) (fun u H9 locs hw hP9 hz9 hk9 hS => ?_)
  obtain ⟨r1, rfl⟩ : ∃ z, z = u := ⟨_, rfl⟩
  try dsimp only at hw hP9
  have e9 : H9 = _ := hP9
  rw [e9] at hS ⊢
  refine lv_if_eq (tgt := 25) hx hb dX13_noVapour_10 (by decide) (fun c2 => ?_) (fun c2 => ?_)
  · have hw := hw.1 c2
    exact t_X13_noVapour_25 X hr hT hA0  x0 wS _ _ _ hw hB hkx0 hS (lv_sub hl [] rfl)
  · have hw := hw.2 c2
    refine lv_iload_n hx hb dX13_noVapour_13 rfl (lv_at hl 2 rfl) ?_
    refine lv_i2l (v := x2.toInt64) hx hb dX13_noVapour_14 rfl ?_
    refine lv_lconst (v := 0) hx hb dX13_noVapour_15 (by decide) ?_
    refine lv_ldc2 (v := 2) hx hb hown (hU.use w_1291) dX13_noVapour_16 ?_
    refine g_after (st0 := [.long 2, .long 0, .long x2.toInt64, .ref x0]) (rest := [.ref x0]) (g_S X m_X13_13 (c_X13_in l D tc h0 sa x2.toInt64 0 2 _ hB  hw) hT hS hA0 dX13_noVapour_19 hl.1 rfl rfl ⟨Nat.le_of_ble_eq_true rfl, Nat.le_of_ble_eq_true rfl⟩ (Nat.le_of_ble_eq_true rfl) ⟨Nat.le_of_ble_eq_true rfl, Nat.le_of_ble_eq_true rfl⟩) hS (fun _ h => h.elim) (fun u => .int u :: [.ref x0]) (fun _ => rfl) (fun u H9 locs hw hP9 hz9 hk9 hS => ?_)
    obtain ⟨r6, rfl⟩ : ∃ z, z = u := ⟨_, rfl⟩
    try dsimp only at hw hP9
    have e9 : H9 = _ := hP9
    rw [e9] at hS ⊢
    refine lv_if_ne (tgt := 29) hx hb dX13_noVapour_22 (by decide) (fun c7 => ?_) (fun c7 => ?_)
    · have hw := hw.1 c7
      refine lv_iconst (v := 0) hx hb dX13_noVapour_29 (by decide) ?_
      exact t_X13_noVapour_30 X hr hT hA0  0 x0 wS _ _ _ hw hB hkx0 hS (lv_sub hl [] rfl)
    · have hw := hw.2 c7
      exact t_X13_noVapour_25 X hr hT hA0  x0 wS _ _ _ hw hB hkx0 hS (lv_sub hl [] rfl)
abbrev rm_X13_noBelt : Room := { frames := 1, cells := 0, slots := 0, locals := 25 }
def wp_X13_noBelt_18 (post : Int32 → Dt → Prop) (tS : Nat → Nat) (nS : Nat → Nat) (rS : Nat → Nat → Nat)  (z0 : Int32) (z1 : Nat) (wS : Dt) : Prop := wp_X13_fails (fun r3 wS4 => narrow .boolean (.int r3) = .int r3 ∧ (post r3 wS4)) tS nS rS wS z1 z0 1
set_option maxHeartbeats 4000000 in
set_option maxRecDepth 100000 in
theorem t_X13_noBelt_18 : ∀ {p : Program} {l : Launch} {e : Env} {s : State} {m : MethodId} {args : Array Value} {below : List Frame} {meth : Method} {c : Code} {D : va_G} {tc : Nat → ClassId} {h0 : Nat} {sa : Nat → Nat} {A : Nat → Prop} {post : Int32 → Dt → Prop} {tS : Nat → Nat} {nS : Nat → Nat} {rS : Nat → Nat → Nat}  (X : Cx p c s m meth cX13_noBelt 2 RX13 D tc) (hr : meth.sig.returnType = (Option.some FieldType.boolean)) (hT : ST h0 sa s s.heap) (hA0 : ∀ q, A q → h0 ≤ q) , ∀ (z0 : Int32) (z1 : Nat) (wS : Dt) (H : Heap) (locs : List Loc) (ls : Array Slot), wp_X13_noBelt_18 post tS nS rS  z0 z1 wS → SB D tc (sa 3) A tS nS rS wS H → (tS z1 = 7) → va_S A s.heap H locs → lv_has ls 2 [] → W p l e rm_X13_noBelt s m args below meth c H locs 0 0 (MQ below (QB (fun u : Int32 × Dt => post u.1 u.2) (fun (u : Int32 × Dt) (H1 : Heap) => SB D tc (sa 3) A tS nS rS u.2 H1) (fun u : Int32 × Dt => some (.int u.1)) A) args s rm_X13_noBelt.cells rm_X13_noBelt.slots A) (F0 m 18 ls [.int z0, .ref z1]) := by
  intro p l e s m args below meth c D tc h0 sa A post tS nS rS  X hr hT hA0   z0 z1 wS H locs ls hw hB hkz1 hS hl
  have hx := X.1
  have hb := X.2.1
  have hown := X.2.2.2.1
  have hU := X.2.2.2.2.1.1
  unfold wp_X13_noBelt_18 at hw
  refine lv_iconst (v := 1) hx hb dX13_noBelt_18 (by decide) ?_
  refine g_after (st0 := [.int 1, .int z0, .ref z1]) (rest := []) (g_V X m_X13_57 (c_X13_fails l D tc h0 sa z1 z0 1 _ hB hkz1 hA0 hw) (recv1 X.2.2.2.2.1 rfl (hB.at (k := 7) hkz1 rfl)) hT hS hA0 dX13_noBelt_19 hl.1 rfl rfl ⟨Nat.le_of_ble_eq_true rfl, Nat.le_of_ble_eq_true rfl⟩ (Nat.le_of_ble_eq_true rfl) ⟨Nat.le_of_ble_eq_true rfl, Nat.le_of_ble_eq_true rfl⟩) hS (fun _ h => h) (fun u => .int u.1 :: []) (fun _ => rfl) (fun u H locs hw hP9 hz9 hk9 hS => ?_)
  obtain ⟨r3, wS4⟩ := u
  try dsimp only at hw hP9
  have hB := hP9
  obtain ⟨o5, hw⟩ := hw
  exact e_z X hr o5 dX13_noBelt_22 hS (r3, wS4) rfl hw hB ⟨Nat.le_of_ble_eq_true rfl, Nat.le_of_ble_eq_true rfl⟩
def wp_X13_noBelt (post : Int32 → Dt → Prop) (tS : Nat → Nat) (nS : Nat → Nat) (rS : Nat → Nat → Nat) (wS : Dt) (x0 : Nat) (x1 : Int32) : Prop := wp_X13_in (fun r1 => (¬ r1 = 0 → wp_X13_noBelt_18 post tS nS rS  0 x0 wS) ∧ (r1 = 0 → wp_X13_noBelt_18 post tS nS rS  1 x0 wS)) tS nS rS wS x1.toInt64 0 11
set_option maxHeartbeats 4000000 in
set_option maxRecDepth 100000 in
theorem c_X13_noBelt (l : Launch) (D : va_G) (tc : Nat → ClassId) (h0 : Nat) (sa : Nat → Nat) (x0 : Nat) (x1 : Int32) {A : Nat → Prop} (H0 : Heap) {tS nS : Nat → Nat} {rS : Nat → Nat → Nat} {wS : Dt} (hB : SB D tc (sa 3) A tS nS rS wS H0) (hkx0 : tS x0 = 7) (hA0 : ∀ q, A q → h0 ≤ q) {post : Int32 → Dt → Prop} (hw : wp_X13_noBelt post tS nS rS wS x0 x1) : MB l yX13_noBelt cX13_noBelt 2 (Option.some FieldType.boolean) rm_X13_noBelt A [.ref x0, .int x1] D tc h0 sa H0 (fun u : Int32 × Dt => post u.1 u.2) (fun (u : Int32 × Dt) (H1 : Heap) => SB D tc (sa 3) A tS nS rS u.2 H1) (fun u : Int32 × Dt => some (.int u.1)) := by
  refine MB.of RX13 [(0, .ref x0), (1, .int x1)] (by decide +kernel) rfl (Nat.le_of_ble_eq_true rfl) rfl ?_
  intro p e s m below meth c ls X hr hin hT hH hS hl
  subst hH
  have hx := X.1
  have hb := X.2.1
  have hown := X.2.2.2.1
  have hU := X.2.2.2.2.1.1
  unfold wp_X13_noBelt at hw
  refine lv_aload_n hx hb dX13_noBelt_0 rfl (lv_at hl 0 rfl) ?_
  refine lv_iload_n hx hb dX13_noBelt_1 rfl (lv_at hl 1 rfl) ?_
  refine lv_i2l (v := x1.toInt64) hx hb dX13_noBelt_2 rfl ?_
  refine lv_lconst (v := 0) hx hb dX13_noBelt_3 (by decide) ?_
  refine lv_ldc2 (v := 11) hx hb hown (hU.use w_1327) dX13_noBelt_4 ?_
  refine g_after (st0 := [.long 11, .long 0, .long x1.toInt64, .ref x0]) (rest := [.ref x0]) (g_S X m_X13_13 (c_X13_in l D tc h0 sa x1.toInt64 0 11 _ hB  hw) hT hS hA0 dX13_noBelt_7 hl.1 rfl rfl ⟨Nat.le_of_ble_eq_true rfl, Nat.le_of_ble_eq_true rfl⟩ (Nat.le_of_ble_eq_true rfl) ⟨Nat.le_of_ble_eq_true rfl, Nat.le_of_ble_eq_true rfl⟩) hS (fun _ h => h.elim) (fun u => .int u :: [.ref x0]) (fun _ => rfl) (fun u H9 locs hw hP9 hz9 hk9 hS => ?_)
  obtain ⟨r1, rfl⟩ : ∃ z, z = u := ⟨_, rfl⟩
  try dsimp only at hw hP9
  have e9 : H9 = _ := hP9
  rw [e9] at hS ⊢
  refine lv_if_ne (tgt := 17) hx hb dX13_noBelt_10 (by decide) (fun c2 => ?_) (fun c2 => ?_)
  · have hw := hw.1 c2
    refine lv_iconst (v := 0) hx hb dX13_noBelt_17 (by decide) ?_
    exact t_X13_noBelt_18 X hr hT hA0  0 x0 wS _ _ _ hw hB hkx0 hS (lv_sub hl [] rfl)
  · have hw := hw.2 c2
    refine lv_iconst (v := 1) hx hb dX13_noBelt_13 (by decide) ?_
    refine lv_goto (tgt := 18) hx hb dX13_noBelt_14 (by decide) ?_
    exact t_X13_noBelt_18 X hr hT hA0  1 x0 wS _ _ _ hw hB hkx0 hS (lv_sub hl [] rfl)
abbrev rm_X13_noStorm : Room := { frames := 2, cells := 0, slots := 0, locals := 46 }
def wp_X13_noStorm_20 (post : Int32 → Dt → Prop) (tS : Nat → Nat) (nS : Nat → Nat) (rS : Nat → Nat → Nat)  (z0 : Int32) (z1 : Nat) (wS : Dt) : Prop := wp_X13_fails (fun r5 wS6 => narrow .boolean (.int r5) = .int r5 ∧ (post r5 wS6)) tS nS rS wS z1 z0 1
set_option maxHeartbeats 4000000 in
set_option maxRecDepth 100000 in
theorem t_X13_noStorm_20 : ∀ {p : Program} {l : Launch} {e : Env} {s : State} {m : MethodId} {args : Array Value} {below : List Frame} {meth : Method} {c : Code} {D : va_G} {tc : Nat → ClassId} {h0 : Nat} {sa : Nat → Nat} {A : Nat → Prop} {post : Int32 → Dt → Prop} {tS : Nat → Nat} {nS : Nat → Nat} {rS : Nat → Nat → Nat}  (X : Cx p c s m meth cX13_noStorm 2 RX13 D tc) (hr : meth.sig.returnType = (Option.some FieldType.boolean)) (hT : ST h0 sa s s.heap) (hA0 : ∀ q, A q → h0 ≤ q) , ∀ (z0 : Int32) (z1 : Nat) (wS : Dt) (H : Heap) (locs : List Loc) (ls : Array Slot), wp_X13_noStorm_20 post tS nS rS  z0 z1 wS → SB D tc (sa 3) A tS nS rS wS H → (tS z1 = 7) → va_S A s.heap H locs → lv_has ls 2 [] → W p l e rm_X13_noStorm s m args below meth c H locs 0 0 (MQ below (QB (fun u : Int32 × Dt => post u.1 u.2) (fun (u : Int32 × Dt) (H1 : Heap) => SB D tc (sa 3) A tS nS rS u.2 H1) (fun u : Int32 × Dt => some (.int u.1)) A) args s rm_X13_noStorm.cells rm_X13_noStorm.slots A) (F0 m 20 ls [.int z0, .ref z1]) := by
  intro p l e s m args below meth c D tc h0 sa A post tS nS rS  X hr hT hA0   z0 z1 wS H locs ls hw hB hkz1 hS hl
  have hx := X.1
  have hb := X.2.1
  have hown := X.2.2.2.1
  have hU := X.2.2.2.2.1.1
  unfold wp_X13_noStorm_20 at hw
  refine lv_iconst (v := 1) hx hb dX13_noStorm_20 (by decide) ?_
  refine g_after (st0 := [.int 1, .int z0, .ref z1]) (rest := []) (g_V X m_X13_57 (c_X13_fails l D tc h0 sa z1 z0 1 _ hB hkz1 hA0 hw) (recv1 X.2.2.2.2.1 rfl (hB.at (k := 7) hkz1 rfl)) hT hS hA0 dX13_noStorm_21 hl.1 rfl rfl ⟨Nat.le_of_ble_eq_true rfl, Nat.le_of_ble_eq_true rfl⟩ (Nat.le_of_ble_eq_true rfl) ⟨Nat.le_of_ble_eq_true rfl, Nat.le_of_ble_eq_true rfl⟩) hS (fun _ h => h) (fun u => .int u.1 :: []) (fun _ => rfl) (fun u H locs hw hP9 hz9 hk9 hS => ?_)
  obtain ⟨r5, wS6⟩ := u
  try dsimp only at hw hP9
  have hB := hP9
  obtain ⟨o7, hw⟩ := hw
  exact e_z X hr o7 dX13_noStorm_24 hS (r5, wS6) rfl hw hB ⟨Nat.le_of_ble_eq_true rfl, Nat.le_of_ble_eq_true rfl⟩
def wp_X13_noStorm (post : Int32 → Dt → Prop) (tS : Nat → Nat) (nS : Nat → Nat) (rS : Nat → Nat → Nat) (wS : Dt) (x0 : Nat) (x1 : Int32) : Prop := wp_X13_isOf (fun r3 => (¬ r3 = 0 → wp_X13_noStorm_20 post tS nS rS  0 x0 wS) ∧ (r3 = 0 → wp_X13_noStorm_20 post tS nS rS  1 x0 wS)) tS nS rS wS (rS (rS x0 1) 8) x1
set_option maxHeartbeats 4000000 in
set_option maxRecDepth 100000 in
theorem c_X13_noStorm (l : Launch) (D : va_G) (tc : Nat → ClassId) (h0 : Nat) (sa : Nat → Nat) (x0 : Nat) (x1 : Int32) {A : Nat → Prop} (H0 : Heap) {tS nS : Nat → Nat} {rS : Nat → Nat → Nat} {wS : Dt} (hB : SB D tc (sa 3) A tS nS rS wS H0) (hkx0 : tS x0 = 7) (hA0 : ∀ q, A q → h0 ≤ q) {post : Int32 → Dt → Prop} (hw : wp_X13_noStorm post tS nS rS wS x0 x1) : MB l yX13_noStorm cX13_noStorm 2 (Option.some FieldType.boolean) rm_X13_noStorm A [.ref x0, .int x1] D tc h0 sa H0 (fun u : Int32 × Dt => post u.1 u.2) (fun (u : Int32 × Dt) (H1 : Heap) => SB D tc (sa 3) A tS nS rS u.2 H1) (fun u : Int32 × Dt => some (.int u.1)) := by
  refine MB.of RX13 [(0, .ref x0), (1, .int x1)] (by decide +kernel) rfl (Nat.le_of_ble_eq_true rfl) rfl ?_
  intro p e s m below meth c ls X hr hin hT hH hS hl
  subst hH
  have hx := X.1
  have hb := X.2.1
  have hown := X.2.2.2.1
  have hU := X.2.2.2.2.1.1
  unfold wp_X13_noStorm at hw
  refine lv_aload_n hx hb dX13_noStorm_0 rfl (lv_at hl 0 rfl) ?_
  refine lv_aload_n hx hb dX13_noStorm_1 rfl (lv_at hl 0 rfl) ?_
  refine g_get X dX13_noStorm_2 f_X13_34 (hB.one (k := 7) hkx0 rfl) 0 (v := .ref (rS x0 1)) rfl rfl ?_
  have k1 : tS (rS x0 1) = 4 := (hB.wtk hkx0).1
  refine g_getN X dX13_noStorm_5 f_X13_139 (hB.one (k := 4) k1 rfl) 0 (v := .ref (rS (rS x0 1) 8)) rfl rfl ?_
  have k2 : tS (rS (rS x0 1) 8) = 8 := (hB.wtk k1).2.2.2.2.1
  refine lv_iload_n hx hb dX13_noStorm_8 rfl (lv_at hl 1 rfl) ?_
  refine g_after (st0 := [.int x1, .ref (rS (rS x0 1) 8), .ref x0]) (rest := [.ref x0]) (g_S X m_X13_159 (c_X13_isOf l D tc h0 sa (rS (rS x0 1) 8) x1 _ hB (isL_of k2) hw) hT hS hA0 dX13_noStorm_9 hl.1 rfl rfl ⟨Nat.le_of_ble_eq_true rfl, Nat.le_of_ble_eq_true rfl⟩ (Nat.le_of_ble_eq_true rfl) ⟨Nat.le_of_ble_eq_true rfl, Nat.le_of_ble_eq_true rfl⟩) hS (fun _ h => h.elim) (fun u => .int u :: [.ref x0]) (fun _ => rfl) (fun u H9 locs hw hP9 hz9 hk9 hS => ?_)
  obtain ⟨r3, rfl⟩ : ∃ z, z = u := ⟨_, rfl⟩
  try dsimp only at hw hP9
  have e9 : H9 = _ := hP9
  rw [e9] at hS ⊢
  refine lv_if_ne (tgt := 19) hx hb dX13_noStorm_12 (by decide) (fun c4 => ?_) (fun c4 => ?_)
  · have hw := hw.1 c4
    refine lv_iconst (v := 0) hx hb dX13_noStorm_19 (by decide) ?_
    exact t_X13_noStorm_20 X hr hT hA0  0 x0 wS _ _ _ hw hB hkx0 hS (lv_sub hl [] rfl)
  · have hw := hw.2 c4
    refine lv_iconst (v := 1) hx hb dX13_noStorm_15 (by decide) ?_
    refine lv_goto (tgt := 20) hx hb dX13_noStorm_16 (by decide) ?_
    exact t_X13_noStorm_20 X hr hT hA0  1 x0 wS _ _ _ hw hB hkx0 hS (lv_sub hl [] rfl)
abbrev rm_X13_noScar : Room := { frames := 2, cells := 0, slots := 0, locals := 46 }
def wp_X13_noScar_20 (post : Int32 → Dt → Prop) (tS : Nat → Nat) (nS : Nat → Nat) (rS : Nat → Nat → Nat)  (z0 : Int32) (z1 : Nat) (wS : Dt) : Prop := wp_X13_fails (fun r5 wS6 => narrow .boolean (.int r5) = .int r5 ∧ (post r5 wS6)) tS nS rS wS z1 z0 1
set_option maxHeartbeats 4000000 in
set_option maxRecDepth 100000 in
theorem t_X13_noScar_20 : ∀ {p : Program} {l : Launch} {e : Env} {s : State} {m : MethodId} {args : Array Value} {below : List Frame} {meth : Method} {c : Code} {D : va_G} {tc : Nat → ClassId} {h0 : Nat} {sa : Nat → Nat} {A : Nat → Prop} {post : Int32 → Dt → Prop} {tS : Nat → Nat} {nS : Nat → Nat} {rS : Nat → Nat → Nat}  (X : Cx p c s m meth cX13_noScar 2 RX13 D tc) (hr : meth.sig.returnType = (Option.some FieldType.boolean)) (hT : ST h0 sa s s.heap) (hA0 : ∀ q, A q → h0 ≤ q) , ∀ (z0 : Int32) (z1 : Nat) (wS : Dt) (H : Heap) (locs : List Loc) (ls : Array Slot), wp_X13_noScar_20 post tS nS rS  z0 z1 wS → SB D tc (sa 3) A tS nS rS wS H → (tS z1 = 7) → va_S A s.heap H locs → lv_has ls 2 [] → W p l e rm_X13_noScar s m args below meth c H locs 0 0 (MQ below (QB (fun u : Int32 × Dt => post u.1 u.2) (fun (u : Int32 × Dt) (H1 : Heap) => SB D tc (sa 3) A tS nS rS u.2 H1) (fun u : Int32 × Dt => some (.int u.1)) A) args s rm_X13_noScar.cells rm_X13_noScar.slots A) (F0 m 20 ls [.int z0, .ref z1]) := by
  intro p l e s m args below meth c D tc h0 sa A post tS nS rS  X hr hT hA0   z0 z1 wS H locs ls hw hB hkz1 hS hl
  have hx := X.1
  have hb := X.2.1
  have hown := X.2.2.2.1
  have hU := X.2.2.2.2.1.1
  unfold wp_X13_noScar_20 at hw
  refine lv_iconst (v := 1) hx hb dX13_noScar_20 (by decide) ?_
  refine g_after (st0 := [.int 1, .int z0, .ref z1]) (rest := []) (g_V X m_X13_57 (c_X13_fails l D tc h0 sa z1 z0 1 _ hB hkz1 hA0 hw) (recv1 X.2.2.2.2.1 rfl (hB.at (k := 7) hkz1 rfl)) hT hS hA0 dX13_noScar_21 hl.1 rfl rfl ⟨Nat.le_of_ble_eq_true rfl, Nat.le_of_ble_eq_true rfl⟩ (Nat.le_of_ble_eq_true rfl) ⟨Nat.le_of_ble_eq_true rfl, Nat.le_of_ble_eq_true rfl⟩) hS (fun _ h => h) (fun u => .int u.1 :: []) (fun _ => rfl) (fun u H locs hw hP9 hz9 hk9 hS => ?_)
  obtain ⟨r5, wS6⟩ := u
  try dsimp only at hw hP9
  have hB := hP9
  obtain ⟨o7, hw⟩ := hw
  exact e_z X hr o7 dX13_noScar_24 hS (r5, wS6) rfl hw hB ⟨Nat.le_of_ble_eq_true rfl, Nat.le_of_ble_eq_true rfl⟩
def wp_X13_noScar (post : Int32 → Dt → Prop) (tS : Nat → Nat) (nS : Nat → Nat) (rS : Nat → Nat → Nat) (wS : Dt) (x0 : Nat) (x1 : Int32) : Prop := wp_X13_isOf (fun r3 => (¬ r3 = 0 → wp_X13_noScar_20 post tS nS rS  0 x0 wS) ∧ (r3 = 0 → wp_X13_noScar_20 post tS nS rS  1 x0 wS)) tS nS rS wS (rS (rS x0 1) 9) x1
set_option maxHeartbeats 4000000 in
set_option maxRecDepth 100000 in
theorem c_X13_noScar (l : Launch) (D : va_G) (tc : Nat → ClassId) (h0 : Nat) (sa : Nat → Nat) (x0 : Nat) (x1 : Int32) {A : Nat → Prop} (H0 : Heap) {tS nS : Nat → Nat} {rS : Nat → Nat → Nat} {wS : Dt} (hB : SB D tc (sa 3) A tS nS rS wS H0) (hkx0 : tS x0 = 7) (hA0 : ∀ q, A q → h0 ≤ q) {post : Int32 → Dt → Prop} (hw : wp_X13_noScar post tS nS rS wS x0 x1) : MB l yX13_noScar cX13_noScar 2 (Option.some FieldType.boolean) rm_X13_noScar A [.ref x0, .int x1] D tc h0 sa H0 (fun u : Int32 × Dt => post u.1 u.2) (fun (u : Int32 × Dt) (H1 : Heap) => SB D tc (sa 3) A tS nS rS u.2 H1) (fun u : Int32 × Dt => some (.int u.1)) := by
  refine MB.of RX13 [(0, .ref x0), (1, .int x1)] (by decide +kernel) rfl (Nat.le_of_ble_eq_true rfl) rfl ?_
  intro p e s m below meth c ls X hr hin hT hH hS hl
  subst hH
  have hx := X.1
  have hb := X.2.1
  have hown := X.2.2.2.1
  have hU := X.2.2.2.2.1.1
  unfold wp_X13_noScar at hw
  refine lv_aload_n hx hb dX13_noScar_0 rfl (lv_at hl 0 rfl) ?_
  refine lv_aload_n hx hb dX13_noScar_1 rfl (lv_at hl 0 rfl) ?_
  refine g_get X dX13_noScar_2 f_X13_34 (hB.one (k := 7) hkx0 rfl) 0 (v := .ref (rS x0 1)) rfl rfl ?_
  have k1 : tS (rS x0 1) = 4 := (hB.wtk hkx0).1
  refine g_getN X dX13_noScar_5 f_X13_201 (hB.one (k := 4) k1 rfl) 0 (v := .ref (rS (rS x0 1) 9)) rfl rfl ?_
  have k2 : tS (rS (rS x0 1) 9) = 9 := (hB.wtk k1).2.2.2.2.2.1
  refine lv_iload_n hx hb dX13_noScar_8 rfl (lv_at hl 1 rfl) ?_
  refine g_after (st0 := [.int x1, .ref (rS (rS x0 1) 9), .ref x0]) (rest := [.ref x0]) (g_S X m_X13_159 (c_X13_isOf l D tc h0 sa (rS (rS x0 1) 9) x1 _ hB (isL_of k2) hw) hT hS hA0 dX13_noScar_9 hl.1 rfl rfl ⟨Nat.le_of_ble_eq_true rfl, Nat.le_of_ble_eq_true rfl⟩ (Nat.le_of_ble_eq_true rfl) ⟨Nat.le_of_ble_eq_true rfl, Nat.le_of_ble_eq_true rfl⟩) hS (fun _ h => h.elim) (fun u => .int u :: [.ref x0]) (fun _ => rfl) (fun u H9 locs hw hP9 hz9 hk9 hS => ?_)
  obtain ⟨r3, rfl⟩ : ∃ z, z = u := ⟨_, rfl⟩
  try dsimp only at hw hP9
  have e9 : H9 = _ := hP9
  rw [e9] at hS ⊢
  refine lv_if_ne (tgt := 19) hx hb dX13_noScar_12 (by decide) (fun c4 => ?_) (fun c4 => ?_)
  · have hw := hw.1 c4
    refine lv_iconst (v := 0) hx hb dX13_noScar_19 (by decide) ?_
    exact t_X13_noScar_20 X hr hT hA0  0 x0 wS _ _ _ hw hB hkx0 hS (lv_sub hl [] rfl)
  · have hw := hw.2 c4
    refine lv_iconst (v := 1) hx hb dX13_noScar_15 (by decide) ?_
    refine lv_goto (tgt := 20) hx hb dX13_noScar_16 (by decide) ?_
    exact t_X13_noScar_20 X hr hT hA0  1 x0 wS _ _ _ hw hB hkx0 hS (lv_sub hl [] rfl)
abbrev rm_X13_noProbe : Room := { frames := 2, cells := 0, slots := 0, locals := 46 }
def wp_X13_noProbe_17 (post : Int32 → Dt → Prop) (tS : Nat → Nat) (nS : Nat → Nat) (rS : Nat → Nat → Nat)  (z0 : Int32) (z1 : Nat) (wS : Dt) : Prop := wp_X13_fails (fun r4 wS5 => narrow .boolean (.int r4) = .int r4 ∧ (post r4 wS5)) tS nS rS wS z1 z0 1
set_option maxHeartbeats 4000000 in
set_option maxRecDepth 100000 in
theorem t_X13_noProbe_17 : ∀ {p : Program} {l : Launch} {e : Env} {s : State} {m : MethodId} {args : Array Value} {below : List Frame} {meth : Method} {c : Code} {D : va_G} {tc : Nat → ClassId} {h0 : Nat} {sa : Nat → Nat} {A : Nat → Prop} {post : Int32 → Dt → Prop} {tS : Nat → Nat} {nS : Nat → Nat} {rS : Nat → Nat → Nat}  (X : Cx p c s m meth cX13_noProbe 2 RX13 D tc) (hr : meth.sig.returnType = (Option.some FieldType.boolean)) (hT : ST h0 sa s s.heap) (hA0 : ∀ q, A q → h0 ≤ q) , ∀ (z0 : Int32) (z1 : Nat) (wS : Dt) (H : Heap) (locs : List Loc) (ls : Array Slot), wp_X13_noProbe_17 post tS nS rS  z0 z1 wS → SB D tc (sa 3) A tS nS rS wS H → (tS z1 = 7) → va_S A s.heap H locs → lv_has ls 2 [] → W p l e rm_X13_noProbe s m args below meth c H locs 0 0 (MQ below (QB (fun u : Int32 × Dt => post u.1 u.2) (fun (u : Int32 × Dt) (H1 : Heap) => SB D tc (sa 3) A tS nS rS u.2 H1) (fun u : Int32 × Dt => some (.int u.1)) A) args s rm_X13_noProbe.cells rm_X13_noProbe.slots A) (F0 m 17 ls [.int z0, .ref z1]) := by
  intro p l e s m args below meth c D tc h0 sa A post tS nS rS  X hr hT hA0   z0 z1 wS H locs ls hw hB hkz1 hS hl
  have hx := X.1
  have hb := X.2.1
  have hown := X.2.2.2.1
  have hU := X.2.2.2.2.1.1
  unfold wp_X13_noProbe_17 at hw
  refine lv_iconst (v := 1) hx hb dX13_noProbe_17 (by decide) ?_
  refine g_after (st0 := [.int 1, .int z0, .ref z1]) (rest := []) (g_V X m_X13_57 (c_X13_fails l D tc h0 sa z1 z0 1 _ hB hkz1 hA0 hw) (recv1 X.2.2.2.2.1 rfl (hB.at (k := 7) hkz1 rfl)) hT hS hA0 dX13_noProbe_18 hl.1 rfl rfl ⟨Nat.le_of_ble_eq_true rfl, Nat.le_of_ble_eq_true rfl⟩ (Nat.le_of_ble_eq_true rfl) ⟨Nat.le_of_ble_eq_true rfl, Nat.le_of_ble_eq_true rfl⟩) hS (fun _ h => h) (fun u => .int u.1 :: []) (fun _ => rfl) (fun u H locs hw hP9 hz9 hk9 hS => ?_)
  obtain ⟨r4, wS5⟩ := u
  try dsimp only at hw hP9
  have hB := hP9
  obtain ⟨o6, hw⟩ := hw
  exact e_z X hr o6 dX13_noProbe_21 hS (r4, wS5) rfl hw hB ⟨Nat.le_of_ble_eq_true rfl, Nat.le_of_ble_eq_true rfl⟩
def wp_X13_noProbe (post : Int32 → Dt → Prop) (tS : Nat → Nat) (nS : Nat → Nat) (rS : Nat → Nat → Nat) (wS : Dt) (x0 : Nat) (x1 : Int32) : Prop := wp_X13_isOf (fun r2 => (¬ r2 = 0 → wp_X13_noProbe_17 post tS nS rS  0 x0 wS) ∧ (r2 = 0 → wp_X13_noProbe_17 post tS nS rS  1 x0 wS)) tS nS rS wS (rS x0 3) x1
set_option maxHeartbeats 4000000 in
set_option maxRecDepth 100000 in
theorem c_X13_noProbe (l : Launch) (D : va_G) (tc : Nat → ClassId) (h0 : Nat) (sa : Nat → Nat) (x0 : Nat) (x1 : Int32) {A : Nat → Prop} (H0 : Heap) {tS nS : Nat → Nat} {rS : Nat → Nat → Nat} {wS : Dt} (hB : SB D tc (sa 3) A tS nS rS wS H0) (hkx0 : tS x0 = 7) (hA0 : ∀ q, A q → h0 ≤ q) {post : Int32 → Dt → Prop} (hw : wp_X13_noProbe post tS nS rS wS x0 x1) : MB l yX13_noProbe cX13_noProbe 2 (Option.some FieldType.boolean) rm_X13_noProbe A [.ref x0, .int x1] D tc h0 sa H0 (fun u : Int32 × Dt => post u.1 u.2) (fun (u : Int32 × Dt) (H1 : Heap) => SB D tc (sa 3) A tS nS rS u.2 H1) (fun u : Int32 × Dt => some (.int u.1)) := by
  refine MB.of RX13 [(0, .ref x0), (1, .int x1)] (by decide +kernel) rfl (Nat.le_of_ble_eq_true rfl) rfl ?_
  intro p e s m below meth c ls X hr hin hT hH hS hl
  subst hH
  have hx := X.1
  have hb := X.2.1
  have hown := X.2.2.2.1
  have hU := X.2.2.2.2.1.1
  unfold wp_X13_noProbe at hw
  refine lv_aload_n hx hb dX13_noProbe_0 rfl (lv_at hl 0 rfl) ?_
  refine lv_aload_n hx hb dX13_noProbe_1 rfl (lv_at hl 0 rfl) ?_
  refine g_get X dX13_noProbe_2 f_X13_45 (hB.one (k := 7) hkx0 rfl) 0 (v := .ref (rS x0 3)) rfl rfl ?_
  have k1 : tS (rS x0 3) = 11 := (hB.wtk hkx0).2.2.1
  refine lv_iload_n hx hb dX13_noProbe_5 rfl (lv_at hl 1 rfl) ?_
  refine g_after (st0 := [.int x1, .ref (rS x0 3), .ref x0]) (rest := [.ref x0]) (g_S X m_X13_159 (c_X13_isOf l D tc h0 sa (rS x0 3) x1 _ hB (isL_of k1) hw) hT hS hA0 dX13_noProbe_6 hl.1 rfl rfl ⟨Nat.le_of_ble_eq_true rfl, Nat.le_of_ble_eq_true rfl⟩ (Nat.le_of_ble_eq_true rfl) ⟨Nat.le_of_ble_eq_true rfl, Nat.le_of_ble_eq_true rfl⟩) hS (fun _ h => h.elim) (fun u => .int u :: [.ref x0]) (fun _ => rfl) (fun u H9 locs hw hP9 hz9 hk9 hS => ?_)
  obtain ⟨r2, rfl⟩ : ∃ z, z = u := ⟨_, rfl⟩
  try dsimp only at hw hP9
  have e9 : H9 = _ := hP9
  rw [e9] at hS ⊢
  refine lv_if_ne (tgt := 16) hx hb dX13_noProbe_9 (by decide) (fun c3 => ?_) (fun c3 => ?_)
  · have hw := hw.1 c3
    refine lv_iconst (v := 0) hx hb dX13_noProbe_16 (by decide) ?_
    exact t_X13_noProbe_17 X hr hT hA0  0 x0 wS _ _ _ hw hB hkx0 hS (lv_sub hl [] rfl)
  · have hw := hw.2 c3
    refine lv_iconst (v := 1) hx hb dX13_noProbe_12 (by decide) ?_
    refine lv_goto (tgt := 17) hx hb dX13_noProbe_13 (by decide) ?_
    exact t_X13_noProbe_17 X hr hT hA0  1 x0 wS _ _ _ hw hB hkx0 hS (lv_sub hl [] rfl)
abbrev rm_X13_noFrame : Room := { frames := 2, cells := 0, slots := 0, locals := 46 }
def wp_X13_noFrame_17 (post : Int32 → Dt → Prop) (tS : Nat → Nat) (nS : Nat → Nat) (rS : Nat → Nat → Nat)  (z0 : Int32) (z1 : Nat) (wS : Dt) : Prop := wp_X13_fails (fun r4 wS5 => narrow .boolean (.int r4) = .int r4 ∧ (post r4 wS5)) tS nS rS wS z1 z0 1
set_option maxHeartbeats 4000000 in
set_option maxRecDepth 100000 in
theorem t_X13_noFrame_17 : ∀ {p : Program} {l : Launch} {e : Env} {s : State} {m : MethodId} {args : Array Value} {below : List Frame} {meth : Method} {c : Code} {D : va_G} {tc : Nat → ClassId} {h0 : Nat} {sa : Nat → Nat} {A : Nat → Prop} {post : Int32 → Dt → Prop} {tS : Nat → Nat} {nS : Nat → Nat} {rS : Nat → Nat → Nat}  (X : Cx p c s m meth cX13_noFrame 2 RX13 D tc) (hr : meth.sig.returnType = (Option.some FieldType.boolean)) (hT : ST h0 sa s s.heap) (hA0 : ∀ q, A q → h0 ≤ q) , ∀ (z0 : Int32) (z1 : Nat) (wS : Dt) (H : Heap) (locs : List Loc) (ls : Array Slot), wp_X13_noFrame_17 post tS nS rS  z0 z1 wS → SB D tc (sa 3) A tS nS rS wS H → (tS z1 = 7) → va_S A s.heap H locs → lv_has ls 2 [] → W p l e rm_X13_noFrame s m args below meth c H locs 0 0 (MQ below (QB (fun u : Int32 × Dt => post u.1 u.2) (fun (u : Int32 × Dt) (H1 : Heap) => SB D tc (sa 3) A tS nS rS u.2 H1) (fun u : Int32 × Dt => some (.int u.1)) A) args s rm_X13_noFrame.cells rm_X13_noFrame.slots A) (F0 m 17 ls [.int z0, .ref z1]) := by
  intro p l e s m args below meth c D tc h0 sa A post tS nS rS  X hr hT hA0   z0 z1 wS H locs ls hw hB hkz1 hS hl
  have hx := X.1
  have hb := X.2.1
  have hown := X.2.2.2.1
  have hU := X.2.2.2.2.1.1
  unfold wp_X13_noFrame_17 at hw
  refine lv_iconst (v := 1) hx hb dX13_noFrame_17 (by decide) ?_
  refine g_after (st0 := [.int 1, .int z0, .ref z1]) (rest := []) (g_V X m_X13_57 (c_X13_fails l D tc h0 sa z1 z0 1 _ hB hkz1 hA0 hw) (recv1 X.2.2.2.2.1 rfl (hB.at (k := 7) hkz1 rfl)) hT hS hA0 dX13_noFrame_18 hl.1 rfl rfl ⟨Nat.le_of_ble_eq_true rfl, Nat.le_of_ble_eq_true rfl⟩ (Nat.le_of_ble_eq_true rfl) ⟨Nat.le_of_ble_eq_true rfl, Nat.le_of_ble_eq_true rfl⟩) hS (fun _ h => h) (fun u => .int u.1 :: []) (fun _ => rfl) (fun u H locs hw hP9 hz9 hk9 hS => ?_)
  obtain ⟨r4, wS5⟩ := u
  try dsimp only at hw hP9
  have hB := hP9
  obtain ⟨o6, hw⟩ := hw
  exact e_z X hr o6 dX13_noFrame_21 hS (r4, wS5) rfl hw hB ⟨Nat.le_of_ble_eq_true rfl, Nat.le_of_ble_eq_true rfl⟩
def wp_X13_noFrame (post : Int32 → Dt → Prop) (tS : Nat → Nat) (nS : Nat → Nat) (rS : Nat → Nat → Nat) (wS : Dt) (x0 : Nat) (x1 : Int32) : Prop := wp_X13_isOf (fun r2 => (¬ r2 = 0 → wp_X13_noFrame_17 post tS nS rS  0 x0 wS) ∧ (r2 = 0 → wp_X13_noFrame_17 post tS nS rS  1 x0 wS)) tS nS rS wS (rS x0 4) x1
set_option maxHeartbeats 4000000 in
set_option maxRecDepth 100000 in
theorem c_X13_noFrame (l : Launch) (D : va_G) (tc : Nat → ClassId) (h0 : Nat) (sa : Nat → Nat) (x0 : Nat) (x1 : Int32) {A : Nat → Prop} (H0 : Heap) {tS nS : Nat → Nat} {rS : Nat → Nat → Nat} {wS : Dt} (hB : SB D tc (sa 3) A tS nS rS wS H0) (hkx0 : tS x0 = 7) (hA0 : ∀ q, A q → h0 ≤ q) {post : Int32 → Dt → Prop} (hw : wp_X13_noFrame post tS nS rS wS x0 x1) : MB l yX13_noFrame cX13_noFrame 2 (Option.some FieldType.boolean) rm_X13_noFrame A [.ref x0, .int x1] D tc h0 sa H0 (fun u : Int32 × Dt => post u.1 u.2) (fun (u : Int32 × Dt) (H1 : Heap) => SB D tc (sa 3) A tS nS rS u.2 H1) (fun u : Int32 × Dt => some (.int u.1)) := by
  refine MB.of RX13 [(0, .ref x0), (1, .int x1)] (by decide +kernel) rfl (Nat.le_of_ble_eq_true rfl) rfl ?_
  intro p e s m below meth c ls X hr hin hT hH hS hl
  subst hH
  have hx := X.1
  have hb := X.2.1
  have hown := X.2.2.2.1
  have hU := X.2.2.2.2.1.1
  unfold wp_X13_noFrame at hw
  refine lv_aload_n hx hb dX13_noFrame_0 rfl (lv_at hl 0 rfl) ?_
  refine lv_aload_n hx hb dX13_noFrame_1 rfl (lv_at hl 0 rfl) ?_
  refine g_get X dX13_noFrame_2 f_X13_48 (hB.one (k := 7) hkx0 rfl) 0 (v := .ref (rS x0 4)) rfl rfl ?_
  have k1 : tS (rS x0 4) = 12 := (hB.wtk hkx0).2.2.2
  refine lv_iload_n hx hb dX13_noFrame_5 rfl (lv_at hl 1 rfl) ?_
  refine g_after (st0 := [.int x1, .ref (rS x0 4), .ref x0]) (rest := [.ref x0]) (g_S X m_X13_159 (c_X13_isOf l D tc h0 sa (rS x0 4) x1 _ hB (isL_of k1) hw) hT hS hA0 dX13_noFrame_6 hl.1 rfl rfl ⟨Nat.le_of_ble_eq_true rfl, Nat.le_of_ble_eq_true rfl⟩ (Nat.le_of_ble_eq_true rfl) ⟨Nat.le_of_ble_eq_true rfl, Nat.le_of_ble_eq_true rfl⟩) hS (fun _ h => h.elim) (fun u => .int u :: [.ref x0]) (fun _ => rfl) (fun u H9 locs hw hP9 hz9 hk9 hS => ?_)
  obtain ⟨r2, rfl⟩ : ∃ z, z = u := ⟨_, rfl⟩
  try dsimp only at hw hP9
  have e9 : H9 = _ := hP9
  rw [e9] at hS ⊢
  refine lv_if_ne (tgt := 16) hx hb dX13_noFrame_9 (by decide) (fun c3 => ?_) (fun c3 => ?_)
  · have hw := hw.1 c3
    refine lv_iconst (v := 0) hx hb dX13_noFrame_16 (by decide) ?_
    exact t_X13_noFrame_17 X hr hT hA0  0 x0 wS _ _ _ hw hB hkx0 hS (lv_sub hl [] rfl)
  · have hw := hw.2 c3
    refine lv_iconst (v := 1) hx hb dX13_noFrame_12 (by decide) ?_
    refine lv_goto (tgt := 17) hx hb dX13_noFrame_13 (by decide) ?_
    exact t_X13_noFrame_17 X hr hT hA0  1 x0 wS _ _ _ hw hB hkx0 hS (lv_sub hl [] rfl)
abbrev rm_X13_named : Room := { frames := 3, cells := 0, slots := 0, locals := 64 }
def wp_X13_named_70 (post : Int32 → Prop) (tS : Nat → Nat) (nS : Nat → Nat) (rS : Nat → Nat → Nat) (wS : Dt) (K4 : Nat → Int32 → Int32 → Int32 → Prop) (y0 : Nat) (y1 : Int32) (y3 : Int32) (z0 : Int32) : Prop := K4 y0 y1 z0 (y3 + 1)
set_option maxHeartbeats 4000000 in
set_option maxRecDepth 100000 in
theorem t_X13_named_70 : ∀ {p : Program} {l : Launch} {e : Env} {s : State} {m : MethodId} {args : Array Value} {below : List Frame} {meth : Method} {c : Code} {D : va_G} {tc : Nat → ClassId} {h0 : Nat} {sa : Nat → Nat} {A : Nat → Prop} {post : Int32 → Prop} {tS : Nat → Nat} {nS : Nat → Nat} {rS : Nat → Nat → Nat} {wS : Dt} {K4 : Nat → Int32 → Int32 → Int32 → Prop} (X : Cx p c s m meth cX13_named 4 RX13 D tc) (hr : meth.sig.returnType = (Option.some FieldType.int)) (hT : ST h0 sa s s.heap) (hA0 : ∀ q, (fun _ : Nat => False) q → h0 ≤ q) (hK4 : ∀ (y0 : Nat) (y1 : Int32) (y2 : Int32) (y3 : Int32) (locs : List Loc) (ls : Array Slot), K4 y0 y1 y2 y3 → SB D tc (sa 3) A tS nS rS wS s.heap → (tS y0 = 7) → va_S (fun _ => False) s.heap s.heap locs → lv_has ls 4 [(0, .ref y0), (1, .int y1), (2, .int y2), (3, .int y3)] → W p l e rm_X13_named s m args below meth c s.heap locs 0 0 (MQ below (QB post (fun (_ : Int32) (H1 : Heap) => H1 = s.heap) (fun u : Int32 => some (.int u)) (fun _ : Nat => False)) args s rm_X13_named.cells rm_X13_named.slots (fun _ : Nat => False)) (F0 m 4 ls [])), ∀ (y0 : Nat) (y1 : Int32) (y3 : Int32) (z0 : Int32) (locs : List Loc) (ls : Array Slot), wp_X13_named_70 post tS nS rS wS K4 y0 y1 y3 z0 → SB D tc (sa 3) A tS nS rS wS s.heap → (tS y0 = 7) → va_S (fun _ => False) s.heap s.heap locs → lv_has ls 4 [(0, .ref y0), (1, .int y1), (3, .int y3)] → W p l e rm_X13_named s m args below meth c s.heap locs 0 0 (MQ below (QB post (fun (_ : Int32) (H1 : Heap) => H1 = s.heap) (fun u : Int32 => some (.int u)) (fun _ : Nat => False)) args s rm_X13_named.cells rm_X13_named.slots (fun _ : Nat => False)) (F0 m 70 ls [.int z0]) := by
  intro p l e s m args below meth c D tc h0 sa A post tS nS rS wS K4 X hr hT hA0 hK4  y0 y1 y3 z0 locs ls hw hB hky0 hS hl
  have hx := X.1
  have hb := X.2.1
  have hown := X.2.2.2.1
  have hU := X.2.2.2.2.1.1
  unfold wp_X13_named_70 at hw
  refine lv_istore_n (lv' := [(2, .int z0), (0, .ref y0), (1, .int y1), (3, .int y3)]) hx hb dX13_named_70 rfl hl (by decide) rfl (fun ls hl => ?_)
  refine lv_iinc (lv' := [(3, .int (y3 + 1)), (2, .int z0), (0, .ref y0), (1, .int y1)]) hx hb dX13_named_71 hl (k := 3) rfl (by rfl) (by decide) rfl (fun ls hl => ?_)
  refine lv_goto (tgt := 4) hx hb dX13_named_74 (by decide) ?_
  exact hK4 y0 y1 z0 (y3 + 1) _ _ hw hB hky0 hS (lv_sub hl [2, 3, 1, 0] rfl)
def wp_X13_named_69 (post : Int32 → Prop) (tS : Nat → Nat) (nS : Nat → Nat) (rS : Nat → Nat → Nat) (wS : Dt) (K4 : Nat → Int32 → Int32 → Int32 → Prop) (y0 : Nat) (y1 : Int32) (y2 : Int32) (y3 : Int32) : Prop := wp_X13_named_70 post tS nS rS wS K4 y0 y1 y3 y2
set_option maxHeartbeats 4000000 in
set_option maxRecDepth 100000 in
theorem t_X13_named_69 : ∀ {p : Program} {l : Launch} {e : Env} {s : State} {m : MethodId} {args : Array Value} {below : List Frame} {meth : Method} {c : Code} {D : va_G} {tc : Nat → ClassId} {h0 : Nat} {sa : Nat → Nat} {A : Nat → Prop} {post : Int32 → Prop} {tS : Nat → Nat} {nS : Nat → Nat} {rS : Nat → Nat → Nat} {wS : Dt} {K4 : Nat → Int32 → Int32 → Int32 → Prop} (X : Cx p c s m meth cX13_named 4 RX13 D tc) (hr : meth.sig.returnType = (Option.some FieldType.int)) (hT : ST h0 sa s s.heap) (hA0 : ∀ q, (fun _ : Nat => False) q → h0 ≤ q) (hK4 : ∀ (y0 : Nat) (y1 : Int32) (y2 : Int32) (y3 : Int32) (locs : List Loc) (ls : Array Slot), K4 y0 y1 y2 y3 → SB D tc (sa 3) A tS nS rS wS s.heap → (tS y0 = 7) → va_S (fun _ => False) s.heap s.heap locs → lv_has ls 4 [(0, .ref y0), (1, .int y1), (2, .int y2), (3, .int y3)] → W p l e rm_X13_named s m args below meth c s.heap locs 0 0 (MQ below (QB post (fun (_ : Int32) (H1 : Heap) => H1 = s.heap) (fun u : Int32 => some (.int u)) (fun _ : Nat => False)) args s rm_X13_named.cells rm_X13_named.slots (fun _ : Nat => False)) (F0 m 4 ls [])), ∀ (y0 : Nat) (y1 : Int32) (y2 : Int32) (y3 : Int32) (locs : List Loc) (ls : Array Slot), wp_X13_named_69 post tS nS rS wS K4 y0 y1 y2 y3 → SB D tc (sa 3) A tS nS rS wS s.heap → (tS y0 = 7) → va_S (fun _ => False) s.heap s.heap locs → lv_has ls 4 [(0, .ref y0), (1, .int y1), (2, .int y2), (3, .int y3)] → W p l e rm_X13_named s m args below meth c s.heap locs 0 0 (MQ below (QB post (fun (_ : Int32) (H1 : Heap) => H1 = s.heap) (fun u : Int32 => some (.int u)) (fun _ : Nat => False)) args s rm_X13_named.cells rm_X13_named.slots (fun _ : Nat => False)) (F0 m 69 ls []) := by
  intro p l e s m args below meth c D tc h0 sa A post tS nS rS wS K4 X hr hT hA0 hK4  y0 y1 y2 y3 locs ls hw hB hky0 hS hl
  have hx := X.1
  have hb := X.2.1
  have hown := X.2.2.2.1
  have hU := X.2.2.2.2.1.1
  unfold wp_X13_named_69 at hw
  refine lv_iload_n hx hb dX13_named_69 rfl (lv_at hl 2 rfl) ?_
  exact t_X13_named_70 X hr hT hA0 hK4 y0 y1 y3 y2 _ _ hw hB hky0 hS (lv_sub hl [0, 1, 3] rfl)
def wp_X13_named_4 (post : Int32 → Prop) (tS : Nat → Nat) (nS : Nat → Nat) (rS : Nat → Nat → Nat) (wS : Dt)  : Nat → (Nat) → (Int32) → (Int32) → (Int32) → Prop
  | 0, _, _, _, _ => False
  | n9 + 1, y0, y1, y2, y3 => ((nI (nS (rS (rS y0 1) 8))) ≤ y3 → post y2) ∧ (¬ (nI (nS (rS (rS y0 1) 8))) ≤ y3 → vp_in y3 (nS (rS (rS y0 1) 8)) ∧ ((¬ (wS (rS (rS (rS y0 1) 8) y3.toNatClampNeg) 5) = 0 → wp_X13_named_69 post tS nS rS wS (fun a0 a1 a2 a3 => wp_X13_named_4 post tS nS rS wS  n9 a0 a1 a2 a3) y0 y1 y2 y3) ∧ ((wS (rS (rS (rS y0 1) 8) y3.toNatClampNeg) 5) = 0 → (¬ (wS (rS (rS (rS y0 1) 8) y3.toNatClampNeg) 4) = y1 → wp_X13_named_69 post tS nS rS wS (fun a0 a1 a2 a3 => wp_X13_named_4 post tS nS rS wS  n9 a0 a1 a2 a3) y0 y1 y2 y3) ∧ ((wS (rS (rS (rS y0 1) 8) y3.toNatClampNeg) 4) = y1 → wp_X13_named_70 post tS nS rS wS (fun a0 a1 a2 a3 => wp_X13_named_4 post tS nS rS wS  n9 a0 a1 a2 a3) y0 y1 y3 y3))))
set_option maxHeartbeats 4000000 in
set_option maxRecDepth 100000 in
theorem t_X13_named_4 : ∀ {p : Program} {l : Launch} {e : Env} {s : State} {m : MethodId} {args : Array Value} {below : List Frame} {meth : Method} {c : Code} {D : va_G} {tc : Nat → ClassId} {h0 : Nat} {sa : Nat → Nat} {A : Nat → Prop} {post : Int32 → Prop} {tS : Nat → Nat} {nS : Nat → Nat} {rS : Nat → Nat → Nat} {wS : Dt}  (X : Cx p c s m meth cX13_named 4 RX13 D tc) (hr : meth.sig.returnType = (Option.some FieldType.int)) (hT : ST h0 sa s s.heap) (hA0 : ∀ q, (fun _ : Nat => False) q → h0 ≤ q)  (n9 : Nat), ∀ (y0 : Nat) (y1 : Int32) (y2 : Int32) (y3 : Int32) (locs : List Loc) (ls : Array Slot), wp_X13_named_4 post tS nS rS wS  n9 y0 y1 y2 y3 → SB D tc (sa 3) A tS nS rS wS s.heap → (tS y0 = 7) → va_S (fun _ => False) s.heap s.heap locs → lv_has ls 4 [(0, .ref y0), (1, .int y1), (2, .int y2), (3, .int y3)] → W p l e rm_X13_named s m args below meth c s.heap locs 0 0 (MQ below (QB post (fun (_ : Int32) (H1 : Heap) => H1 = s.heap) (fun u : Int32 => some (.int u)) (fun _ : Nat => False)) args s rm_X13_named.cells rm_X13_named.slots (fun _ : Nat => False)) (F0 m 4 ls []) := by
  intro p l e s m args below meth c D tc h0 sa A post tS nS rS wS  X hr hT hA0  n9
  have hx := X.1
  have hb := X.2.1
  have hown := X.2.2.2.1
  have hU := X.2.2.2.2.1.1
  induction n9 with
  | zero =>
    intro  y0 y1 y2 y3 locs ls hw
    exact hw.elim
  | succ n9 ih =>
    intro  y0 y1 y2 y3 locs ls hw hB hky0 hS hl
    unfold wp_X13_named_4 at hw
    refine lv_iload_n hx hb dX13_named_4 rfl (lv_at hl 3 rfl) ?_
    refine lv_aload_n hx hb dX13_named_5 rfl (lv_at hl 0 rfl) ?_
    refine g_get X dX13_named_6 f_X13_34 (hB.one (k := 7) hky0 rfl) 0 (v := .ref (rS y0 1)) rfl rfl ?_
    have k1 : tS (rS y0 1) = 4 := (hB.wtk hky0).1
    refine g_getN X dX13_named_9 f_X13_139 (hB.one (k := 4) k1 rfl) 0 (v := .ref (rS (rS y0 1) 8)) rfl rfl ?_
    have k2 : tS (rS (rS y0 1) 8) = 8 := (hB.wtk k1).2.2.2.2.1
    obtain ⟨fs9, hat9⟩ := hB.lat (isL_of k2)
    refine g_after5 (st0 := [.ref (rS (rS y0 1) 8), .int y3]) (rest := [.int y3]) (g_F X mf_X13_7 (c_size l D tc h0 sa _ (rS (rS y0 1) 8) hB (isL_of k2)) rfl hat9 hT hS hA0 dX13_named_12 hl.1 rfl rfl ⟨Nat.le_of_ble_eq_true rfl, Nat.le_of_ble_eq_true rfl⟩ (Nat.le_of_ble_eq_true rfl) ⟨Nat.le_of_ble_eq_true rfl, Nat.le_of_ble_eq_true rfl⟩) hS (fun _ h => h.elim) (fun u => .int (nI (nS (rS (rS y0 1) 8))) :: [.int y3]) (fun _ => rfl) (fun u H9 locs hu hP9 hz9 hk9 hS => ?_)
    have e9 : H9 = _ := hP9
    rw [e9] at hS ⊢
    refine lv_icmp_ge (tgt := 77) hx hb dX13_named_17 (by decide) (fun c3 => ?_) (fun c3 => ?_)
    · have hw := hw.1 c3
      refine lv_iload_n hx hb dX13_named_77 rfl (lv_at hl 2 rfl) ?_
      exact e_i X hr dX13_named_78 hS (y2) rfl hw rfl ⟨Nat.le_of_ble_eq_true rfl, Nat.le_of_ble_eq_true rfl⟩
    · have hw := hw.2 c3
      refine lv_aload_n hx hb dX13_named_20 rfl (lv_at hl 0 rfl) ?_
      refine g_get X dX13_named_21 f_X13_34 (hB.one (k := 7) hky0 rfl) 0 (v := .ref (rS y0 1)) rfl rfl ?_
      have k4 : tS (rS y0 1) = 4 := (hB.wtk hky0).1
      refine g_getN X dX13_named_24 f_X13_139 (hB.one (k := 4) k4 rfl) 0 (v := .ref (rS (rS y0 1) 8)) rfl rfl ?_
      have k5 : tS (rS (rS y0 1) 8) = 8 := (hB.wtk k4).2.2.2.2.1
      refine lv_iload_n hx hb dX13_named_27 rfl (lv_at hl 3 rfl) ?_
      obtain ⟨fs9, hat9⟩ := hB.lat (isL_of k5)
      obtain ⟨o6, hw⟩ := hw
      refine g_after5 (st0 := [.int y3, .ref (rS (rS y0 1) 8)]) (rest := []) (g_F X mf_X13_163 (c_get l D tc h0 sa _ (rS (rS y0 1) 8) hB (isL_of k5) o6) rfl hat9 hT hS hA0 dX13_named_28 hl.1 rfl rfl ⟨Nat.le_of_ble_eq_true rfl, Nat.le_of_ble_eq_true rfl⟩ (Nat.le_of_ble_eq_true rfl) ⟨Nat.le_of_ble_eq_true rfl, Nat.le_of_ble_eq_true rfl⟩) hS (fun _ h => h.elim) (fun u => .ref (rS (rS (rS y0 1) 8) y3.toNatClampNeg) :: []) (fun _ => rfl) (fun u H9 locs hu hP9 hz9 hk9 hS => ?_)
      have e9 : H9 = _ := hP9
      rw [e9] at hS ⊢
      have k7 : tS (rS (rS (rS y0 1) 8) y3.toNatClampNeg) = 3 := hB.elt k5 (lt10 o6)
      refine x_cast X w_1435 rfl (hB.at (k := 3) k7 rfl) dX13_named_33 ?_
      refine g_getN X dX13_named_36 f_X13_167 (hB.one (k := 3) k7 rfl) 0 (v := .int (wS (rS (rS (rS y0 1) 8) y3.toNatClampNeg) 5)) rfl rfl ?_
      refine lv_if_ne (tgt := 69) hx hb dX13_named_39 (by decide) (fun c8 => ?_) (fun c8 => ?_)
      · have hw := hw.1 c8
        exact t_X13_named_69 X hr hT hA0 ih y0 y1 y2 y3 _ _ hw hB hky0 hS (lv_sub hl [0, 1, 2, 3] rfl)
      · have hw := hw.2 c8
        refine lv_aload_n hx hb dX13_named_42 rfl (lv_at hl 0 rfl) ?_
        refine g_get X dX13_named_43 f_X13_34 (hB.one (k := 7) hky0 rfl) 0 (v := .ref (rS y0 1)) rfl rfl ?_
        have k9 : tS (rS y0 1) = 4 := (hB.wtk hky0).1
        refine g_getN X dX13_named_46 f_X13_139 (hB.one (k := 4) k9 rfl) 0 (v := .ref (rS (rS y0 1) 8)) rfl rfl ?_
        have k10 : tS (rS (rS y0 1) 8) = 8 := (hB.wtk k9).2.2.2.2.1
        refine lv_iload_n hx hb dX13_named_49 rfl (lv_at hl 3 rfl) ?_
        obtain ⟨fs9, hat9⟩ := hB.lat (isL_of k10)
        refine g_after5 (st0 := [.int y3, .ref (rS (rS y0 1) 8)]) (rest := []) (g_F X mf_X13_163 (c_get l D tc h0 sa _ (rS (rS y0 1) 8) hB (isL_of k10) o6) rfl hat9 hT hS hA0 dX13_named_50 hl.1 rfl rfl ⟨Nat.le_of_ble_eq_true rfl, Nat.le_of_ble_eq_true rfl⟩ (Nat.le_of_ble_eq_true rfl) ⟨Nat.le_of_ble_eq_true rfl, Nat.le_of_ble_eq_true rfl⟩) hS (fun _ h => h.elim) (fun u => .ref (rS (rS (rS y0 1) 8) y3.toNatClampNeg) :: []) (fun _ => rfl) (fun u H9 locs hu hP9 hz9 hk9 hS => ?_)
        have e9 : H9 = _ := hP9
        rw [e9] at hS ⊢
        have k11 : tS (rS (rS (rS y0 1) 8) y3.toNatClampNeg) = 3 := hB.elt k10 (lt10 o6)
        refine x_cast X w_1435 rfl (hB.at (k := 3) k11 rfl) dX13_named_55 ?_
        refine g_getN X dX13_named_58 f_X13_171 (hB.one (k := 3) k11 rfl) 0 (v := .int (wS (rS (rS (rS y0 1) 8) y3.toNatClampNeg) 4)) rfl rfl ?_
        refine lv_iload_n hx hb dX13_named_61 rfl (lv_at hl 1 rfl) ?_
        refine lv_icmp_ne (tgt := 69) hx hb dX13_named_62 (by decide) (fun c12 => ?_) (fun c12 => ?_)
        · have hw := hw.1 c12
          exact t_X13_named_69 X hr hT hA0 ih y0 y1 y2 y3 _ _ hw hB hky0 hS (lv_sub hl [0, 1, 2, 3] rfl)
        · have hw := hw.2 c12
          refine lv_iload_n hx hb dX13_named_65 rfl (lv_at hl 3 rfl) ?_
          refine lv_goto (tgt := 70) hx hb dX13_named_66 (by decide) ?_
          exact t_X13_named_70 X hr hT hA0 ih y0 y1 y3 y3 _ _ hw hB hky0 hS (lv_sub hl [0, 1, 3] rfl)
def wp_X13_named (post : Int32 → Prop) (tS : Nat → Nat) (nS : Nat → Nat) (rS : Nat → Nat → Nat) (wS : Dt) (x0 : Nat) (x1 : Int32) : Prop := ∃ k9 : Nat, wp_X13_named_4 post tS nS rS wS  k9 x0 x1 (-1) 0
set_option maxHeartbeats 4000000 in
set_option maxRecDepth 100000 in
theorem c_X13_named (l : Launch) (D : va_G) (tc : Nat → ClassId) (h0 : Nat) (sa : Nat → Nat) (x0 : Nat) (x1 : Int32) {A : Nat → Prop} (H0 : Heap) {tS nS : Nat → Nat} {rS : Nat → Nat → Nat} {wS : Dt} (hB : SB D tc (sa 3) A tS nS rS wS H0) (hkx0 : tS x0 = 7) {post : Int32 → Prop} (hw : wp_X13_named post tS nS rS wS  x0 x1) : MB l yX13_named cX13_named 4 (Option.some FieldType.int) rm_X13_named (fun _ : Nat => False) [.ref x0, .int x1] D tc h0 sa H0 post (fun (_ : Int32) (H1 : Heap) => H1 = H0) (fun u : Int32 => some (.int u)) := by
  have hA0 : ∀ q : Nat, (fun _ : Nat => False) q → h0 ≤ q := fun _ h => h.elim
  refine MB.of RX13 [(0, .ref x0), (1, .int x1)] (by decide +kernel) rfl (Nat.le_of_ble_eq_true rfl) rfl ?_
  intro p e s m below meth c ls X hr hin hT hH hS hl
  subst hH
  have hx := X.1
  have hb := X.2.1
  have hown := X.2.2.2.1
  have hU := X.2.2.2.2.1.1
  unfold wp_X13_named at hw
  refine lv_iconst (v := (-1)) hx hb dX13_named_0 (by decide) ?_
  refine lv_istore_n (lv' := [(2, .int (-1)), (0, .ref x0), (1, .int x1)]) hx hb dX13_named_1 rfl hl (by decide) rfl (fun ls hl => ?_)
  refine lv_iconst (v := 0) hx hb dX13_named_2 (by decide) ?_
  refine lv_istore_n (lv' := [(3, .int 0), (2, .int (-1)), (0, .ref x0), (1, .int x1)]) hx hb dX13_named_3 rfl hl (by decide) rfl (fun ls hl => ?_)
  obtain ⟨k9, hw⟩ := hw
  exact t_X13_named_4 X hr hT hA0  k9 x0 x1 (-1) 0 _ _ hw hB hkx0 hS (lv_sub hl [2, 3, 1, 0] rfl)
abbrev rm_X13_isGone : Room := { frames := 3, cells := 0, slots := 0, locals := 67 }
def wp_X13_isGone_40 (post : Int32 → Dt → Prop) (tS : Nat → Nat) (nS : Nat → Nat) (rS : Nat → Nat → Nat)  (z0 : Int32) (wS : Dt) : Prop := narrow .boolean (.int z0) = .int z0 ∧ (post z0 wS)
set_option maxHeartbeats 4000000 in
set_option maxRecDepth 100000 in
theorem t_X13_isGone_40 : ∀ {p : Program} {l : Launch} {e : Env} {s : State} {m : MethodId} {args : Array Value} {below : List Frame} {meth : Method} {c : Code} {D : va_G} {tc : Nat → ClassId} {h0 : Nat} {sa : Nat → Nat} {A : Nat → Prop} {post : Int32 → Dt → Prop} {tS : Nat → Nat} {nS : Nat → Nat} {rS : Nat → Nat → Nat}  (X : Cx p c s m meth cX13_isGone 2 RX13 D tc) (hr : meth.sig.returnType = (Option.some FieldType.boolean)) (hT : ST h0 sa s s.heap) (hA0 : ∀ q, A q → h0 ≤ q) , ∀ (z0 : Int32) (wS : Dt) (H : Heap) (locs : List Loc) (ls : Array Slot), wp_X13_isGone_40 post tS nS rS  z0 wS → SB D tc (sa 3) A tS nS rS wS H → va_S A s.heap H locs → lv_has ls 2 [] → W p l e rm_X13_isGone s m args below meth c H locs 0 0 (MQ below (QB (fun u : Int32 × Dt => post u.1 u.2) (fun (u : Int32 × Dt) (H1 : Heap) => SB D tc (sa 3) A tS nS rS u.2 H1) (fun u : Int32 × Dt => some (.int u.1)) A) args s rm_X13_isGone.cells rm_X13_isGone.slots A) (F0 m 40 ls [.int z0]) := by
  intro p l e s m args below meth c D tc h0 sa A post tS nS rS  X hr hT hA0   z0 wS H locs ls hw hB  hS hl
  have hx := X.1
  have hb := X.2.1
  have hown := X.2.2.2.1
  have hU := X.2.2.2.2.1.1
  unfold wp_X13_isGone_40 at hw
  obtain ⟨o4, hw⟩ := hw
  exact e_z X hr o4 dX13_isGone_40 hS (z0, wS) rfl hw hB ⟨Nat.le_of_ble_eq_true rfl, Nat.le_of_ble_eq_true rfl⟩
def wp_X13_isGone_35 (post : Int32 → Dt → Prop) (tS : Nat → Nat) (nS : Nat → Nat) (rS : Nat → Nat → Nat)  (wS : Dt) : Prop := wp_X13_isGone_40 post tS nS rS  1 wS
set_option maxHeartbeats 4000000 in
set_option maxRecDepth 100000 in
theorem t_X13_isGone_35 : ∀ {p : Program} {l : Launch} {e : Env} {s : State} {m : MethodId} {args : Array Value} {below : List Frame} {meth : Method} {c : Code} {D : va_G} {tc : Nat → ClassId} {h0 : Nat} {sa : Nat → Nat} {A : Nat → Prop} {post : Int32 → Dt → Prop} {tS : Nat → Nat} {nS : Nat → Nat} {rS : Nat → Nat → Nat}  (X : Cx p c s m meth cX13_isGone 2 RX13 D tc) (hr : meth.sig.returnType = (Option.some FieldType.boolean)) (hT : ST h0 sa s s.heap) (hA0 : ∀ q, A q → h0 ≤ q) , ∀ (wS : Dt) (H : Heap) (locs : List Loc) (ls : Array Slot), wp_X13_isGone_35 post tS nS rS  wS → SB D tc (sa 3) A tS nS rS wS H → va_S A s.heap H locs → lv_has ls 2 [] → W p l e rm_X13_isGone s m args below meth c H locs 0 0 (MQ below (QB (fun u : Int32 × Dt => post u.1 u.2) (fun (u : Int32 × Dt) (H1 : Heap) => SB D tc (sa 3) A tS nS rS u.2 H1) (fun u : Int32 × Dt => some (.int u.1)) A) args s rm_X13_isGone.cells rm_X13_isGone.slots A) (F0 m 35 ls []) := by
  intro p l e s m args below meth c D tc h0 sa A post tS nS rS  X hr hT hA0   wS H locs ls hw hB  hS hl
  have hx := X.1
  have hb := X.2.1
  have hown := X.2.2.2.1
  have hU := X.2.2.2.2.1.1
  unfold wp_X13_isGone_35 at hw
  refine lv_iconst (v := 1) hx hb dX13_isGone_35 (by decide) ?_
  refine lv_goto (tgt := 40) hx hb dX13_isGone_36 (by decide) ?_
  exact t_X13_isGone_40 X hr hT hA0  1 wS _ _ _ hw hB  hS (lv_sub hl [] rfl)
def wp_X13_isGone (post : Int32 → Dt → Prop) (tS : Nat → Nat) (nS : Nat → Nat) (rS : Nat → Nat → Nat) (wS : Dt) (x0 : Nat) (x1 : Int32) : Prop := wp_X13_noStorm (fun r1 wS2 => (¬ r1 = 0 → wp_X13_isGone_35 post tS nS rS  wS2) ∧ (r1 = 0 → vp_in x1 (nS (rS (rS x0 1) 8)) ∧ (wp_X13_fails (fun r9 wS10 => (r9 = 0 → wp_X13_isGone_40 post tS nS rS  0 wS10) ∧ (¬ r9 = 0 → wp_X13_isGone_35 post tS nS rS  wS10)) tS nS rS wS2 x0 (wS2 (rS (rS (rS x0 1) 8) x1.toNatClampNeg) 5) 2))) tS nS rS wS x0 x1
set_option maxHeartbeats 4000000 in
set_option maxRecDepth 100000 in
theorem c_X13_isGone (l : Launch) (D : va_G) (tc : Nat → ClassId) (h0 : Nat) (sa : Nat → Nat) (x0 : Nat) (x1 : Int32) {A : Nat → Prop} (H0 : Heap) {tS nS : Nat → Nat} {rS : Nat → Nat → Nat} {wS : Dt} (hB : SB D tc (sa 3) A tS nS rS wS H0) (hkx0 : tS x0 = 7) (hA0 : ∀ q, A q → h0 ≤ q) {post : Int32 → Dt → Prop} (hw : wp_X13_isGone post tS nS rS wS x0 x1) : MB l yX13_isGone cX13_isGone 2 (Option.some FieldType.boolean) rm_X13_isGone A [.ref x0, .int x1] D tc h0 sa H0 (fun u : Int32 × Dt => post u.1 u.2) (fun (u : Int32 × Dt) (H1 : Heap) => SB D tc (sa 3) A tS nS rS u.2 H1) (fun u : Int32 × Dt => some (.int u.1)) := by
  refine MB.of RX13 [(0, .ref x0), (1, .int x1)] (by decide +kernel) rfl (Nat.le_of_ble_eq_true rfl) rfl ?_
  intro p e s m below meth c ls X hr hin hT hH hS hl
  subst hH
  have hx := X.1
  have hb := X.2.1
  have hown := X.2.2.2.1
  have hU := X.2.2.2.2.1.1
  unfold wp_X13_isGone at hw
  refine lv_aload_n hx hb dX13_isGone_0 rfl (lv_at hl 0 rfl) ?_
  refine lv_iload_n hx hb dX13_isGone_1 rfl (lv_at hl 1 rfl) ?_
  refine g_after (st0 := [.int x1, .ref x0]) (rest := []) (g_V X m_X13_175 (c_X13_noStorm l D tc h0 sa x0 x1 _ hB hkx0 hA0 hw) (recv1 X.2.2.2.2.1 rfl (hB.at (k := 7) hkx0 rfl)) hT hS hA0 dX13_isGone_2 hl.1 rfl rfl ⟨Nat.le_of_ble_eq_true rfl, Nat.le_of_ble_eq_true rfl⟩ (Nat.le_of_ble_eq_true rfl) ⟨Nat.le_of_ble_eq_true rfl, Nat.le_of_ble_eq_true rfl⟩) hS (fun _ h => h) (fun u => .int u.1 :: []) (fun _ => rfl) (fun u H locs hw hP9 hz9 hk9 hS => ?_)
  obtain ⟨r1, wS2⟩ := u
  try dsimp only at hw hP9
  have hB := hP9
  refine lv_if_ne (tgt := 35) hx hb dX13_isGone_5 (by decide) (fun c3 => ?_) (fun c3 => ?_)
  · have hw := hw.1 c3
    exact t_X13_isGone_35 X hr hT hA0  wS2 _ _ _ hw hB  hS (lv_sub hl [] rfl)
  · have hw := hw.2 c3
    refine lv_aload_n hx hb dX13_isGone_8 rfl (lv_at hl 0 rfl) ?_
    refine lv_aload_n hx hb dX13_isGone_9 rfl (lv_at hl 0 rfl) ?_
    refine g_get X dX13_isGone_10 f_X13_34 (hB.one (k := 7) hkx0 rfl) 0 (v := .ref (rS x0 1)) rfl rfl ?_
    have k5 : tS (rS x0 1) = 4 := (hB.wtk hkx0).1
    refine g_getN X dX13_isGone_13 f_X13_139 (hB.one (k := 4) k5 rfl) 0 (v := .ref (rS (rS x0 1) 8)) rfl rfl ?_
    have k6 : tS (rS (rS x0 1) 8) = 8 := (hB.wtk k5).2.2.2.2.1
    refine lv_iload_n hx hb dX13_isGone_16 rfl (lv_at hl 1 rfl) ?_
    obtain ⟨fs9, hat9⟩ := hB.lat (isL_of k6)
    obtain ⟨o7, hw⟩ := hw
    refine g_after5 (st0 := [.int x1, .ref (rS (rS x0 1) 8), .ref x0]) (rest := [.ref x0]) (g_F X mf_X13_163 (c_get l D tc h0 sa _ (rS (rS x0 1) 8) hB (isL_of k6) o7) rfl hat9 hT hS hA0 dX13_isGone_17 hl.1 rfl rfl ⟨Nat.le_of_ble_eq_true rfl, Nat.le_of_ble_eq_true rfl⟩ (Nat.le_of_ble_eq_true rfl) ⟨Nat.le_of_ble_eq_true rfl, Nat.le_of_ble_eq_true rfl⟩) hS (fun _ h => h.elim) (fun u => .ref (rS (rS (rS x0 1) 8) x1.toNatClampNeg) :: [.ref x0]) (fun _ => rfl) (fun u H9 locs hu hP9 hz9 hk9 hS => ?_)
    have e9 : H9 = _ := hP9
    rw [e9] at hS ⊢
    have k8 : tS (rS (rS (rS x0 1) 8) x1.toNatClampNeg) = 3 := hB.elt k6 (lt10 o7)
    refine x_cast X w_1435 rfl (hB.at (k := 3) k8 rfl) dX13_isGone_22 ?_
    refine g_getN X dX13_isGone_25 f_X13_167 (hB.one (k := 3) k8 rfl) 0 (v := .int (wS2 (rS (rS (rS x0 1) 8) x1.toNatClampNeg) 5)) rfl rfl ?_
    refine lv_iconst (v := 2) hx hb dX13_isGone_28 (by decide) ?_
    refine g_after (st0 := [.int 2, .int (wS2 (rS (rS (rS x0 1) 8) x1.toNatClampNeg) 5), .ref x0]) (rest := []) (g_V X m_X13_57 (c_X13_fails l D tc h0 sa x0 (wS2 (rS (rS (rS x0 1) 8) x1.toNatClampNeg) 5) 2 _ hB hkx0 hA0 hw) (recv1 X.2.2.2.2.1 rfl (hB.at (k := 7) hkx0 rfl)) hT hS hA0 dX13_isGone_29 hl.1 rfl rfl ⟨Nat.le_of_ble_eq_true rfl, Nat.le_of_ble_eq_true rfl⟩ (Nat.le_of_ble_eq_true rfl) ⟨Nat.le_of_ble_eq_true rfl, Nat.le_of_ble_eq_true rfl⟩) hS (fun _ h => h) (fun u => .int u.1 :: []) (fun _ => rfl) (fun u H locs hw hP9 hz9 hk9 hS => ?_)
    obtain ⟨r9, wS10⟩ := u
    try dsimp only at hw hP9
    have hB := hP9
    refine lv_if_eq (tgt := 39) hx hb dX13_isGone_32 (by decide) (fun c11 => ?_) (fun c11 => ?_)
    · have hw := hw.1 c11
      refine lv_iconst (v := 0) hx hb dX13_isGone_39 (by decide) ?_
      exact t_X13_isGone_40 X hr hT hA0  0 wS10 _ _ _ hw hB  hS (lv_sub hl [] rfl)
    · have hw := hw.2 c11
      exact t_X13_isGone_35 X hr hT hA0  wS10 _ _ _ hw hB  hS (lv_sub hl [] rfl)
abbrev rm_X13_setTemperature : Room := { frames := 2, cells := 0, slots := 0, locals := 46 }
def wp_X13_setTemperature_39 (post : Int32 → Dt → Prop) (tS : Nat → Nat) (nS : Nat → Nat) (rS : Nat → Nat → Nat)  (wS : Dt) : Prop := post (-1) wS
set_option maxHeartbeats 4000000 in
set_option maxRecDepth 100000 in
theorem t_X13_setTemperature_39 : ∀ {p : Program} {l : Launch} {e : Env} {s : State} {m : MethodId} {args : Array Value} {below : List Frame} {meth : Method} {c : Code} {D : va_G} {tc : Nat → ClassId} {h0 : Nat} {sa : Nat → Nat} {A : Nat → Prop} {post : Int32 → Dt → Prop} {tS : Nat → Nat} {nS : Nat → Nat} {rS : Nat → Nat → Nat}  (X : Cx p c s m meth cX13_setTemperature 4 RX13 D tc) (hr : meth.sig.returnType = (Option.some FieldType.int)) (hT : ST h0 sa s s.heap) (hA0 : ∀ q, A q → h0 ≤ q) , ∀ (wS : Dt) (H : Heap) (locs : List Loc) (ls : Array Slot), wp_X13_setTemperature_39 post tS nS rS  wS → SB D tc (sa 3) A tS nS rS wS H → va_S A s.heap H locs → lv_has ls 4 [] → W p l e rm_X13_setTemperature s m args below meth c H locs 0 0 (MQ below (QB (fun u : Int32 × Dt => post u.1 u.2) (fun (u : Int32 × Dt) (H1 : Heap) => SB D tc (sa 3) A tS nS rS u.2 H1) (fun u : Int32 × Dt => some (.int u.1)) A) args s rm_X13_setTemperature.cells rm_X13_setTemperature.slots A) (F0 m 39 ls []) := by
  intro p l e s m args below meth c D tc h0 sa A post tS nS rS  X hr hT hA0   wS H locs ls hw hB  hS hl
  have hx := X.1
  have hb := X.2.1
  have hown := X.2.2.2.1
  have hU := X.2.2.2.2.1.1
  unfold wp_X13_setTemperature_39 at hw
  refine lv_iconst (v := (-1)) hx hb dX13_setTemperature_39 (by decide) ?_
  exact e_i X hr dX13_setTemperature_40 hS ((-1), wS) rfl hw hB ⟨Nat.le_of_ble_eq_true rfl, Nat.le_of_ble_eq_true rfl⟩
def wp_X13_setTemperature_32 (post : Int32 → Dt → Prop) (tS : Nat → Nat) (nS : Nat → Nat) (rS : Nat → Nat → Nat)  (y0 : Nat) (y1 : Int32) (y2 : Int32) (z0 : Int32) (z1 : Nat) (wS : Dt) : Prop := wp_X13_fails (fun r7 wS8 => (r7 = 0 → vp_in y1 10 ∧ (∀ v13 : Int32, v13 = (wS8 (rS (rS y0 1) 0) y1.toNatClampNeg) → (∀ wS16 : Dt, wS16 = up2 wS8 (rS (rS y0 1) 0) y1.toNatClampNeg y2 → (post v13 wS16)))) ∧ (¬ r7 = 0 → wp_X13_setTemperature_39 post tS nS rS  wS8)) tS nS rS wS z1 z0 2
set_option maxHeartbeats 4000000 in
set_option maxRecDepth 100000 in
theorem t_X13_setTemperature_32 : ∀ {p : Program} {l : Launch} {e : Env} {s : State} {m : MethodId} {args : Array Value} {below : List Frame} {meth : Method} {c : Code} {D : va_G} {tc : Nat → ClassId} {h0 : Nat} {sa : Nat → Nat} {A : Nat → Prop} {post : Int32 → Dt → Prop} {tS : Nat → Nat} {nS : Nat → Nat} {rS : Nat → Nat → Nat}  (X : Cx p c s m meth cX13_setTemperature 4 RX13 D tc) (hr : meth.sig.returnType = (Option.some FieldType.int)) (hT : ST h0 sa s s.heap) (hA0 : ∀ q, A q → h0 ≤ q) , ∀ (y0 : Nat) (y1 : Int32) (y2 : Int32) (z0 : Int32) (z1 : Nat) (wS : Dt) (H : Heap) (locs : List Loc) (ls : Array Slot), wp_X13_setTemperature_32 post tS nS rS  y0 y1 y2 z0 z1 wS → SB D tc (sa 3) A tS nS rS wS H → (tS y0 = 7) → (tS z1 = 7) → va_S A s.heap H locs → lv_has ls 4 [(0, .ref y0), (1, .int y1), (2, .int y2)] → W p l e rm_X13_setTemperature s m args below meth c H locs 0 0 (MQ below (QB (fun u : Int32 × Dt => post u.1 u.2) (fun (u : Int32 × Dt) (H1 : Heap) => SB D tc (sa 3) A tS nS rS u.2 H1) (fun u : Int32 × Dt => some (.int u.1)) A) args s rm_X13_setTemperature.cells rm_X13_setTemperature.slots A) (F0 m 32 ls [.int z0, .ref z1]) := by
  intro p l e s m args below meth c D tc h0 sa A post tS nS rS  X hr hT hA0   y0 y1 y2 z0 z1 wS H locs ls hw hB hky0 hkz1 hS hl
  have hx := X.1
  have hb := X.2.1
  have hown := X.2.2.2.1
  have hU := X.2.2.2.2.1.1
  unfold wp_X13_setTemperature_32 at hw
  refine lv_iconst (v := 2) hx hb dX13_setTemperature_32 (by decide) ?_
  refine g_after (st0 := [.int 2, .int z0, .ref z1]) (rest := []) (g_V X m_X13_57 (c_X13_fails l D tc h0 sa z1 z0 2 _ hB hkz1 hA0 hw) (recv1 X.2.2.2.2.1 rfl (hB.at (k := 7) hkz1 rfl)) hT hS hA0 dX13_setTemperature_33 hl.1 rfl rfl ⟨Nat.le_of_ble_eq_true rfl, Nat.le_of_ble_eq_true rfl⟩ (Nat.le_of_ble_eq_true rfl) ⟨Nat.le_of_ble_eq_true rfl, Nat.le_of_ble_eq_true rfl⟩) hS (fun _ h => h) (fun u => .int u.1 :: []) (fun _ => rfl) (fun u H locs hw hP9 hz9 hk9 hS => ?_)
  obtain ⟨r7, wS8⟩ := u
  try dsimp only at hw hP9
  have hB := hP9
  refine lv_if_eq (tgt := 41) hx hb dX13_setTemperature_36 (by decide) (fun c9 => ?_) (fun c9 => ?_)
  · have hw := hw.1 c9
    refine lv_aload_n hx hb dX13_setTemperature_41 rfl (lv_at hl 0 rfl) ?_
    refine g_get X dX13_setTemperature_42 f_X13_34 (hB.one (k := 7) hky0 rfl) 0 (v := .ref (rS y0 1)) rfl rfl ?_
    have k10 : tS (rS y0 1) = 4 := (hB.wtk hky0).1
    refine g_getN X dX13_setTemperature_45 f_X13_51 (hB.one (k := 4) k10 rfl) 0 (v := .ref (rS (rS y0 1) 0)) rfl rfl ?_
    have k11 : tS (rS (rS y0 1) 0) = 1 := (hB.wtk k10).1
    refine lv_iload_n hx hb dX13_setTemperature_48 rfl (lv_at hl 1 rfl) ?_
    obtain ⟨o12, hw⟩ := hw
    refine g_iald X dX13_setTemperature_49 (hB.one (k := 1) k11 rfl) 0 rfl o12 rfl ?_
    refine lv_topi (fun v13 ev13 => ?_)
    have hw := hw v13 ev13
    refine lv_istore_n (lv' := [(3, .int v13), (0, .ref y0), (1, .int y1), (2, .int y2)]) hx hb dX13_setTemperature_50 rfl hl (by decide) rfl (fun ls hl => ?_)
    refine lv_aload_n hx hb dX13_setTemperature_51 rfl (lv_at hl 1 rfl) ?_
    refine g_get X dX13_setTemperature_52 f_X13_34 (hB.one (k := 7) hky0 rfl) 0 (v := .ref (rS y0 1)) rfl rfl ?_
    have k14 : tS (rS y0 1) = 4 := (hB.wtk hky0).1
    refine g_getN X dX13_setTemperature_55 f_X13_51 (hB.one (k := 4) k14 rfl) 0 (v := .ref (rS (rS y0 1) 0)) rfl rfl ?_
    have k15 : tS (rS (rS y0 1) 0) = 1 := (hB.wtk k14).1
    refine lv_iload_n hx hb dX13_setTemperature_58 rfl (lv_at hl 2 rfl) ?_
    refine lv_iload_n hx hb dX13_setTemperature_59 rfl (lv_at hl 3 rfl) ?_
    refine g_iast X dX13_setTemperature_60 (hB.one (k := 1) k15 rfl) hS 0 rfl o12 rfl (fun H locs hb9 oq hS => ?_)
    have hB := hB.putB k15 rfl hb9 oq
    obtain ⟨wS16, ewS16⟩ : ∃ z : Dt, z = up2 wS8 (rS (rS y0 1) 0) y1.toNatClampNeg y2 := ⟨_, rfl⟩
    rw [← ewS16] at hB
    have hw := hw wS16 ewS16
    refine lv_iload_n hx hb dX13_setTemperature_61 rfl (lv_at hl 0 rfl) ?_
    exact e_i X hr dX13_setTemperature_62 hS (v13, wS16) rfl hw hB ⟨Nat.le_of_ble_eq_true rfl, Nat.le_of_ble_eq_true rfl⟩
  · have hw := hw.2 c9
    exact t_X13_setTemperature_39 X hr hT hA0  wS8 _ _ _ hw hB  hS (lv_sub hl [] rfl)
def wp_X13_setTemperature (post : Int32 → Dt → Prop) (tS : Nat → Nat) (nS : Nat → Nat) (rS : Nat → Nat → Nat) (wS : Dt) (x0 : Nat) (x1 : Int32) (x2 : Int32) : Prop := wp_X13_begins (fun wS1 => wp_X13_noLevel (fun r2 wS3 => (¬ r2 = 0 → wp_X13_setTemperature_39 post tS nS rS  wS3) ∧ (r2 = 0 → wp_X13_in (fun r5 => (¬ r5 = 0 → wp_X13_setTemperature_32 post tS nS rS  x0 x1 x2 0 x0 wS3) ∧ (r5 = 0 → wp_X13_setTemperature_32 post tS nS rS  x0 x1 x2 1 x0 wS3)) tS nS rS wS3 x2.toInt64 50 999)) tS nS rS wS1 x0 x1) tS nS rS wS x0
set_option maxHeartbeats 4000000 in
set_option maxRecDepth 100000 in
theorem c_X13_setTemperature (l : Launch) (D : va_G) (tc : Nat → ClassId) (h0 : Nat) (sa : Nat → Nat) (x0 : Nat) (x1 : Int32) (x2 : Int32) {A : Nat → Prop} (H0 : Heap) {tS nS : Nat → Nat} {rS : Nat → Nat → Nat} {wS : Dt} (hB : SB D tc (sa 3) A tS nS rS wS H0) (hkx0 : tS x0 = 7) (hA0 : ∀ q, A q → h0 ≤ q) {post : Int32 → Dt → Prop} (hw : wp_X13_setTemperature post tS nS rS wS x0 x1 x2) : MB l yX13_setTemperature cX13_setTemperature 4 (Option.some FieldType.int) rm_X13_setTemperature A [.ref x0, .int x1, .int x2] D tc h0 sa H0 (fun u : Int32 × Dt => post u.1 u.2) (fun (u : Int32 × Dt) (H1 : Heap) => SB D tc (sa 3) A tS nS rS u.2 H1) (fun u : Int32 × Dt => some (.int u.1)) := by
  refine MB.of RX13 [(0, .ref x0), (1, .int x1), (2, .int x2)] (by decide +kernel) rfl (Nat.le_of_ble_eq_true rfl) rfl ?_
  intro p e s m below meth c ls X hr hin hT hH hS hl
  subst hH
  have hx := X.1
  have hb := X.2.1
  have hown := X.2.2.2.1
  have hU := X.2.2.2.2.1.1
  unfold wp_X13_setTemperature at hw
  refine lv_aload_n hx hb dX13_setTemperature_0 rfl (lv_at hl 0 rfl) ?_
  refine g_after (st0 := [.ref x0]) (rest := []) (g_V X m_X13_61 (c_X13_begins l D tc h0 sa x0 _ hB hkx0 hA0 hw) (recv1 X.2.2.2.2.1 rfl (hB.at (k := 7) hkx0 rfl)) hT hS hA0 dX13_setTemperature_1 hl.1 rfl rfl ⟨Nat.le_of_ble_eq_true rfl, Nat.le_of_ble_eq_true rfl⟩ (Nat.le_of_ble_eq_true rfl) ⟨Nat.le_of_ble_eq_true rfl, Nat.le_of_ble_eq_true rfl⟩) hS (fun _ h => h) (fun u => []) (fun _ => rfl) (fun u H locs hw hP9 hz9 hk9 hS => ?_)
  obtain ⟨wS1, rfl⟩ : ∃ z, z = u := ⟨_, rfl⟩
  try dsimp only at hw hP9
  have hB := hP9
  refine lv_aload_n hx hb dX13_setTemperature_4 rfl (lv_at hl 0 rfl) ?_
  refine lv_iload_n hx hb dX13_setTemperature_5 rfl (lv_at hl 1 rfl) ?_
  refine g_after (st0 := [.int x1, .ref x0]) (rest := []) (g_V X m_X13_64 (c_X13_noLevel l D tc h0 sa x0 x1 _ hB hkx0 hA0 hw) (recv1 X.2.2.2.2.1 rfl (hB.at (k := 7) hkx0 rfl)) hT hS hA0 dX13_setTemperature_6 hl.1 rfl rfl ⟨Nat.le_of_ble_eq_true rfl, Nat.le_of_ble_eq_true rfl⟩ (Nat.le_of_ble_eq_true rfl) ⟨Nat.le_of_ble_eq_true rfl, Nat.le_of_ble_eq_true rfl⟩) hS (fun _ h => h) (fun u => .int u.1 :: []) (fun _ => rfl) (fun u H locs hw hP9 hz9 hk9 hS => ?_)
  obtain ⟨r2, wS3⟩ := u
  try dsimp only at hw hP9
  have hB := hP9
  refine lv_if_ne (tgt := 39) hx hb dX13_setTemperature_9 (by decide) (fun c4 => ?_) (fun c4 => ?_)
  · have hw := hw.1 c4
    exact t_X13_setTemperature_39 X hr hT hA0  wS3 _ _ _ hw hB  hS (lv_sub hl [] rfl)
  · have hw := hw.2 c4
    refine lv_aload_n hx hb dX13_setTemperature_12 rfl (lv_at hl 0 rfl) ?_
    refine lv_iload_n hx hb dX13_setTemperature_13 rfl (lv_at hl 2 rfl) ?_
    refine lv_i2l (v := x2.toInt64) hx hb dX13_setTemperature_14 rfl ?_
    refine lv_ldc2 (v := 50) hx hb hown (hU.use w_1277) dX13_setTemperature_15 ?_
    refine lv_ldc2 (v := 999) hx hb hown (hU.use w_1278) dX13_setTemperature_18 ?_
    refine g_after (st0 := [.long 999, .long 50, .long x2.toInt64, .ref x0]) (rest := [.ref x0]) (g_S X m_X13_13 (c_X13_in l D tc h0 sa x2.toInt64 50 999 _ hB  hw) hT hS hA0 dX13_setTemperature_21 hl.1 rfl rfl ⟨Nat.le_of_ble_eq_true rfl, Nat.le_of_ble_eq_true rfl⟩ (Nat.le_of_ble_eq_true rfl) ⟨Nat.le_of_ble_eq_true rfl, Nat.le_of_ble_eq_true rfl⟩) hS (fun _ h => h.elim) (fun u => .int u :: [.ref x0]) (fun _ => rfl) (fun u H9 locs hw hP9 hz9 hk9 hS => ?_)
    obtain ⟨r5, rfl⟩ : ∃ z, z = u := ⟨_, rfl⟩
    try dsimp only at hw hP9
    have e9 : H9 = _ := hP9
    rw [e9] at hS ⊢
    refine lv_if_ne (tgt := 31) hx hb dX13_setTemperature_24 (by decide) (fun c6 => ?_) (fun c6 => ?_)
    · have hw := hw.1 c6
      refine lv_iconst (v := 0) hx hb dX13_setTemperature_31 (by decide) ?_
      exact t_X13_setTemperature_32 X hr hT hA0  x0 x1 x2 0 x0 wS3 _ _ _ hw hB hkx0 hkx0 hS (lv_sub hl [0, 1, 2] rfl)
    · have hw := hw.2 c6
      refine lv_iconst (v := 1) hx hb dX13_setTemperature_27 (by decide) ?_
      refine lv_goto (tgt := 32) hx hb dX13_setTemperature_28 (by decide) ?_
      exact t_X13_setTemperature_32 X hr hT hA0  x0 x1 x2 1 x0 wS3 _ _ _ hw hB hkx0 hkx0 hS (lv_sub hl [0, 1, 2] rfl)
abbrev rm_X13_getTemperature : Room := { frames := 2, cells := 0, slots := 0, locals := 46 }
def wp_X13_getTemperature_25 (post : Int32 → Dt → Prop) (tS : Nat → Nat) (nS : Nat → Nat) (rS : Nat → Nat → Nat)  (z0 : Int32) (wS : Dt) : Prop := post z0 wS
set_option maxHeartbeats 4000000 in
set_option maxRecDepth 100000 in
theorem t_X13_getTemperature_25 : ∀ {p : Program} {l : Launch} {e : Env} {s : State} {m : MethodId} {args : Array Value} {below : List Frame} {meth : Method} {c : Code} {D : va_G} {tc : Nat → ClassId} {h0 : Nat} {sa : Nat → Nat} {A : Nat → Prop} {post : Int32 → Dt → Prop} {tS : Nat → Nat} {nS : Nat → Nat} {rS : Nat → Nat → Nat}  (X : Cx p c s m meth cX13_getTemperature 2 RX13 D tc) (hr : meth.sig.returnType = (Option.some FieldType.int)) (hT : ST h0 sa s s.heap) (hA0 : ∀ q, A q → h0 ≤ q) , ∀ (z0 : Int32) (wS : Dt) (H : Heap) (locs : List Loc) (ls : Array Slot), wp_X13_getTemperature_25 post tS nS rS  z0 wS → SB D tc (sa 3) A tS nS rS wS H → va_S A s.heap H locs → lv_has ls 2 [] → W p l e rm_X13_getTemperature s m args below meth c H locs 0 0 (MQ below (QB (fun u : Int32 × Dt => post u.1 u.2) (fun (u : Int32 × Dt) (H1 : Heap) => SB D tc (sa 3) A tS nS rS u.2 H1) (fun u : Int32 × Dt => some (.int u.1)) A) args s rm_X13_getTemperature.cells rm_X13_getTemperature.slots A) (F0 m 25 ls [.int z0]) := by
  intro p l e s m args below meth c D tc h0 sa A post tS nS rS  X hr hT hA0   z0 wS H locs ls hw hB  hS hl
  have hx := X.1
  have hb := X.2.1
  have hown := X.2.2.2.1
  have hU := X.2.2.2.2.1.1
  unfold wp_X13_getTemperature_25 at hw
  exact e_i X hr dX13_getTemperature_25 hS (z0, wS) rfl hw hB ⟨Nat.le_of_ble_eq_true rfl, Nat.le_of_ble_eq_true rfl⟩
def wp_X13_getTemperature (post : Int32 → Dt → Prop) (tS : Nat → Nat) (nS : Nat → Nat) (rS : Nat → Nat → Nat) (wS : Dt) (x0 : Nat) (x1 : Int32) : Prop := wp_X13_begins (fun wS1 => wp_X13_noLevel (fun r2 wS3 => (r2 = 0 → vp_in x1 10 ∧ (wp_X13_getTemperature_25 post tS nS rS  (wS3 (rS (rS x0 1) 0) x1.toNatClampNeg) wS3)) ∧ (¬ r2 = 0 → wp_X13_getTemperature_25 post tS nS rS  (-1) wS3)) tS nS rS wS1 x0 x1) tS nS rS wS x0
set_option maxHeartbeats 4000000 in
set_option maxRecDepth 100000 in
theorem c_X13_getTemperature (l : Launch) (D : va_G) (tc : Nat → ClassId) (h0 : Nat) (sa : Nat → Nat) (x0 : Nat) (x1 : Int32) {A : Nat → Prop} (H0 : Heap) {tS nS : Nat → Nat} {rS : Nat → Nat → Nat} {wS : Dt} (hB : SB D tc (sa 3) A tS nS rS wS H0) (hkx0 : tS x0 = 7) (hA0 : ∀ q, A q → h0 ≤ q) {post : Int32 → Dt → Prop} (hw : wp_X13_getTemperature post tS nS rS wS x0 x1) : MB l yX13_getTemperature cX13_getTemperature 2 (Option.some FieldType.int) rm_X13_getTemperature A [.ref x0, .int x1] D tc h0 sa H0 (fun u : Int32 × Dt => post u.1 u.2) (fun (u : Int32 × Dt) (H1 : Heap) => SB D tc (sa 3) A tS nS rS u.2 H1) (fun u : Int32 × Dt => some (.int u.1)) := by
  refine MB.of RX13 [(0, .ref x0), (1, .int x1)] (by decide +kernel) rfl (Nat.le_of_ble_eq_true rfl) rfl ?_
  intro p e s m below meth c ls X hr hin hT hH hS hl
  subst hH
  have hx := X.1
  have hb := X.2.1
  have hown := X.2.2.2.1
  have hU := X.2.2.2.2.1.1
  unfold wp_X13_getTemperature at hw
  refine lv_aload_n hx hb dX13_getTemperature_0 rfl (lv_at hl 0 rfl) ?_
  refine g_after (st0 := [.ref x0]) (rest := []) (g_V X m_X13_61 (c_X13_begins l D tc h0 sa x0 _ hB hkx0 hA0 hw) (recv1 X.2.2.2.2.1 rfl (hB.at (k := 7) hkx0 rfl)) hT hS hA0 dX13_getTemperature_1 hl.1 rfl rfl ⟨Nat.le_of_ble_eq_true rfl, Nat.le_of_ble_eq_true rfl⟩ (Nat.le_of_ble_eq_true rfl) ⟨Nat.le_of_ble_eq_true rfl, Nat.le_of_ble_eq_true rfl⟩) hS (fun _ h => h) (fun u => []) (fun _ => rfl) (fun u H locs hw hP9 hz9 hk9 hS => ?_)
  obtain ⟨wS1, rfl⟩ : ∃ z, z = u := ⟨_, rfl⟩
  try dsimp only at hw hP9
  have hB := hP9
  refine lv_aload_n hx hb dX13_getTemperature_4 rfl (lv_at hl 0 rfl) ?_
  refine lv_iload_n hx hb dX13_getTemperature_5 rfl (lv_at hl 1 rfl) ?_
  refine g_after (st0 := [.int x1, .ref x0]) (rest := []) (g_V X m_X13_64 (c_X13_noLevel l D tc h0 sa x0 x1 _ hB hkx0 hA0 hw) (recv1 X.2.2.2.2.1 rfl (hB.at (k := 7) hkx0 rfl)) hT hS hA0 dX13_getTemperature_6 hl.1 rfl rfl ⟨Nat.le_of_ble_eq_true rfl, Nat.le_of_ble_eq_true rfl⟩ (Nat.le_of_ble_eq_true rfl) ⟨Nat.le_of_ble_eq_true rfl, Nat.le_of_ble_eq_true rfl⟩) hS (fun _ h => h) (fun u => .int u.1 :: []) (fun _ => rfl) (fun u H locs hw hP9 hz9 hk9 hS => ?_)
  obtain ⟨r2, wS3⟩ := u
  try dsimp only at hw hP9
  have hB := hP9
  refine lv_if_eq (tgt := 16) hx hb dX13_getTemperature_9 (by decide) (fun c4 => ?_) (fun c4 => ?_)
  · have hw := hw.1 c4
    refine lv_aload_n hx hb dX13_getTemperature_16 rfl (lv_at hl 0 rfl) ?_
    refine g_get X dX13_getTemperature_17 f_X13_34 (hB.one (k := 7) hkx0 rfl) 0 (v := .ref (rS x0 1)) rfl rfl ?_
    have k5 : tS (rS x0 1) = 4 := (hB.wtk hkx0).1
    refine g_getN X dX13_getTemperature_20 f_X13_51 (hB.one (k := 4) k5 rfl) 0 (v := .ref (rS (rS x0 1) 0)) rfl rfl ?_
    have k6 : tS (rS (rS x0 1) 0) = 1 := (hB.wtk k5).1
    refine lv_iload_n hx hb dX13_getTemperature_23 rfl (lv_at hl 1 rfl) ?_
    obtain ⟨o7, hw⟩ := hw
    refine g_iald X dX13_getTemperature_24 (hB.one (k := 1) k6 rfl) 0 rfl o7 rfl ?_
    exact t_X13_getTemperature_25 X hr hT hA0  (wS3 (rS (rS x0 1) 0) x1.toNatClampNeg) wS3 _ _ _ hw hB  hS (lv_sub hl [] rfl)
  · have hw := hw.2 c4
    refine lv_iconst (v := (-1)) hx hb dX13_getTemperature_12 (by decide) ?_
    refine lv_goto (tgt := 25) hx hb dX13_getTemperature_13 (by decide) ?_
    exact t_X13_getTemperature_25 X hr hT hA0  (-1) wS3 _ _ _ hw hB  hS (lv_sub hl [] rfl)
abbrev rm_X13_setVapour : Room := { frames := 2, cells := 0, slots := 0, locals := 47 }
def wp_X13_setVapour_38 (post : Int32 → Dt → Prop) (tS : Nat → Nat) (nS : Nat → Nat) (rS : Nat → Nat → Nat)  (wS : Dt) : Prop := post (-1) wS
set_option maxHeartbeats 4000000 in
set_option maxRecDepth 100000 in
theorem t_X13_setVapour_38 : ∀ {p : Program} {l : Launch} {e : Env} {s : State} {m : MethodId} {args : Array Value} {below : List Frame} {meth : Method} {c : Code} {D : va_G} {tc : Nat → ClassId} {h0 : Nat} {sa : Nat → Nat} {A : Nat → Prop} {post : Int32 → Dt → Prop} {tS : Nat → Nat} {nS : Nat → Nat} {rS : Nat → Nat → Nat}  (X : Cx p c s m meth cX13_setVapour 5 RX13 D tc) (hr : meth.sig.returnType = (Option.some FieldType.int)) (hT : ST h0 sa s s.heap) (hA0 : ∀ q, A q → h0 ≤ q) , ∀ (wS : Dt) (H : Heap) (locs : List Loc) (ls : Array Slot), wp_X13_setVapour_38 post tS nS rS  wS → SB D tc (sa 3) A tS nS rS wS H → va_S A s.heap H locs → lv_has ls 5 [] → W p l e rm_X13_setVapour s m args below meth c H locs 0 0 (MQ below (QB (fun u : Int32 × Dt => post u.1 u.2) (fun (u : Int32 × Dt) (H1 : Heap) => SB D tc (sa 3) A tS nS rS u.2 H1) (fun u : Int32 × Dt => some (.int u.1)) A) args s rm_X13_setVapour.cells rm_X13_setVapour.slots A) (F0 m 38 ls []) := by
  intro p l e s m args below meth c D tc h0 sa A post tS nS rS  X hr hT hA0   wS H locs ls hw hB  hS hl
  have hx := X.1
  have hb := X.2.1
  have hown := X.2.2.2.1
  have hU := X.2.2.2.2.1.1
  unfold wp_X13_setVapour_38 at hw
  refine lv_iconst (v := (-1)) hx hb dX13_setVapour_38 (by decide) ?_
  exact e_i X hr dX13_setVapour_39 hS ((-1), wS) rfl hw hB ⟨Nat.le_of_ble_eq_true rfl, Nat.le_of_ble_eq_true rfl⟩
def wp_X13_setVapour_31 (post : Int32 → Dt → Prop) (tS : Nat → Nat) (nS : Nat → Nat) (rS : Nat → Nat → Nat)  (y0 : Nat) (y1 : Int32) (y2 : Int32) (y3 : Int32) (z0 : Int32) (z1 : Nat) (wS : Dt) : Prop := wp_X13_fails (fun r7 wS8 => (r7 = 0 → vp_in y1 10 ∧ (vp_in y2 3 ∧ (∀ v15 : Int32, v15 = (wS8 (rS (rS (rS y0 1) 1) y1.toNatClampNeg) y2.toNatClampNeg) → (∀ wS19 : Dt, wS19 = up2 wS8 (rS (rS (rS y0 1) 1) y1.toNatClampNeg) y2.toNatClampNeg y3 → (post v15 wS19))))) ∧ (¬ r7 = 0 → wp_X13_setVapour_38 post tS nS rS  wS8)) tS nS rS wS z1 z0 2
set_option maxHeartbeats 4000000 in
set_option maxRecDepth 100000 in
theorem t_X13_setVapour_31 : ∀ {p : Program} {l : Launch} {e : Env} {s : State} {m : MethodId} {args : Array Value} {below : List Frame} {meth : Method} {c : Code} {D : va_G} {tc : Nat → ClassId} {h0 : Nat} {sa : Nat → Nat} {A : Nat → Prop} {post : Int32 → Dt → Prop} {tS : Nat → Nat} {nS : Nat → Nat} {rS : Nat → Nat → Nat}  (X : Cx p c s m meth cX13_setVapour 5 RX13 D tc) (hr : meth.sig.returnType = (Option.some FieldType.int)) (hT : ST h0 sa s s.heap) (hA0 : ∀ q, A q → h0 ≤ q) , ∀ (y0 : Nat) (y1 : Int32) (y2 : Int32) (y3 : Int32) (z0 : Int32) (z1 : Nat) (wS : Dt) (H : Heap) (locs : List Loc) (ls : Array Slot), wp_X13_setVapour_31 post tS nS rS  y0 y1 y2 y3 z0 z1 wS → SB D tc (sa 3) A tS nS rS wS H → (tS y0 = 7) → (tS z1 = 7) → va_S A s.heap H locs → lv_has ls 5 [(0, .ref y0), (1, .int y1), (2, .int y2), (3, .int y3)] → W p l e rm_X13_setVapour s m args below meth c H locs 0 0 (MQ below (QB (fun u : Int32 × Dt => post u.1 u.2) (fun (u : Int32 × Dt) (H1 : Heap) => SB D tc (sa 3) A tS nS rS u.2 H1) (fun u : Int32 × Dt => some (.int u.1)) A) args s rm_X13_setVapour.cells rm_X13_setVapour.slots A) (F0 m 31 ls [.int z0, .ref z1]) := by
  intro p l e s m args below meth c D tc h0 sa A post tS nS rS  X hr hT hA0   y0 y1 y2 y3 z0 z1 wS H locs ls hw hB hky0 hkz1 hS hl
  have hx := X.1
  have hb := X.2.1
  have hown := X.2.2.2.1
  have hU := X.2.2.2.2.1.1
  unfold wp_X13_setVapour_31 at hw
  refine lv_iconst (v := 2) hx hb dX13_setVapour_31 (by decide) ?_
  refine g_after (st0 := [.int 2, .int z0, .ref z1]) (rest := []) (g_V X m_X13_57 (c_X13_fails l D tc h0 sa z1 z0 2 _ hB hkz1 hA0 hw) (recv1 X.2.2.2.2.1 rfl (hB.at (k := 7) hkz1 rfl)) hT hS hA0 dX13_setVapour_32 hl.1 rfl rfl ⟨Nat.le_of_ble_eq_true rfl, Nat.le_of_ble_eq_true rfl⟩ (Nat.le_of_ble_eq_true rfl) ⟨Nat.le_of_ble_eq_true rfl, Nat.le_of_ble_eq_true rfl⟩) hS (fun _ h => h) (fun u => .int u.1 :: []) (fun _ => rfl) (fun u H locs hw hP9 hz9 hk9 hS => ?_)
  obtain ⟨r7, wS8⟩ := u
  try dsimp only at hw hP9
  have hB := hP9
  refine lv_if_eq (tgt := 40) hx hb dX13_setVapour_35 (by decide) (fun c9 => ?_) (fun c9 => ?_)
  · have hw := hw.1 c9
    refine lv_aload_n hx hb dX13_setVapour_40 rfl (lv_at hl 0 rfl) ?_
    refine g_get X dX13_setVapour_41 f_X13_34 (hB.one (k := 7) hky0 rfl) 0 (v := .ref (rS y0 1)) rfl rfl ?_
    have k10 : tS (rS y0 1) = 4 := (hB.wtk hky0).1
    refine g_getN X dX13_setVapour_44 f_X13_80 (hB.one (k := 4) k10 rfl) 0 (v := .ref (rS (rS y0 1) 1)) rfl rfl ?_
    have k11 : tS (rS (rS y0 1) 1) = 2 := (hB.wtk k10).2.1
    refine lv_iload_n hx hb dX13_setVapour_47 rfl (lv_at hl 1 rfl) ?_
    obtain ⟨o12, hw⟩ := hw
    refine g_aaldA X dX13_setVapour_48 (hB.one (k := 2) k11 rfl) 0 rfl o12 (v := .ref (rS (rS (rS y0 1) 1) y1.toNatClampNeg)) (row_at (lt10 o12)) ?_
    have k13 : tS (rS (rS (rS y0 1) 1) y1.toNatClampNeg) = 23 := (hB.wtk k11) _ (lt10 o12)
    refine lv_iload_n hx hb dX13_setVapour_49 rfl (lv_at hl 2 rfl) ?_
    obtain ⟨o14, hw⟩ := hw
    refine g_iald X dX13_setVapour_50 (hB.one (k := 23) k13 rfl) 0 rfl o14 rfl ?_
    refine lv_topi (fun v15 ev15 => ?_)
    have hw := hw v15 ev15
    refine lv_istore (lv' := [(4, .int v15), (0, .ref y0), (1, .int y1), (2, .int y2), (3, .int y3)]) hx hb dX13_setVapour_51 hl (by decide) rfl (fun ls hl => ?_)
    refine lv_aload_n hx hb dX13_setVapour_53 rfl (lv_at hl 1 rfl) ?_
    refine g_get X dX13_setVapour_54 f_X13_34 (hB.one (k := 7) hky0 rfl) 0 (v := .ref (rS y0 1)) rfl rfl ?_
    have k16 : tS (rS y0 1) = 4 := (hB.wtk hky0).1
    refine g_getN X dX13_setVapour_57 f_X13_80 (hB.one (k := 4) k16 rfl) 0 (v := .ref (rS (rS y0 1) 1)) rfl rfl ?_
    have k17 : tS (rS (rS y0 1) 1) = 2 := (hB.wtk k16).2.1
    refine lv_iload_n hx hb dX13_setVapour_60 rfl (lv_at hl 2 rfl) ?_
    refine g_aaldA X dX13_setVapour_61 (hB.one (k := 2) k17 rfl) 0 rfl o12 (v := .ref (rS (rS (rS y0 1) 1) y1.toNatClampNeg)) (row_at (lt10 o12)) ?_
    have k18 : tS (rS (rS (rS y0 1) 1) y1.toNatClampNeg) = 23 := (hB.wtk k17) _ (lt10 o12)
    refine lv_iload_n hx hb dX13_setVapour_62 rfl (lv_at hl 3 rfl) ?_
    refine lv_iload_n hx hb dX13_setVapour_63 rfl (lv_at hl 4 rfl) ?_
    refine g_iast X dX13_setVapour_64 (hB.one (k := 23) k18 rfl) hS 0 rfl o14 rfl (fun H locs hb9 oq hS => ?_)
    have hB := hB.putB k18 rfl hb9 oq
    obtain ⟨wS19, ewS19⟩ : ∃ z : Dt, z = up2 wS8 (rS (rS (rS y0 1) 1) y1.toNatClampNeg) y2.toNatClampNeg y3 := ⟨_, rfl⟩
    rw [← ewS19] at hB
    have hw := hw wS19 ewS19
    refine lv_iload hx hb dX13_setVapour_65 (lv_at hl 0 rfl) ?_
    exact e_i X hr dX13_setVapour_67 hS (v15, wS19) rfl hw hB ⟨Nat.le_of_ble_eq_true rfl, Nat.le_of_ble_eq_true rfl⟩
  · have hw := hw.2 c9
    exact t_X13_setVapour_38 X hr hT hA0  wS8 _ _ _ hw hB  hS (lv_sub hl [] rfl)
def wp_X13_setVapour (post : Int32 → Dt → Prop) (tS : Nat → Nat) (nS : Nat → Nat) (rS : Nat → Nat → Nat) (wS : Dt) (x0 : Nat) (x1 : Int32) (x2 : Int32) (x3 : Int32) : Prop := wp_X13_begins (fun wS1 => wp_X13_noVapour (fun r2 wS3 => (¬ r2 = 0 → wp_X13_setVapour_38 post tS nS rS  wS3) ∧ (r2 = 0 → wp_X13_in (fun r5 => (¬ r5 = 0 → wp_X13_setVapour_31 post tS nS rS  x0 x1 x2 x3 0 x0 wS3) ∧ (r5 = 0 → wp_X13_setVapour_31 post tS nS rS  x0 x1 x2 x3 1 x0 wS3)) tS nS rS wS3 x3.toInt64 0 20000)) tS nS rS wS1 x0 x1 x2) tS nS rS wS x0
set_option maxHeartbeats 4000000 in
set_option maxRecDepth 100000 in
theorem c_X13_setVapour (l : Launch) (D : va_G) (tc : Nat → ClassId) (h0 : Nat) (sa : Nat → Nat) (x0 : Nat) (x1 : Int32) (x2 : Int32) (x3 : Int32) {A : Nat → Prop} (H0 : Heap) {tS nS : Nat → Nat} {rS : Nat → Nat → Nat} {wS : Dt} (hB : SB D tc (sa 3) A tS nS rS wS H0) (hkx0 : tS x0 = 7) (hA0 : ∀ q, A q → h0 ≤ q) {post : Int32 → Dt → Prop} (hw : wp_X13_setVapour post tS nS rS wS x0 x1 x2 x3) : MB l yX13_setVapour cX13_setVapour 5 (Option.some FieldType.int) rm_X13_setVapour A [.ref x0, .int x1, .int x2, .int x3] D tc h0 sa H0 (fun u : Int32 × Dt => post u.1 u.2) (fun (u : Int32 × Dt) (H1 : Heap) => SB D tc (sa 3) A tS nS rS u.2 H1) (fun u : Int32 × Dt => some (.int u.1)) := by
  refine MB.of RX13 [(0, .ref x0), (1, .int x1), (2, .int x2), (3, .int x3)] (by decide +kernel) rfl (Nat.le_of_ble_eq_true rfl) rfl ?_
  intro p e s m below meth c ls X hr hin hT hH hS hl
  subst hH
  have hx := X.1
  have hb := X.2.1
  have hown := X.2.2.2.1
  have hU := X.2.2.2.2.1.1
  unfold wp_X13_setVapour at hw
  refine lv_aload_n hx hb dX13_setVapour_0 rfl (lv_at hl 0 rfl) ?_
  refine g_after (st0 := [.ref x0]) (rest := []) (g_V X m_X13_61 (c_X13_begins l D tc h0 sa x0 _ hB hkx0 hA0 hw) (recv1 X.2.2.2.2.1 rfl (hB.at (k := 7) hkx0 rfl)) hT hS hA0 dX13_setVapour_1 hl.1 rfl rfl ⟨Nat.le_of_ble_eq_true rfl, Nat.le_of_ble_eq_true rfl⟩ (Nat.le_of_ble_eq_true rfl) ⟨Nat.le_of_ble_eq_true rfl, Nat.le_of_ble_eq_true rfl⟩) hS (fun _ h => h) (fun u => []) (fun _ => rfl) (fun u H locs hw hP9 hz9 hk9 hS => ?_)
  obtain ⟨wS1, rfl⟩ : ∃ z, z = u := ⟨_, rfl⟩
  try dsimp only at hw hP9
  have hB := hP9
  refine lv_aload_n hx hb dX13_setVapour_4 rfl (lv_at hl 0 rfl) ?_
  refine lv_iload_n hx hb dX13_setVapour_5 rfl (lv_at hl 1 rfl) ?_
  refine lv_iload_n hx hb dX13_setVapour_6 rfl (lv_at hl 2 rfl) ?_
  refine g_after (st0 := [.int x2, .int x1, .ref x0]) (rest := []) (g_V X m_X13_74 (c_X13_noVapour l D tc h0 sa x0 x1 x2 _ hB hkx0 hA0 hw) (recv1 X.2.2.2.2.1 rfl (hB.at (k := 7) hkx0 rfl)) hT hS hA0 dX13_setVapour_7 hl.1 rfl rfl ⟨Nat.le_of_ble_eq_true rfl, Nat.le_of_ble_eq_true rfl⟩ (Nat.le_of_ble_eq_true rfl) ⟨Nat.le_of_ble_eq_true rfl, Nat.le_of_ble_eq_true rfl⟩) hS (fun _ h => h) (fun u => .int u.1 :: []) (fun _ => rfl) (fun u H locs hw hP9 hz9 hk9 hS => ?_)
  obtain ⟨r2, wS3⟩ := u
  try dsimp only at hw hP9
  have hB := hP9
  refine lv_if_ne (tgt := 38) hx hb dX13_setVapour_10 (by decide) (fun c4 => ?_) (fun c4 => ?_)
  · have hw := hw.1 c4
    exact t_X13_setVapour_38 X hr hT hA0  wS3 _ _ _ hw hB  hS (lv_sub hl [] rfl)
  · have hw := hw.2 c4
    refine lv_aload_n hx hb dX13_setVapour_13 rfl (lv_at hl 0 rfl) ?_
    refine lv_iload_n hx hb dX13_setVapour_14 rfl (lv_at hl 3 rfl) ?_
    refine lv_i2l (v := x3.toInt64) hx hb dX13_setVapour_15 rfl ?_
    refine lv_lconst (v := 0) hx hb dX13_setVapour_16 (by decide) ?_
    refine lv_ldc2 (v := 20000) hx hb hown (hU.use w_1292) dX13_setVapour_17 ?_
    refine g_after (st0 := [.long 20000, .long 0, .long x3.toInt64, .ref x0]) (rest := [.ref x0]) (g_S X m_X13_13 (c_X13_in l D tc h0 sa x3.toInt64 0 20000 _ hB  hw) hT hS hA0 dX13_setVapour_20 hl.1 rfl rfl ⟨Nat.le_of_ble_eq_true rfl, Nat.le_of_ble_eq_true rfl⟩ (Nat.le_of_ble_eq_true rfl) ⟨Nat.le_of_ble_eq_true rfl, Nat.le_of_ble_eq_true rfl⟩) hS (fun _ h => h.elim) (fun u => .int u :: [.ref x0]) (fun _ => rfl) (fun u H9 locs hw hP9 hz9 hk9 hS => ?_)
    obtain ⟨r5, rfl⟩ : ∃ z, z = u := ⟨_, rfl⟩
    try dsimp only at hw hP9
    have e9 : H9 = _ := hP9
    rw [e9] at hS ⊢
    refine lv_if_ne (tgt := 30) hx hb dX13_setVapour_23 (by decide) (fun c6 => ?_) (fun c6 => ?_)
    · have hw := hw.1 c6
      refine lv_iconst (v := 0) hx hb dX13_setVapour_30 (by decide) ?_
      exact t_X13_setVapour_31 X hr hT hA0  x0 x1 x2 x3 0 x0 wS3 _ _ _ hw hB hkx0 hkx0 hS (lv_sub hl [0, 1, 2, 3] rfl)
    · have hw := hw.2 c6
      refine lv_iconst (v := 1) hx hb dX13_setVapour_26 (by decide) ?_
      refine lv_goto (tgt := 31) hx hb dX13_setVapour_27 (by decide) ?_
      exact t_X13_setVapour_31 X hr hT hA0  x0 x1 x2 x3 1 x0 wS3 _ _ _ hw hB hkx0 hkx0 hS (lv_sub hl [0, 1, 2, 3] rfl)
abbrev rm_X13_getVapour : Room := { frames := 2, cells := 0, slots := 0, locals := 47 }
def wp_X13_getVapour_28 (post : Int32 → Dt → Prop) (tS : Nat → Nat) (nS : Nat → Nat) (rS : Nat → Nat → Nat)  (z0 : Int32) (wS : Dt) : Prop := post z0 wS
set_option maxHeartbeats 4000000 in
set_option maxRecDepth 100000 in
theorem t_X13_getVapour_28 : ∀ {p : Program} {l : Launch} {e : Env} {s : State} {m : MethodId} {args : Array Value} {below : List Frame} {meth : Method} {c : Code} {D : va_G} {tc : Nat → ClassId} {h0 : Nat} {sa : Nat → Nat} {A : Nat → Prop} {post : Int32 → Dt → Prop} {tS : Nat → Nat} {nS : Nat → Nat} {rS : Nat → Nat → Nat}  (X : Cx p c s m meth cX13_getVapour 3 RX13 D tc) (hr : meth.sig.returnType = (Option.some FieldType.int)) (hT : ST h0 sa s s.heap) (hA0 : ∀ q, A q → h0 ≤ q) , ∀ (z0 : Int32) (wS : Dt) (H : Heap) (locs : List Loc) (ls : Array Slot), wp_X13_getVapour_28 post tS nS rS  z0 wS → SB D tc (sa 3) A tS nS rS wS H → va_S A s.heap H locs → lv_has ls 3 [] → W p l e rm_X13_getVapour s m args below meth c H locs 0 0 (MQ below (QB (fun u : Int32 × Dt => post u.1 u.2) (fun (u : Int32 × Dt) (H1 : Heap) => SB D tc (sa 3) A tS nS rS u.2 H1) (fun u : Int32 × Dt => some (.int u.1)) A) args s rm_X13_getVapour.cells rm_X13_getVapour.slots A) (F0 m 28 ls [.int z0]) := by
  intro p l e s m args below meth c D tc h0 sa A post tS nS rS  X hr hT hA0   z0 wS H locs ls hw hB  hS hl
  have hx := X.1
  have hb := X.2.1
  have hown := X.2.2.2.1
  have hU := X.2.2.2.2.1.1
  unfold wp_X13_getVapour_28 at hw
  exact e_i X hr dX13_getVapour_28 hS (z0, wS) rfl hw hB ⟨Nat.le_of_ble_eq_true rfl, Nat.le_of_ble_eq_true rfl⟩
def wp_X13_getVapour (post : Int32 → Dt → Prop) (tS : Nat → Nat) (nS : Nat → Nat) (rS : Nat → Nat → Nat) (wS : Dt) (x0 : Nat) (x1 : Int32) (x2 : Int32) : Prop := wp_X13_begins (fun wS1 => wp_X13_noVapour (fun r2 wS3 => (r2 = 0 → vp_in x1 10 ∧ (vp_in x2 3 ∧ (wp_X13_getVapour_28 post tS nS rS  (wS3 (rS (rS (rS x0 1) 1) x1.toNatClampNeg) x2.toNatClampNeg) wS3))) ∧ (¬ r2 = 0 → wp_X13_getVapour_28 post tS nS rS  (-1) wS3)) tS nS rS wS1 x0 x1 x2) tS nS rS wS x0
set_option maxHeartbeats 4000000 in
set_option maxRecDepth 100000 in
theorem c_X13_getVapour (l : Launch) (D : va_G) (tc : Nat → ClassId) (h0 : Nat) (sa : Nat → Nat) (x0 : Nat) (x1 : Int32) (x2 : Int32) {A : Nat → Prop} (H0 : Heap) {tS nS : Nat → Nat} {rS : Nat → Nat → Nat} {wS : Dt} (hB : SB D tc (sa 3) A tS nS rS wS H0) (hkx0 : tS x0 = 7) (hA0 : ∀ q, A q → h0 ≤ q) {post : Int32 → Dt → Prop} (hw : wp_X13_getVapour post tS nS rS wS x0 x1 x2) : MB l yX13_getVapour cX13_getVapour 3 (Option.some FieldType.int) rm_X13_getVapour A [.ref x0, .int x1, .int x2] D tc h0 sa H0 (fun u : Int32 × Dt => post u.1 u.2) (fun (u : Int32 × Dt) (H1 : Heap) => SB D tc (sa 3) A tS nS rS u.2 H1) (fun u : Int32 × Dt => some (.int u.1)) := by
  refine MB.of RX13 [(0, .ref x0), (1, .int x1), (2, .int x2)] (by decide +kernel) rfl (Nat.le_of_ble_eq_true rfl) rfl ?_
  intro p e s m below meth c ls X hr hin hT hH hS hl
  subst hH
  have hx := X.1
  have hb := X.2.1
  have hown := X.2.2.2.1
  have hU := X.2.2.2.2.1.1
  unfold wp_X13_getVapour at hw
  refine lv_aload_n hx hb dX13_getVapour_0 rfl (lv_at hl 0 rfl) ?_
  refine g_after (st0 := [.ref x0]) (rest := []) (g_V X m_X13_61 (c_X13_begins l D tc h0 sa x0 _ hB hkx0 hA0 hw) (recv1 X.2.2.2.2.1 rfl (hB.at (k := 7) hkx0 rfl)) hT hS hA0 dX13_getVapour_1 hl.1 rfl rfl ⟨Nat.le_of_ble_eq_true rfl, Nat.le_of_ble_eq_true rfl⟩ (Nat.le_of_ble_eq_true rfl) ⟨Nat.le_of_ble_eq_true rfl, Nat.le_of_ble_eq_true rfl⟩) hS (fun _ h => h) (fun u => []) (fun _ => rfl) (fun u H locs hw hP9 hz9 hk9 hS => ?_)
  obtain ⟨wS1, rfl⟩ : ∃ z, z = u := ⟨_, rfl⟩
  try dsimp only at hw hP9
  have hB := hP9
  refine lv_aload_n hx hb dX13_getVapour_4 rfl (lv_at hl 0 rfl) ?_
  refine lv_iload_n hx hb dX13_getVapour_5 rfl (lv_at hl 1 rfl) ?_
  refine lv_iload_n hx hb dX13_getVapour_6 rfl (lv_at hl 2 rfl) ?_
  refine g_after (st0 := [.int x2, .int x1, .ref x0]) (rest := []) (g_V X m_X13_74 (c_X13_noVapour l D tc h0 sa x0 x1 x2 _ hB hkx0 hA0 hw) (recv1 X.2.2.2.2.1 rfl (hB.at (k := 7) hkx0 rfl)) hT hS hA0 dX13_getVapour_7 hl.1 rfl rfl ⟨Nat.le_of_ble_eq_true rfl, Nat.le_of_ble_eq_true rfl⟩ (Nat.le_of_ble_eq_true rfl) ⟨Nat.le_of_ble_eq_true rfl, Nat.le_of_ble_eq_true rfl⟩) hS (fun _ h => h) (fun u => .int u.1 :: []) (fun _ => rfl) (fun u H locs hw hP9 hz9 hk9 hS => ?_)
  obtain ⟨r2, wS3⟩ := u
  try dsimp only at hw hP9
  have hB := hP9
  refine lv_if_eq (tgt := 17) hx hb dX13_getVapour_10 (by decide) (fun c4 => ?_) (fun c4 => ?_)
  · have hw := hw.1 c4
    refine lv_aload_n hx hb dX13_getVapour_17 rfl (lv_at hl 0 rfl) ?_
    refine g_get X dX13_getVapour_18 f_X13_34 (hB.one (k := 7) hkx0 rfl) 0 (v := .ref (rS x0 1)) rfl rfl ?_
    have k5 : tS (rS x0 1) = 4 := (hB.wtk hkx0).1
    refine g_getN X dX13_getVapour_21 f_X13_80 (hB.one (k := 4) k5 rfl) 0 (v := .ref (rS (rS x0 1) 1)) rfl rfl ?_
    have k6 : tS (rS (rS x0 1) 1) = 2 := (hB.wtk k5).2.1
    refine lv_iload_n hx hb dX13_getVapour_24 rfl (lv_at hl 1 rfl) ?_
    obtain ⟨o7, hw⟩ := hw
    refine g_aaldA X dX13_getVapour_25 (hB.one (k := 2) k6 rfl) 0 rfl o7 (v := .ref (rS (rS (rS x0 1) 1) x1.toNatClampNeg)) (row_at (lt10 o7)) ?_
    have k8 : tS (rS (rS (rS x0 1) 1) x1.toNatClampNeg) = 23 := (hB.wtk k6) _ (lt10 o7)
    refine lv_iload_n hx hb dX13_getVapour_26 rfl (lv_at hl 2 rfl) ?_
    obtain ⟨o9, hw⟩ := hw
    refine g_iald X dX13_getVapour_27 (hB.one (k := 23) k8 rfl) 0 rfl o9 rfl ?_
    exact t_X13_getVapour_28 X hr hT hA0  (wS3 (rS (rS (rS x0 1) 1) x1.toNatClampNeg) x2.toNatClampNeg) wS3 _ _ _ hw hB  hS (lv_sub hl [] rfl)
  · have hw := hw.2 c4
    refine lv_iconst (v := (-1)) hx hb dX13_getVapour_13 (by decide) ?_
    refine lv_goto (tgt := 28) hx hb dX13_getVapour_14 (by decide) ?_
    exact t_X13_getVapour_28 X hr hT hA0  (-1) wS3 _ _ _ hw hB  hS (lv_sub hl [] rfl)
abbrev rm_X13_getIce : Room := { frames := 2, cells := 0, slots := 0, locals := 47 }
def wp_X13_getIce_28 (post : Int32 → Dt → Prop) (tS : Nat → Nat) (nS : Nat → Nat) (rS : Nat → Nat → Nat)  (z0 : Int32) (wS : Dt) : Prop := post z0 wS
set_option maxHeartbeats 4000000 in
set_option maxRecDepth 100000 in
theorem t_X13_getIce_28 : ∀ {p : Program} {l : Launch} {e : Env} {s : State} {m : MethodId} {args : Array Value} {below : List Frame} {meth : Method} {c : Code} {D : va_G} {tc : Nat → ClassId} {h0 : Nat} {sa : Nat → Nat} {A : Nat → Prop} {post : Int32 → Dt → Prop} {tS : Nat → Nat} {nS : Nat → Nat} {rS : Nat → Nat → Nat}  (X : Cx p c s m meth cX13_getIce 3 RX13 D tc) (hr : meth.sig.returnType = (Option.some FieldType.int)) (hT : ST h0 sa s s.heap) (hA0 : ∀ q, A q → h0 ≤ q) , ∀ (z0 : Int32) (wS : Dt) (H : Heap) (locs : List Loc) (ls : Array Slot), wp_X13_getIce_28 post tS nS rS  z0 wS → SB D tc (sa 3) A tS nS rS wS H → va_S A s.heap H locs → lv_has ls 3 [] → W p l e rm_X13_getIce s m args below meth c H locs 0 0 (MQ below (QB (fun u : Int32 × Dt => post u.1 u.2) (fun (u : Int32 × Dt) (H1 : Heap) => SB D tc (sa 3) A tS nS rS u.2 H1) (fun u : Int32 × Dt => some (.int u.1)) A) args s rm_X13_getIce.cells rm_X13_getIce.slots A) (F0 m 28 ls [.int z0]) := by
  intro p l e s m args below meth c D tc h0 sa A post tS nS rS  X hr hT hA0   z0 wS H locs ls hw hB  hS hl
  have hx := X.1
  have hb := X.2.1
  have hown := X.2.2.2.1
  have hU := X.2.2.2.2.1.1
  unfold wp_X13_getIce_28 at hw
  exact e_i X hr dX13_getIce_28 hS (z0, wS) rfl hw hB ⟨Nat.le_of_ble_eq_true rfl, Nat.le_of_ble_eq_true rfl⟩
def wp_X13_getIce (post : Int32 → Dt → Prop) (tS : Nat → Nat) (nS : Nat → Nat) (rS : Nat → Nat → Nat) (wS : Dt) (x0 : Nat) (x1 : Int32) (x2 : Int32) : Prop := wp_X13_begins (fun wS1 => wp_X13_noVapour (fun r2 wS3 => (r2 = 0 → vp_in x1 10 ∧ (vp_in x2 3 ∧ (wp_X13_getIce_28 post tS nS rS  (wS3 (rS (rS (rS x0 1) 2) x1.toNatClampNeg) x2.toNatClampNeg) wS3))) ∧ (¬ r2 = 0 → wp_X13_getIce_28 post tS nS rS  (-1) wS3)) tS nS rS wS1 x0 x1 x2) tS nS rS wS x0
set_option maxHeartbeats 4000000 in
set_option maxRecDepth 100000 in
theorem c_X13_getIce (l : Launch) (D : va_G) (tc : Nat → ClassId) (h0 : Nat) (sa : Nat → Nat) (x0 : Nat) (x1 : Int32) (x2 : Int32) {A : Nat → Prop} (H0 : Heap) {tS nS : Nat → Nat} {rS : Nat → Nat → Nat} {wS : Dt} (hB : SB D tc (sa 3) A tS nS rS wS H0) (hkx0 : tS x0 = 7) (hA0 : ∀ q, A q → h0 ≤ q) {post : Int32 → Dt → Prop} (hw : wp_X13_getIce post tS nS rS wS x0 x1 x2) : MB l yX13_getIce cX13_getIce 3 (Option.some FieldType.int) rm_X13_getIce A [.ref x0, .int x1, .int x2] D tc h0 sa H0 (fun u : Int32 × Dt => post u.1 u.2) (fun (u : Int32 × Dt) (H1 : Heap) => SB D tc (sa 3) A tS nS rS u.2 H1) (fun u : Int32 × Dt => some (.int u.1)) := by
  refine MB.of RX13 [(0, .ref x0), (1, .int x1), (2, .int x2)] (by decide +kernel) rfl (Nat.le_of_ble_eq_true rfl) rfl ?_
  intro p e s m below meth c ls X hr hin hT hH hS hl
  subst hH
  have hx := X.1
  have hb := X.2.1
  have hown := X.2.2.2.1
  have hU := X.2.2.2.2.1.1
  unfold wp_X13_getIce at hw
  refine lv_aload_n hx hb dX13_getIce_0 rfl (lv_at hl 0 rfl) ?_
  refine g_after (st0 := [.ref x0]) (rest := []) (g_V X m_X13_61 (c_X13_begins l D tc h0 sa x0 _ hB hkx0 hA0 hw) (recv1 X.2.2.2.2.1 rfl (hB.at (k := 7) hkx0 rfl)) hT hS hA0 dX13_getIce_1 hl.1 rfl rfl ⟨Nat.le_of_ble_eq_true rfl, Nat.le_of_ble_eq_true rfl⟩ (Nat.le_of_ble_eq_true rfl) ⟨Nat.le_of_ble_eq_true rfl, Nat.le_of_ble_eq_true rfl⟩) hS (fun _ h => h) (fun u => []) (fun _ => rfl) (fun u H locs hw hP9 hz9 hk9 hS => ?_)
  obtain ⟨wS1, rfl⟩ : ∃ z, z = u := ⟨_, rfl⟩
  try dsimp only at hw hP9
  have hB := hP9
  refine lv_aload_n hx hb dX13_getIce_4 rfl (lv_at hl 0 rfl) ?_
  refine lv_iload_n hx hb dX13_getIce_5 rfl (lv_at hl 1 rfl) ?_
  refine lv_iload_n hx hb dX13_getIce_6 rfl (lv_at hl 2 rfl) ?_
  refine g_after (st0 := [.int x2, .int x1, .ref x0]) (rest := []) (g_V X m_X13_74 (c_X13_noVapour l D tc h0 sa x0 x1 x2 _ hB hkx0 hA0 hw) (recv1 X.2.2.2.2.1 rfl (hB.at (k := 7) hkx0 rfl)) hT hS hA0 dX13_getIce_7 hl.1 rfl rfl ⟨Nat.le_of_ble_eq_true rfl, Nat.le_of_ble_eq_true rfl⟩ (Nat.le_of_ble_eq_true rfl) ⟨Nat.le_of_ble_eq_true rfl, Nat.le_of_ble_eq_true rfl⟩) hS (fun _ h => h) (fun u => .int u.1 :: []) (fun _ => rfl) (fun u H locs hw hP9 hz9 hk9 hS => ?_)
  obtain ⟨r2, wS3⟩ := u
  try dsimp only at hw hP9
  have hB := hP9
  refine lv_if_eq (tgt := 17) hx hb dX13_getIce_10 (by decide) (fun c4 => ?_) (fun c4 => ?_)
  · have hw := hw.1 c4
    refine lv_aload_n hx hb dX13_getIce_17 rfl (lv_at hl 0 rfl) ?_
    refine g_get X dX13_getIce_18 f_X13_34 (hB.one (k := 7) hkx0 rfl) 0 (v := .ref (rS x0 1)) rfl rfl ?_
    have k5 : tS (rS x0 1) = 4 := (hB.wtk hkx0).1
    refine g_getN X dX13_getIce_21 f_X13_84 (hB.one (k := 4) k5 rfl) 0 (v := .ref (rS (rS x0 1) 2)) rfl rfl ?_
    have k6 : tS (rS (rS x0 1) 2) = 2 := (hB.wtk k5).2.2.1
    refine lv_iload_n hx hb dX13_getIce_24 rfl (lv_at hl 1 rfl) ?_
    obtain ⟨o7, hw⟩ := hw
    refine g_aaldA X dX13_getIce_25 (hB.one (k := 2) k6 rfl) 0 rfl o7 (v := .ref (rS (rS (rS x0 1) 2) x1.toNatClampNeg)) (row_at (lt10 o7)) ?_
    have k8 : tS (rS (rS (rS x0 1) 2) x1.toNatClampNeg) = 23 := (hB.wtk k6) _ (lt10 o7)
    refine lv_iload_n hx hb dX13_getIce_26 rfl (lv_at hl 2 rfl) ?_
    obtain ⟨o9, hw⟩ := hw
    refine g_iald X dX13_getIce_27 (hB.one (k := 23) k8 rfl) 0 rfl o9 rfl ?_
    exact t_X13_getIce_28 X hr hT hA0  (wS3 (rS (rS (rS x0 1) 2) x1.toNatClampNeg) x2.toNatClampNeg) wS3 _ _ _ hw hB  hS (lv_sub hl [] rfl)
  · have hw := hw.2 c4
    refine lv_iconst (v := (-1)) hx hb dX13_getIce_13 (by decide) ?_
    refine lv_goto (tgt := 28) hx hb dX13_getIce_14 (by decide) ?_
    exact t_X13_getIce_28 X hr hT hA0  (-1) wS3 _ _ _ hw hB  hS (lv_sub hl [] rfl)
abbrev rm_X13_deck : Room := { frames := 1, cells := 0, slots := 0, locals := 25 }
def wp_X13_deck_114 (post : Int32 → Dt → Prop) (tS : Nat → Nat) (nS : Nat → Nat) (rS : Nat → Nat → Nat)  (z0 : Int32) (wS : Dt) : Prop := post z0 wS
set_option maxHeartbeats 4000000 in
set_option maxRecDepth 100000 in
theorem t_X13_deck_114 : ∀ {p : Program} {l : Launch} {e : Env} {s : State} {m : MethodId} {args : Array Value} {below : List Frame} {meth : Method} {c : Code} {D : va_G} {tc : Nat → ClassId} {h0 : Nat} {sa : Nat → Nat} {A : Nat → Prop} {post : Int32 → Dt → Prop} {tS : Nat → Nat} {nS : Nat → Nat} {rS : Nat → Nat → Nat}  (X : Cx p c s m meth cX13_deck 5 RX13 D tc) (hr : meth.sig.returnType = (Option.some FieldType.int)) (hT : ST h0 sa s s.heap) (hA0 : ∀ q, A q → h0 ≤ q) , ∀ (z0 : Int32) (wS : Dt) (H : Heap) (locs : List Loc) (ls : Array Slot), wp_X13_deck_114 post tS nS rS  z0 wS → SB D tc (sa 3) A tS nS rS wS H → va_S A s.heap H locs → lv_has ls 5 [] → W p l e rm_X13_deck s m args below meth c H locs 0 0 (MQ below (QB (fun u : Int32 × Dt => post u.1 u.2) (fun (u : Int32 × Dt) (H1 : Heap) => SB D tc (sa 3) A tS nS rS u.2 H1) (fun u : Int32 × Dt => some (.int u.1)) A) args s rm_X13_deck.cells rm_X13_deck.slots A) (F0 m 114 ls [.int z0]) := by
  intro p l e s m args below meth c D tc h0 sa A post tS nS rS  X hr hT hA0   z0 wS H locs ls hw hB  hS hl
  have hx := X.1
  have hb := X.2.1
  have hown := X.2.2.2.1
  have hU := X.2.2.2.2.1.1
  unfold wp_X13_deck_114 at hw
  exact e_i X hr dX13_deck_114 hS (z0, wS) rfl hw hB ⟨Nat.le_of_ble_eq_true rfl, Nat.le_of_ble_eq_true rfl⟩
def wp_X13_deck_102 (post : Int32 → Dt → Prop) (tS : Nat → Nat) (nS : Nat → Nat) (rS : Nat → Nat → Nat)  (y2 : Int32) (z0 : Int32) (z1 : Nat) (wS : Dt) : Prop := wp_X13_fails (fun r9 wS10 => (r9 = 0 → wp_X13_deck_114 post tS nS rS  y2 wS10) ∧ (¬ r9 = 0 → wp_X13_deck_114 post tS nS rS  (-1) wS10)) tS nS rS wS z1 z0 2
set_option maxHeartbeats 4000000 in
set_option maxRecDepth 100000 in
theorem t_X13_deck_102 : ∀ {p : Program} {l : Launch} {e : Env} {s : State} {m : MethodId} {args : Array Value} {below : List Frame} {meth : Method} {c : Code} {D : va_G} {tc : Nat → ClassId} {h0 : Nat} {sa : Nat → Nat} {A : Nat → Prop} {post : Int32 → Dt → Prop} {tS : Nat → Nat} {nS : Nat → Nat} {rS : Nat → Nat → Nat}  (X : Cx p c s m meth cX13_deck 5 RX13 D tc) (hr : meth.sig.returnType = (Option.some FieldType.int)) (hT : ST h0 sa s s.heap) (hA0 : ∀ q, A q → h0 ≤ q) , ∀ (y2 : Int32) (z0 : Int32) (z1 : Nat) (wS : Dt) (H : Heap) (locs : List Loc) (ls : Array Slot), wp_X13_deck_102 post tS nS rS  y2 z0 z1 wS → SB D tc (sa 3) A tS nS rS wS H → (tS z1 = 7) → va_S A s.heap H locs → lv_has ls 5 [(2, .int y2)] → W p l e rm_X13_deck s m args below meth c H locs 0 0 (MQ below (QB (fun u : Int32 × Dt => post u.1 u.2) (fun (u : Int32 × Dt) (H1 : Heap) => SB D tc (sa 3) A tS nS rS u.2 H1) (fun u : Int32 × Dt => some (.int u.1)) A) args s rm_X13_deck.cells rm_X13_deck.slots A) (F0 m 102 ls [.int z0, .ref z1]) := by
  intro p l e s m args below meth c D tc h0 sa A post tS nS rS  X hr hT hA0   y2 z0 z1 wS H locs ls hw hB hkz1 hS hl
  have hx := X.1
  have hb := X.2.1
  have hown := X.2.2.2.1
  have hU := X.2.2.2.2.1.1
  unfold wp_X13_deck_102 at hw
  refine lv_iconst (v := 2) hx hb dX13_deck_102 (by decide) ?_
  refine g_after (st0 := [.int 2, .int z0, .ref z1]) (rest := []) (g_V X m_X13_57 (c_X13_fails l D tc h0 sa z1 z0 2 _ hB hkz1 hA0 hw) (recv1 X.2.2.2.2.1 rfl (hB.at (k := 7) hkz1 rfl)) hT hS hA0 dX13_deck_103 hl.1 rfl rfl ⟨Nat.le_of_ble_eq_true rfl, Nat.le_of_ble_eq_true rfl⟩ (Nat.le_of_ble_eq_true rfl) ⟨Nat.le_of_ble_eq_true rfl, Nat.le_of_ble_eq_true rfl⟩) hS (fun _ h => h) (fun u => .int u.1 :: []) (fun _ => rfl) (fun u H locs hw hP9 hz9 hk9 hS => ?_)
  obtain ⟨r9, wS10⟩ := u
  try dsimp only at hw hP9
  have hB := hP9
  refine lv_if_eq (tgt := 113) hx hb dX13_deck_106 (by decide) (fun c11 => ?_) (fun c11 => ?_)
  · have hw := hw.1 c11
    refine lv_iload_n hx hb dX13_deck_113 rfl (lv_at hl 0 rfl) ?_
    exact t_X13_deck_114 X hr hT hA0  y2 wS10 _ _ _ hw hB  hS (lv_sub hl [] rfl)
  · have hw := hw.2 c11
    refine lv_iconst (v := (-1)) hx hb dX13_deck_109 (by decide) ?_
    refine lv_goto (tgt := 114) hx hb dX13_deck_110 (by decide) ?_
    exact t_X13_deck_114 X hr hT hA0  (-1) wS10 _ _ _ hw hB  hS (lv_sub hl [] rfl)
def wp_X13_deck_67 (post : Int32 → Dt → Prop) (tS : Nat → Nat) (nS : Nat → Nat) (rS : Nat → Nat → Nat) (K38 : Nat → Int32 → Int32 → Int32 → Int32 → (Dt) → Prop) (y0 : Nat) (y1 : Int32) (y3 : Int32) (y4 : Int32) (z0 : Int32) (wS : Dt) : Prop := vp_in y4 10 ∧ (vp_in y1 3 ∧ (∀ v23 : Int32, v23 = (if y3 < (wS (rS (rS (rS y0 1) 2) y4.toNatClampNeg) y1.toNatClampNeg) then (wS (rS (rS (rS y0 1) 2) y4.toNatClampNeg) y1.toNatClampNeg) else y3) → (K38 y0 y1 z0 v23 (y4 + 1) wS)))
set_option maxHeartbeats 4000000 in
set_option maxRecDepth 100000 in
theorem t_X13_deck_67 : ∀ {p : Program} {l : Launch} {e : Env} {s : State} {m : MethodId} {args : Array Value} {below : List Frame} {meth : Method} {c : Code} {D : va_G} {tc : Nat → ClassId} {h0 : Nat} {sa : Nat → Nat} {A : Nat → Prop} {post : Int32 → Dt → Prop} {tS : Nat → Nat} {nS : Nat → Nat} {rS : Nat → Nat → Nat} {K38 : Nat → Int32 → Int32 → Int32 → Int32 → (Dt) → Prop} (X : Cx p c s m meth cX13_deck 5 RX13 D tc) (hr : meth.sig.returnType = (Option.some FieldType.int)) (hT : ST h0 sa s s.heap) (hA0 : ∀ q, A q → h0 ≤ q) (hK38 : ∀ (y0 : Nat) (y1 : Int32) (y2 : Int32) (y3 : Int32) (y4 : Int32) (wS : Dt) (H : Heap) (locs : List Loc) (ls : Array Slot), K38 y0 y1 y2 y3 y4 wS → SB D tc (sa 3) A tS nS rS wS H → (tS y0 = 7) → va_S A s.heap H locs → lv_has ls 5 [(0, .ref y0), (1, .int y1), (2, .int y2), (3, .int y3), (4, .int y4)] → W p l e rm_X13_deck s m args below meth c H locs 0 0 (MQ below (QB (fun u : Int32 × Dt => post u.1 u.2) (fun (u : Int32 × Dt) (H1 : Heap) => SB D tc (sa 3) A tS nS rS u.2 H1) (fun u : Int32 × Dt => some (.int u.1)) A) args s rm_X13_deck.cells rm_X13_deck.slots A) (F0 m 38 ls [])), ∀ (y0 : Nat) (y1 : Int32) (y3 : Int32) (y4 : Int32) (z0 : Int32) (wS : Dt) (H : Heap) (locs : List Loc) (ls : Array Slot), wp_X13_deck_67 post tS nS rS K38 y0 y1 y3 y4 z0 wS → SB D tc (sa 3) A tS nS rS wS H → (tS y0 = 7) → va_S A s.heap H locs → lv_has ls 5 [(0, .ref y0), (1, .int y1), (3, .int y3), (4, .int y4)] → W p l e rm_X13_deck s m args below meth c H locs 0 0 (MQ below (QB (fun u : Int32 × Dt => post u.1 u.2) (fun (u : Int32 × Dt) (H1 : Heap) => SB D tc (sa 3) A tS nS rS u.2 H1) (fun u : Int32 × Dt => some (.int u.1)) A) args s rm_X13_deck.cells rm_X13_deck.slots A) (F0 m 67 ls [.int z0]) := by
  intro p l e s m args below meth c D tc h0 sa A post tS nS rS K38 X hr hT hA0 hK38  y0 y1 y3 y4 z0 wS H locs ls hw hB hky0 hS hl
  have hx := X.1
  have hb := X.2.1
  have hown := X.2.2.2.1
  have hU := X.2.2.2.2.1.1
  unfold wp_X13_deck_67 at hw
  refine lv_istore_n (lv' := [(2, .int z0), (0, .ref y0), (1, .int y1), (3, .int y3), (4, .int y4)]) hx hb dX13_deck_67 rfl hl (by decide) rfl (fun ls hl => ?_)
  refine lv_iload_n hx hb dX13_deck_68 rfl (lv_at hl 3 rfl) ?_
  refine lv_aload_n hx hb dX13_deck_69 rfl (lv_at hl 1 rfl) ?_
  refine g_get X dX13_deck_70 f_X13_34 (hB.one (k := 7) hky0 rfl) 0 (v := .ref (rS y0 1)) rfl rfl ?_
  have k18 : tS (rS y0 1) = 4 := (hB.wtk hky0).1
  refine g_getN X dX13_deck_73 f_X13_84 (hB.one (k := 4) k18 rfl) 0 (v := .ref (rS (rS y0 1) 2)) rfl rfl ?_
  have k19 : tS (rS (rS y0 1) 2) = 2 := (hB.wtk k18).2.2.1
  refine lv_iload hx hb dX13_deck_76 (lv_at hl 4 rfl) ?_
  obtain ⟨o20, hw⟩ := hw
  refine g_aaldA X dX13_deck_78 (hB.one (k := 2) k19 rfl) 0 rfl o20 (v := .ref (rS (rS (rS y0 1) 2) y4.toNatClampNeg)) (row_at (lt10 o20)) ?_
  have k21 : tS (rS (rS (rS y0 1) 2) y4.toNatClampNeg) = 23 := (hB.wtk k19) _ (lt10 o20)
  refine lv_iload_n hx hb dX13_deck_79 rfl (lv_at hl 2 rfl) ?_
  obtain ⟨o22, hw⟩ := hw
  refine g_iald X dX13_deck_80 (hB.one (k := 23) k21 rfl) 0 rfl o22 rfl ?_
  refine g_max X hl.1 dX13_deck_81 w_1305 w_604 w_21 w_605 ⟨Nat.le_of_ble_eq_true rfl, Nat.le_of_ble_eq_true rfl, Nat.le_of_ble_eq_true rfl, Nat.le_of_ble_eq_true rfl⟩ ?_
  refine lv_topi (fun v23 ev23 => ?_)
  have hw := hw v23 ev23
  refine lv_istore_n (lv' := [(3, .int v23), (2, .int z0), (0, .ref y0), (1, .int y1), (4, .int y4)]) hx hb dX13_deck_84 rfl hl (by decide) rfl (fun ls hl => ?_)
  refine lv_iinc (lv' := [(4, .int (y4 + 1)), (3, .int v23), (2, .int z0), (0, .ref y0), (1, .int y1)]) hx hb dX13_deck_85 hl (k := 4) rfl (by rfl) (by decide) rfl (fun ls hl => ?_)
  refine lv_goto (tgt := 38) hx hb dX13_deck_88 (by decide) ?_
  exact hK38 y0 y1 z0 v23 (y4 + 1) wS _ _ _ hw hB hky0 hS (lv_sub hl [3, 4, 2, 1, 0] rfl)
def wp_X13_deck_38 (post : Int32 → Dt → Prop) (tS : Nat → Nat) (nS : Nat → Nat) (rS : Nat → Nat → Nat)  : Nat → (Nat) → (Int32) → (Int32) → (Int32) → (Int32) → (Dt) → Prop
  | 0, _, _, _, _, _, _ => False
  | n9 + 1, y0, y1, y2, y3, y4, wS => (10 ≤ y4 → (¬ y2 = (-1) → wp_X13_deck_102 post tS nS rS  y2 0 y0 wS) ∧ (y2 = (-1) → wp_X13_deck_102 post tS nS rS  y2 1 y0 wS)) ∧ (¬ 10 ≤ y4 → vp_in y4 10 ∧ (vp_in y1 3 ∧ (((wS (rS (rS (rS y0 1) 2) y4.toNatClampNeg) y1.toNatClampNeg) ≤ y3 → wp_X13_deck_67 post tS nS rS (fun a0 a1 a2 a3 a4 a5 => wp_X13_deck_38 post tS nS rS  n9 a0 a1 a2 a3 a4 a5) y0 y1 y3 y4 y2 wS) ∧ (¬ (wS (rS (rS (rS y0 1) 2) y4.toNatClampNeg) y1.toNatClampNeg) ≤ y3 → wp_X13_deck_67 post tS nS rS (fun a0 a1 a2 a3 a4 a5 => wp_X13_deck_38 post tS nS rS  n9 a0 a1 a2 a3 a4 a5) y0 y1 y3 y4 y4 wS))))
set_option maxHeartbeats 4000000 in
set_option maxRecDepth 100000 in
theorem t_X13_deck_38 : ∀ {p : Program} {l : Launch} {e : Env} {s : State} {m : MethodId} {args : Array Value} {below : List Frame} {meth : Method} {c : Code} {D : va_G} {tc : Nat → ClassId} {h0 : Nat} {sa : Nat → Nat} {A : Nat → Prop} {post : Int32 → Dt → Prop} {tS : Nat → Nat} {nS : Nat → Nat} {rS : Nat → Nat → Nat}  (X : Cx p c s m meth cX13_deck 5 RX13 D tc) (hr : meth.sig.returnType = (Option.some FieldType.int)) (hT : ST h0 sa s s.heap) (hA0 : ∀ q, A q → h0 ≤ q)  (n9 : Nat), ∀ (y0 : Nat) (y1 : Int32) (y2 : Int32) (y3 : Int32) (y4 : Int32) (wS : Dt) (H : Heap) (locs : List Loc) (ls : Array Slot), wp_X13_deck_38 post tS nS rS  n9 y0 y1 y2 y3 y4 wS → SB D tc (sa 3) A tS nS rS wS H → (tS y0 = 7) → va_S A s.heap H locs → lv_has ls 5 [(0, .ref y0), (1, .int y1), (2, .int y2), (3, .int y3), (4, .int y4)] → W p l e rm_X13_deck s m args below meth c H locs 0 0 (MQ below (QB (fun u : Int32 × Dt => post u.1 u.2) (fun (u : Int32 × Dt) (H1 : Heap) => SB D tc (sa 3) A tS nS rS u.2 H1) (fun u : Int32 × Dt => some (.int u.1)) A) args s rm_X13_deck.cells rm_X13_deck.slots A) (F0 m 38 ls []) := by
  intro p l e s m args below meth c D tc h0 sa A post tS nS rS  X hr hT hA0  n9
  have hx := X.1
  have hb := X.2.1
  have hown := X.2.2.2.1
  have hU := X.2.2.2.2.1.1
  induction n9 with
  | zero =>
    intro  y0 y1 y2 y3 y4 wS H locs ls hw
    exact hw.elim
  | succ n9 ih =>
    intro  y0 y1 y2 y3 y4 wS H locs ls hw hB hky0 hS hl
    unfold wp_X13_deck_38 at hw
    refine lv_iload hx hb dX13_deck_38 (lv_at hl 4 rfl) ?_
    refine lv_bipush (v := 10) hx hb dX13_deck_40 (by decide) ?_
    refine lv_icmp_ge (tgt := 91) hx hb dX13_deck_42 (by decide) (fun c7 => ?_) (fun c7 => ?_)
    · have hw := hw.1 c7
      refine lv_aload_n hx hb dX13_deck_91 rfl (lv_at hl 0 rfl) ?_
      refine lv_iload_n hx hb dX13_deck_92 rfl (lv_at hl 2 rfl) ?_
      refine lv_iconst (v := (-1)) hx hb dX13_deck_93 (by decide) ?_
      refine lv_icmp_ne (tgt := 101) hx hb dX13_deck_94 (by decide) (fun c8 => ?_) (fun c8 => ?_)
      · have hw := hw.1 c8
        refine lv_iconst (v := 0) hx hb dX13_deck_101 (by decide) ?_
        exact t_X13_deck_102 X hr hT hA0  y2 0 y0 wS _ _ _ hw hB hky0 hS (lv_sub hl [2] rfl)
      · have hw := hw.2 c8
        refine lv_iconst (v := 1) hx hb dX13_deck_97 (by decide) ?_
        refine lv_goto (tgt := 102) hx hb dX13_deck_98 (by decide) ?_
        exact t_X13_deck_102 X hr hT hA0  y2 1 y0 wS _ _ _ hw hB hky0 hS (lv_sub hl [2] rfl)
    · have hw := hw.2 c7
      refine lv_aload_n hx hb dX13_deck_45 rfl (lv_at hl 0 rfl) ?_
      refine g_get X dX13_deck_46 f_X13_34 (hB.one (k := 7) hky0 rfl) 0 (v := .ref (rS y0 1)) rfl rfl ?_
      have k12 : tS (rS y0 1) = 4 := (hB.wtk hky0).1
      refine g_getN X dX13_deck_49 f_X13_84 (hB.one (k := 4) k12 rfl) 0 (v := .ref (rS (rS y0 1) 2)) rfl rfl ?_
      have k13 : tS (rS (rS y0 1) 2) = 2 := (hB.wtk k12).2.2.1
      refine lv_iload hx hb dX13_deck_52 (lv_at hl 4 rfl) ?_
      obtain ⟨o14, hw⟩ := hw
      refine g_aaldA X dX13_deck_54 (hB.one (k := 2) k13 rfl) 0 rfl o14 (v := .ref (rS (rS (rS y0 1) 2) y4.toNatClampNeg)) (row_at (lt10 o14)) ?_
      have k15 : tS (rS (rS (rS y0 1) 2) y4.toNatClampNeg) = 23 := (hB.wtk k13) _ (lt10 o14)
      refine lv_iload_n hx hb dX13_deck_55 rfl (lv_at hl 1 rfl) ?_
      obtain ⟨o16, hw⟩ := hw
      refine g_iald X dX13_deck_56 (hB.one (k := 23) k15 rfl) 0 rfl o16 rfl ?_
      refine lv_iload_n hx hb dX13_deck_57 rfl (lv_at hl 3 rfl) ?_
      refine lv_icmp_le (tgt := 66) hx hb dX13_deck_58 (by decide) (fun c17 => ?_) (fun c17 => ?_)
      · have hw := hw.1 c17
        refine lv_iload_n hx hb dX13_deck_66 rfl (lv_at hl 2 rfl) ?_
        exact t_X13_deck_67 X hr hT hA0 ih y0 y1 y3 y4 y2 wS _ _ _ hw hB hky0 hS (lv_sub hl [0, 1, 3, 4] rfl)
      · have hw := hw.2 c17
        refine lv_iload hx hb dX13_deck_61 (lv_at hl 4 rfl) ?_
        refine lv_goto (tgt := 67) hx hb dX13_deck_63 (by decide) ?_
        exact t_X13_deck_67 X hr hT hA0 ih y0 y1 y3 y4 y4 wS _ _ _ hw hB hky0 hS (lv_sub hl [0, 1, 3, 4] rfl)
def wp_X13_deck_22 (post : Int32 → Dt → Prop) (tS : Nat → Nat) (nS : Nat → Nat) (rS : Nat → Nat → Nat)  (y0 : Nat) (y1 : Int32) (z0 : Int32) (z1 : Nat) (wS : Dt) : Prop := wp_X13_fails (fun r4 wS5 => (r4 = 0 → ∃ k9 : Nat, wp_X13_deck_38 post tS nS rS  k9 y0 y1 (-1) 0 0 wS5) ∧ (¬ r4 = 0 → post (-1) wS5)) tS nS rS wS z1 z0 1
set_option maxHeartbeats 4000000 in
set_option maxRecDepth 100000 in
theorem t_X13_deck_22 : ∀ {p : Program} {l : Launch} {e : Env} {s : State} {m : MethodId} {args : Array Value} {below : List Frame} {meth : Method} {c : Code} {D : va_G} {tc : Nat → ClassId} {h0 : Nat} {sa : Nat → Nat} {A : Nat → Prop} {post : Int32 → Dt → Prop} {tS : Nat → Nat} {nS : Nat → Nat} {rS : Nat → Nat → Nat}  (X : Cx p c s m meth cX13_deck 5 RX13 D tc) (hr : meth.sig.returnType = (Option.some FieldType.int)) (hT : ST h0 sa s s.heap) (hA0 : ∀ q, A q → h0 ≤ q) , ∀ (y0 : Nat) (y1 : Int32) (z0 : Int32) (z1 : Nat) (wS : Dt) (H : Heap) (locs : List Loc) (ls : Array Slot), wp_X13_deck_22 post tS nS rS  y0 y1 z0 z1 wS → SB D tc (sa 3) A tS nS rS wS H → (tS y0 = 7) → (tS z1 = 7) → va_S A s.heap H locs → lv_has ls 5 [(0, .ref y0), (1, .int y1)] → W p l e rm_X13_deck s m args below meth c H locs 0 0 (MQ below (QB (fun u : Int32 × Dt => post u.1 u.2) (fun (u : Int32 × Dt) (H1 : Heap) => SB D tc (sa 3) A tS nS rS u.2 H1) (fun u : Int32 × Dt => some (.int u.1)) A) args s rm_X13_deck.cells rm_X13_deck.slots A) (F0 m 22 ls [.int z0, .ref z1]) := by
  intro p l e s m args below meth c D tc h0 sa A post tS nS rS  X hr hT hA0   y0 y1 z0 z1 wS H locs ls hw hB hky0 hkz1 hS hl
  have hx := X.1
  have hb := X.2.1
  have hown := X.2.2.2.1
  have hU := X.2.2.2.2.1.1
  unfold wp_X13_deck_22 at hw
  refine lv_iconst (v := 1) hx hb dX13_deck_22 (by decide) ?_
  refine g_after (st0 := [.int 1, .int z0, .ref z1]) (rest := []) (g_V X m_X13_57 (c_X13_fails l D tc h0 sa z1 z0 1 _ hB hkz1 hA0 hw) (recv1 X.2.2.2.2.1 rfl (hB.at (k := 7) hkz1 rfl)) hT hS hA0 dX13_deck_23 hl.1 rfl rfl ⟨Nat.le_of_ble_eq_true rfl, Nat.le_of_ble_eq_true rfl⟩ (Nat.le_of_ble_eq_true rfl) ⟨Nat.le_of_ble_eq_true rfl, Nat.le_of_ble_eq_true rfl⟩) hS (fun _ h => h) (fun u => .int u.1 :: []) (fun _ => rfl) (fun u H locs hw hP9 hz9 hk9 hS => ?_)
  obtain ⟨r4, wS5⟩ := u
  try dsimp only at hw hP9
  have hB := hP9
  refine lv_if_eq (tgt := 31) hx hb dX13_deck_26 (by decide) (fun c6 => ?_) (fun c6 => ?_)
  · have hw := hw.1 c6
    refine lv_iconst (v := (-1)) hx hb dX13_deck_31 (by decide) ?_
    refine lv_istore_n (lv' := [(2, .int (-1)), (0, .ref y0), (1, .int y1)]) hx hb dX13_deck_32 rfl hl (by decide) rfl (fun ls hl => ?_)
    refine lv_iconst (v := 0) hx hb dX13_deck_33 (by decide) ?_
    refine lv_istore_n (lv' := [(3, .int 0), (2, .int (-1)), (0, .ref y0), (1, .int y1)]) hx hb dX13_deck_34 rfl hl (by decide) rfl (fun ls hl => ?_)
    refine lv_iconst (v := 0) hx hb dX13_deck_35 (by decide) ?_
    refine lv_istore (lv' := [(4, .int 0), (3, .int 0), (2, .int (-1)), (0, .ref y0), (1, .int y1)]) hx hb dX13_deck_36 hl (by decide) rfl (fun ls hl => ?_)
    obtain ⟨k9, hw⟩ := hw
    exact t_X13_deck_38 X hr hT hA0  k9 y0 y1 (-1) 0 0 wS5 _ _ _ hw hB hky0 hS (lv_sub hl [3, 4, 2, 1, 0] rfl)
  · have hw := hw.2 c6
    refine lv_iconst (v := (-1)) hx hb dX13_deck_29 (by decide) ?_
    exact e_i X hr dX13_deck_30 hS ((-1), wS5) rfl hw hB ⟨Nat.le_of_ble_eq_true rfl, Nat.le_of_ble_eq_true rfl⟩
def wp_X13_deck (post : Int32 → Dt → Prop) (tS : Nat → Nat) (nS : Nat → Nat) (rS : Nat → Nat → Nat) (wS : Dt) (x0 : Nat) (x1 : Int32) : Prop := wp_X13_begins (fun wS1 => wp_X13_in (fun r2 => (¬ r2 = 0 → wp_X13_deck_22 post tS nS rS  x0 x1 0 x0 wS1) ∧ (r2 = 0 → wp_X13_deck_22 post tS nS rS  x0 x1 1 x0 wS1)) tS nS rS wS1 x1.toInt64 0 2) tS nS rS wS x0
set_option maxHeartbeats 4000000 in
set_option maxRecDepth 100000 in
theorem c_X13_deck (l : Launch) (D : va_G) (tc : Nat → ClassId) (h0 : Nat) (sa : Nat → Nat) (x0 : Nat) (x1 : Int32) {A : Nat → Prop} (H0 : Heap) {tS nS : Nat → Nat} {rS : Nat → Nat → Nat} {wS : Dt} (hB : SB D tc (sa 3) A tS nS rS wS H0) (hkx0 : tS x0 = 7) (hA0 : ∀ q, A q → h0 ≤ q) {post : Int32 → Dt → Prop} (hw : wp_X13_deck post tS nS rS wS x0 x1) : MB l yX13_deck cX13_deck 5 (Option.some FieldType.int) rm_X13_deck A [.ref x0, .int x1] D tc h0 sa H0 (fun u : Int32 × Dt => post u.1 u.2) (fun (u : Int32 × Dt) (H1 : Heap) => SB D tc (sa 3) A tS nS rS u.2 H1) (fun u : Int32 × Dt => some (.int u.1)) := by
  refine MB.of RX13 [(0, .ref x0), (1, .int x1)] (by decide +kernel) rfl (Nat.le_of_ble_eq_true rfl) rfl ?_
  intro p e s m below meth c ls X hr hin hT hH hS hl
  subst hH
  have hx := X.1
  have hb := X.2.1
  have hown := X.2.2.2.1
  have hU := X.2.2.2.2.1.1
  unfold wp_X13_deck at hw
  refine lv_aload_n hx hb dX13_deck_0 rfl (lv_at hl 0 rfl) ?_
  refine g_after (st0 := [.ref x0]) (rest := []) (g_V X m_X13_61 (c_X13_begins l D tc h0 sa x0 _ hB hkx0 hA0 hw) (recv1 X.2.2.2.2.1 rfl (hB.at (k := 7) hkx0 rfl)) hT hS hA0 dX13_deck_1 hl.1 rfl rfl ⟨Nat.le_of_ble_eq_true rfl, Nat.le_of_ble_eq_true rfl⟩ (Nat.le_of_ble_eq_true rfl) ⟨Nat.le_of_ble_eq_true rfl, Nat.le_of_ble_eq_true rfl⟩) hS (fun _ h => h) (fun u => []) (fun _ => rfl) (fun u H locs hw hP9 hz9 hk9 hS => ?_)
  obtain ⟨wS1, rfl⟩ : ∃ z, z = u := ⟨_, rfl⟩
  try dsimp only at hw hP9
  have hB := hP9
  refine lv_aload_n hx hb dX13_deck_4 rfl (lv_at hl 0 rfl) ?_
  refine lv_iload_n hx hb dX13_deck_5 rfl (lv_at hl 1 rfl) ?_
  refine lv_i2l (v := x1.toInt64) hx hb dX13_deck_6 rfl ?_
  refine lv_lconst (v := 0) hx hb dX13_deck_7 (by decide) ?_
  refine lv_ldc2 (v := 2) hx hb hown (hU.use w_1291) dX13_deck_8 ?_
  refine g_after (st0 := [.long 2, .long 0, .long x1.toInt64, .ref x0]) (rest := [.ref x0]) (g_S X m_X13_13 (c_X13_in l D tc h0 sa x1.toInt64 0 2 _ hB  hw) hT hS hA0 dX13_deck_11 hl.1 rfl rfl ⟨Nat.le_of_ble_eq_true rfl, Nat.le_of_ble_eq_true rfl⟩ (Nat.le_of_ble_eq_true rfl) ⟨Nat.le_of_ble_eq_true rfl, Nat.le_of_ble_eq_true rfl⟩) hS (fun _ h => h.elim) (fun u => .int u :: [.ref x0]) (fun _ => rfl) (fun u H9 locs hw hP9 hz9 hk9 hS => ?_)
  obtain ⟨r2, rfl⟩ : ∃ z, z = u := ⟨_, rfl⟩
  try dsimp only at hw hP9
  have e9 : H9 = _ := hP9
  rw [e9] at hS ⊢
  refine lv_if_ne (tgt := 21) hx hb dX13_deck_14 (by decide) (fun c3 => ?_) (fun c3 => ?_)
  · have hw := hw.1 c3
    refine lv_iconst (v := 0) hx hb dX13_deck_21 (by decide) ?_
    exact t_X13_deck_22 X hr hT hA0  x0 x1 0 x0 wS1 _ _ _ hw hB hkx0 hkx0 hS (lv_sub hl [0, 1] rfl)
  · have hw := hw.2 c3
    refine lv_iconst (v := 1) hx hb dX13_deck_17 (by decide) ?_
    refine lv_goto (tgt := 22) hx hb dX13_deck_18 (by decide) ?_
    exact t_X13_deck_22 X hr hT hA0  x0 x1 1 x0 wS1 _ _ _ hw hB hkx0 hkx0 hS (lv_sub hl [0, 1] rfl)
abbrev rm_X13_setCore : Room := { frames := 1, cells := 0, slots := 0, locals := 25 }
def wp_X13_setCore_22 (post : Int32 → Dt → Prop) (tS : Nat → Nat) (nS : Nat → Nat) (rS : Nat → Nat → Nat)  (y0 : Nat) (y1 : Int32) (z0 : Int32) (z1 : Nat) (wS : Dt) : Prop := wp_X13_fails (fun r4 wS5 => (r4 = 0 → ∀ wS9 : Dt, wS9 = up2 wS5 (rS y0 1) 3 y1 → (post (wS5 (rS y0 1) 3) wS9)) ∧ (¬ r4 = 0 → post (-1) wS5)) tS nS rS wS z1 z0 1
set_option maxHeartbeats 4000000 in
set_option maxRecDepth 100000 in
theorem t_X13_setCore_22 : ∀ {p : Program} {l : Launch} {e : Env} {s : State} {m : MethodId} {args : Array Value} {below : List Frame} {meth : Method} {c : Code} {D : va_G} {tc : Nat → ClassId} {h0 : Nat} {sa : Nat → Nat} {A : Nat → Prop} {post : Int32 → Dt → Prop} {tS : Nat → Nat} {nS : Nat → Nat} {rS : Nat → Nat → Nat}  (X : Cx p c s m meth cX13_setCore 3 RX13 D tc) (hr : meth.sig.returnType = (Option.some FieldType.int)) (hT : ST h0 sa s s.heap) (hA0 : ∀ q, A q → h0 ≤ q) , ∀ (y0 : Nat) (y1 : Int32) (z0 : Int32) (z1 : Nat) (wS : Dt) (H : Heap) (locs : List Loc) (ls : Array Slot), wp_X13_setCore_22 post tS nS rS  y0 y1 z0 z1 wS → SB D tc (sa 3) A tS nS rS wS H → (tS y0 = 7) → (tS z1 = 7) → va_S A s.heap H locs → lv_has ls 3 [(0, .ref y0), (1, .int y1)] → W p l e rm_X13_setCore s m args below meth c H locs 0 0 (MQ below (QB (fun u : Int32 × Dt => post u.1 u.2) (fun (u : Int32 × Dt) (H1 : Heap) => SB D tc (sa 3) A tS nS rS u.2 H1) (fun u : Int32 × Dt => some (.int u.1)) A) args s rm_X13_setCore.cells rm_X13_setCore.slots A) (F0 m 22 ls [.int z0, .ref z1]) := by
  intro p l e s m args below meth c D tc h0 sa A post tS nS rS  X hr hT hA0   y0 y1 z0 z1 wS H locs ls hw hB hky0 hkz1 hS hl
  have hx := X.1
  have hb := X.2.1
  have hown := X.2.2.2.1
  have hU := X.2.2.2.2.1.1
  unfold wp_X13_setCore_22 at hw
  refine lv_iconst (v := 1) hx hb dX13_setCore_22 (by decide) ?_
  refine g_after (st0 := [.int 1, .int z0, .ref z1]) (rest := []) (g_V X m_X13_57 (c_X13_fails l D tc h0 sa z1 z0 1 _ hB hkz1 hA0 hw) (recv1 X.2.2.2.2.1 rfl (hB.at (k := 7) hkz1 rfl)) hT hS hA0 dX13_setCore_23 hl.1 rfl rfl ⟨Nat.le_of_ble_eq_true rfl, Nat.le_of_ble_eq_true rfl⟩ (Nat.le_of_ble_eq_true rfl) ⟨Nat.le_of_ble_eq_true rfl, Nat.le_of_ble_eq_true rfl⟩) hS (fun _ h => h) (fun u => .int u.1 :: []) (fun _ => rfl) (fun u H locs hw hP9 hz9 hk9 hS => ?_)
  obtain ⟨r4, wS5⟩ := u
  try dsimp only at hw hP9
  have hB := hP9
  refine lv_if_eq (tgt := 31) hx hb dX13_setCore_26 (by decide) (fun c6 => ?_) (fun c6 => ?_)
  · have hw := hw.1 c6
    refine lv_aload_n hx hb dX13_setCore_31 rfl (lv_at hl 0 rfl) ?_
    refine g_get X dX13_setCore_32 f_X13_34 (hB.one (k := 7) hky0 rfl) 0 (v := .ref (rS y0 1)) rfl rfl ?_
    have k7 : tS (rS y0 1) = 4 := (hB.wtk hky0).1
    refine g_getN X dX13_setCore_35 f_X13_93 (hB.one (k := 4) k7 rfl) 0 (v := .int (wS5 (rS y0 1) 3)) rfl rfl ?_
    refine lv_istore_n (lv' := [(2, .int (wS5 (rS y0 1) 3)), (0, .ref y0), (1, .int y1)]) hx hb dX13_setCore_38 rfl hl (by decide) rfl (fun ls hl => ?_)
    refine lv_aload_n hx hb dX13_setCore_39 rfl (lv_at hl 1 rfl) ?_
    refine g_get X dX13_setCore_40 f_X13_34 (hB.one (k := 7) hky0 rfl) 0 (v := .ref (rS y0 1)) rfl rfl ?_
    have k8 : tS (rS y0 1) = 4 := (hB.wtk hky0).1
    refine lv_iload_n hx hb dX13_setCore_43 rfl (lv_at hl 2 rfl) ?_
    refine g_putiN X dX13_setCore_44 f_X13_93 (hB.one (k := 4) k8 rfl) hS (x := y1) rfl rfl rfl (fun H locs hb9 oq hS => ?_)
    have hB := hB.putB k8 rfl hb9 oq
    obtain ⟨wS9, ewS9⟩ : ∃ z : Dt, z = up2 wS5 (rS y0 1) 3 y1 := ⟨_, rfl⟩
    rw [← ewS9] at hB
    have hw := hw wS9 ewS9
    refine lv_iload_n hx hb dX13_setCore_47 rfl (lv_at hl 0 rfl) ?_
    exact e_i X hr dX13_setCore_48 hS ((wS5 (rS y0 1) 3), wS9) rfl hw hB ⟨Nat.le_of_ble_eq_true rfl, Nat.le_of_ble_eq_true rfl⟩
  · have hw := hw.2 c6
    refine lv_iconst (v := (-1)) hx hb dX13_setCore_29 (by decide) ?_
    exact e_i X hr dX13_setCore_30 hS ((-1), wS5) rfl hw hB ⟨Nat.le_of_ble_eq_true rfl, Nat.le_of_ble_eq_true rfl⟩
def wp_X13_setCore (post : Int32 → Dt → Prop) (tS : Nat → Nat) (nS : Nat → Nat) (rS : Nat → Nat → Nat) (wS : Dt) (x0 : Nat) (x1 : Int32) : Prop := wp_X13_begins (fun wS1 => wp_X13_in (fun r2 => (¬ r2 = 0 → wp_X13_setCore_22 post tS nS rS  x0 x1 0 x0 wS1) ∧ (r2 = 0 → wp_X13_setCore_22 post tS nS rS  x0 x1 1 x0 wS1)) tS nS rS wS1 x1.toInt64 0 9) tS nS rS wS x0
set_option maxHeartbeats 4000000 in
set_option maxRecDepth 100000 in
theorem c_X13_setCore (l : Launch) (D : va_G) (tc : Nat → ClassId) (h0 : Nat) (sa : Nat → Nat) (x0 : Nat) (x1 : Int32) {A : Nat → Prop} (H0 : Heap) {tS nS : Nat → Nat} {rS : Nat → Nat → Nat} {wS : Dt} (hB : SB D tc (sa 3) A tS nS rS wS H0) (hkx0 : tS x0 = 7) (hA0 : ∀ q, A q → h0 ≤ q) {post : Int32 → Dt → Prop} (hw : wp_X13_setCore post tS nS rS wS x0 x1) : MB l yX13_setCore cX13_setCore 3 (Option.some FieldType.int) rm_X13_setCore A [.ref x0, .int x1] D tc h0 sa H0 (fun u : Int32 × Dt => post u.1 u.2) (fun (u : Int32 × Dt) (H1 : Heap) => SB D tc (sa 3) A tS nS rS u.2 H1) (fun u : Int32 × Dt => some (.int u.1)) := by
  refine MB.of RX13 [(0, .ref x0), (1, .int x1)] (by decide +kernel) rfl (Nat.le_of_ble_eq_true rfl) rfl ?_
  intro p e s m below meth c ls X hr hin hT hH hS hl
  subst hH
  have hx := X.1
  have hb := X.2.1
  have hown := X.2.2.2.1
  have hU := X.2.2.2.2.1.1
  unfold wp_X13_setCore at hw
  refine lv_aload_n hx hb dX13_setCore_0 rfl (lv_at hl 0 rfl) ?_
  refine g_after (st0 := [.ref x0]) (rest := []) (g_V X m_X13_61 (c_X13_begins l D tc h0 sa x0 _ hB hkx0 hA0 hw) (recv1 X.2.2.2.2.1 rfl (hB.at (k := 7) hkx0 rfl)) hT hS hA0 dX13_setCore_1 hl.1 rfl rfl ⟨Nat.le_of_ble_eq_true rfl, Nat.le_of_ble_eq_true rfl⟩ (Nat.le_of_ble_eq_true rfl) ⟨Nat.le_of_ble_eq_true rfl, Nat.le_of_ble_eq_true rfl⟩) hS (fun _ h => h) (fun u => []) (fun _ => rfl) (fun u H locs hw hP9 hz9 hk9 hS => ?_)
  obtain ⟨wS1, rfl⟩ : ∃ z, z = u := ⟨_, rfl⟩
  try dsimp only at hw hP9
  have hB := hP9
  refine lv_aload_n hx hb dX13_setCore_4 rfl (lv_at hl 0 rfl) ?_
  refine lv_iload_n hx hb dX13_setCore_5 rfl (lv_at hl 1 rfl) ?_
  refine lv_i2l (v := x1.toInt64) hx hb dX13_setCore_6 rfl ?_
  refine lv_lconst (v := 0) hx hb dX13_setCore_7 (by decide) ?_
  refine lv_ldc2 (v := 9) hx hb hown (hU.use w_1269) dX13_setCore_8 ?_
  refine g_after (st0 := [.long 9, .long 0, .long x1.toInt64, .ref x0]) (rest := [.ref x0]) (g_S X m_X13_13 (c_X13_in l D tc h0 sa x1.toInt64 0 9 _ hB  hw) hT hS hA0 dX13_setCore_11 hl.1 rfl rfl ⟨Nat.le_of_ble_eq_true rfl, Nat.le_of_ble_eq_true rfl⟩ (Nat.le_of_ble_eq_true rfl) ⟨Nat.le_of_ble_eq_true rfl, Nat.le_of_ble_eq_true rfl⟩) hS (fun _ h => h.elim) (fun u => .int u :: [.ref x0]) (fun _ => rfl) (fun u H9 locs hw hP9 hz9 hk9 hS => ?_)
  obtain ⟨r2, rfl⟩ : ∃ z, z = u := ⟨_, rfl⟩
  try dsimp only at hw hP9
  have e9 : H9 = _ := hP9
  rw [e9] at hS ⊢
  refine lv_if_ne (tgt := 21) hx hb dX13_setCore_14 (by decide) (fun c3 => ?_) (fun c3 => ?_)
  · have hw := hw.1 c3
    refine lv_iconst (v := 0) hx hb dX13_setCore_21 (by decide) ?_
    exact t_X13_setCore_22 X hr hT hA0  x0 x1 0 x0 wS1 _ _ _ hw hB hkx0 hkx0 hS (lv_sub hl [0, 1] rfl)
  · have hw := hw.2 c3
    refine lv_iconst (v := 1) hx hb dX13_setCore_17 (by decide) ?_
    refine lv_goto (tgt := 22) hx hb dX13_setCore_18 (by decide) ?_
    exact t_X13_setCore_22 X hr hT hA0  x0 x1 1 x0 wS1 _ _ _ hw hB hkx0 hkx0 hS (lv_sub hl [0, 1] rfl)
abbrev rm_X13_getRadiated : Room := { frames := 1, cells := 0, slots := 0, locals := 20 }
def wp_X13_getRadiated (post : Int32 → Dt → Prop) (tS : Nat → Nat) (nS : Nat → Nat) (rS : Nat → Nat → Nat) (wS : Dt) (x0 : Nat) : Prop := wp_X13_begins (fun wS1 => post (wS1 (rS x0 1) 4) wS1) tS nS rS wS x0
set_option maxHeartbeats 4000000 in
set_option maxRecDepth 100000 in
theorem c_X13_getRadiated (l : Launch) (D : va_G) (tc : Nat → ClassId) (h0 : Nat) (sa : Nat → Nat) (x0 : Nat) {A : Nat → Prop} (H0 : Heap) {tS nS : Nat → Nat} {rS : Nat → Nat → Nat} {wS : Dt} (hB : SB D tc (sa 3) A tS nS rS wS H0) (hkx0 : tS x0 = 7) (hA0 : ∀ q, A q → h0 ≤ q) {post : Int32 → Dt → Prop} (hw : wp_X13_getRadiated post tS nS rS wS x0) : MB l yX13_getRadiated cX13_getRadiated 1 (Option.some FieldType.int) rm_X13_getRadiated A [.ref x0] D tc h0 sa H0 (fun u : Int32 × Dt => post u.1 u.2) (fun (u : Int32 × Dt) (H1 : Heap) => SB D tc (sa 3) A tS nS rS u.2 H1) (fun u : Int32 × Dt => some (.int u.1)) := by
  refine MB.of RX13 [(0, .ref x0)] (by decide +kernel) rfl (Nat.le_of_ble_eq_true rfl) rfl ?_
  intro p e s m below meth c ls X hr hin hT hH hS hl
  subst hH
  have hx := X.1
  have hb := X.2.1
  have hown := X.2.2.2.1
  have hU := X.2.2.2.2.1.1
  unfold wp_X13_getRadiated at hw
  refine lv_aload_n hx hb dX13_getRadiated_0 rfl (lv_at hl 0 rfl) ?_
  refine g_after (st0 := [.ref x0]) (rest := []) (g_V X m_X13_61 (c_X13_begins l D tc h0 sa x0 _ hB hkx0 hA0 hw) (recv1 X.2.2.2.2.1 rfl (hB.at (k := 7) hkx0 rfl)) hT hS hA0 dX13_getRadiated_1 hl.1 rfl rfl ⟨Nat.le_of_ble_eq_true rfl, Nat.le_of_ble_eq_true rfl⟩ (Nat.le_of_ble_eq_true rfl) ⟨Nat.le_of_ble_eq_true rfl, Nat.le_of_ble_eq_true rfl⟩) hS (fun _ h => h) (fun u => []) (fun _ => rfl) (fun u H locs hw hP9 hz9 hk9 hS => ?_)
  obtain ⟨wS1, rfl⟩ : ∃ z, z = u := ⟨_, rfl⟩
  try dsimp only at hw hP9
  have hB := hP9
  refine lv_aload_n hx hb dX13_getRadiated_4 rfl (lv_at hl 0 rfl) ?_
  refine g_get X dX13_getRadiated_5 f_X13_34 (hB.one (k := 7) hkx0 rfl) 0 (v := .ref (rS x0 1)) rfl rfl ?_
  have k2 : tS (rS x0 1) = 4 := (hB.wtk hkx0).1
  refine g_getN X dX13_getRadiated_8 f_X13_96 (hB.one (k := 4) k2 rfl) 0 (v := .int (wS1 (rS x0 1) 4)) rfl rfl ?_
  exact e_i X hr dX13_getRadiated_11 hS ((wS1 (rS x0 1) 4), wS1) rfl hw hB ⟨Nat.le_of_ble_eq_true rfl, Nat.le_of_ble_eq_true rfl⟩
abbrev rm_X13_pressure : Room := { frames := 2, cells := 0, slots := 0, locals := 46 }
def wp_X13_pressure_19 (post : UInt32 → Dt → Prop) (tS : Nat → Nat) (nS : Nat → Nat) (rS : Nat → Nat → Nat)  : Nat → (Int32) → (UInt32) → (Int32) → (Dt) → Prop
  | 0, _, _, _, _ => False
  | n9 + 1, y1, y2, y3, wS => (y1 ≤ y3 → post y2 wS) ∧ (¬ y1 ≤ y3 → vf_n32 (FP.fmul y2 0x40000000) ∧ (wp_X13_pressure_19 post tS nS rS  n9 y1 (FP.fmul y2 0x40000000) (y3 + 1) wS))
set_option maxHeartbeats 4000000 in
set_option maxRecDepth 100000 in
theorem t_X13_pressure_19 : ∀ {p : Program} {l : Launch} {e : Env} {s : State} {m : MethodId} {args : Array Value} {below : List Frame} {meth : Method} {c : Code} {D : va_G} {tc : Nat → ClassId} {h0 : Nat} {sa : Nat → Nat} {A : Nat → Prop} {post : UInt32 → Dt → Prop} {tS : Nat → Nat} {nS : Nat → Nat} {rS : Nat → Nat → Nat}  (X : Cx p c s m meth cX13_pressure 4 RX13 D tc) (hr : meth.sig.returnType = (Option.some FieldType.float)) (hT : ST h0 sa s s.heap) (hA0 : ∀ q, A q → h0 ≤ q)  (n9 : Nat), ∀ (y1 : Int32) (y2 : UInt32) (y3 : Int32) (wS : Dt) (H : Heap) (locs : List Loc) (ls : Array Slot), wp_X13_pressure_19 post tS nS rS  n9 y1 y2 y3 wS → SB D tc (sa 3) A tS nS rS wS H → va_S A s.heap H locs → lv_has ls 4 [(1, .int y1), (2, .float y2), (3, .int y3)] → W p l e rm_X13_pressure s m args below meth c H locs 0 0 (MQ below (QB (fun u : UInt32 × Dt => post u.1 u.2) (fun (u : UInt32 × Dt) (H1 : Heap) => SB D tc (sa 3) A tS nS rS u.2 H1) (fun u : UInt32 × Dt => some (.float u.1)) A) args s rm_X13_pressure.cells rm_X13_pressure.slots A) (F0 m 19 ls []) := by
  intro p l e s m args below meth c D tc h0 sa A post tS nS rS  X hr hT hA0  n9
  have hx := X.1
  have hb := X.2.1
  have hown := X.2.2.2.1
  have hU := X.2.2.2.2.1.1
  induction n9 with
  | zero =>
    intro  y1 y2 y3 wS H locs ls hw
    exact hw.elim
  | succ n9 ih =>
    intro  y1 y2 y3 wS H locs ls hw hB  hS hl
    unfold wp_X13_pressure_19 at hw
    refine lv_iload_n hx hb dX13_pressure_19 rfl (lv_at hl 2 rfl) ?_
    refine lv_iload_n hx hb dX13_pressure_20 rfl (lv_at hl 0 rfl) ?_
    refine lv_icmp_ge (tgt := 34) hx hb dX13_pressure_21 (by decide) (fun c5 => ?_) (fun c5 => ?_)
    · have hw := hw.1 c5
      refine lv_fload_n hx hb dX13_pressure_34 rfl (lv_at hl 1 rfl) ?_
      exact e_f X hr dX13_pressure_35 hS (y2, wS) rfl hw hB ⟨Nat.le_of_ble_eq_true rfl, Nat.le_of_ble_eq_true rfl⟩
    · have hw := hw.2 c5
      refine lv_fload_n hx hb dX13_pressure_24 rfl (lv_at hl 1 rfl) ?_
      refine lv_fconst2 hx hb dX13_pressure_25 ?_
      obtain ⟨o6, hw⟩ := hw
      refine lv_fmul hx hb dX13_pressure_26 o6 ?_
      refine lv_fstore_n (lv' := [(2, .float (FP.fmul y2 0x40000000)), (1, .int y1), (3, .int y3)]) hx hb dX13_pressure_27 rfl hl (by decide) rfl (fun ls hl => ?_)
      refine lv_iinc (lv' := [(3, .int (y3 + 1)), (2, .float (FP.fmul y2 0x40000000)), (1, .int y1)]) hx hb dX13_pressure_28 hl (k := 2) rfl (by rfl) (by decide) rfl (fun ls hl => ?_)
      refine lv_goto (tgt := 19) hx hb dX13_pressure_31 (by decide) ?_
      exact ih y1 (FP.fmul y2 0x40000000) (y3 + 1) wS _ _ _ hw hB  hS (lv_sub hl [2, 1, 0] rfl)
def wp_X13_pressure (post : UInt32 → Dt → Prop) (tS : Nat → Nat) (nS : Nat → Nat) (rS : Nat → Nat → Nat) (wS : Dt) (x0 : Nat) (x1 : Int32) : Prop := wp_X13_begins (fun wS1 => wp_X13_noLevel (fun r2 wS3 => (r2 = 0 → ∃ k9 : Nat, wp_X13_pressure_19 post tS nS rS  k9 x1 1036831949 0 wS3) ∧ (¬ r2 = 0 → post 0 wS3)) tS nS rS wS1 x0 x1) tS nS rS wS x0
set_option maxHeartbeats 4000000 in
set_option maxRecDepth 100000 in
theorem c_X13_pressure (l : Launch) (D : va_G) (tc : Nat → ClassId) (h0 : Nat) (sa : Nat → Nat) (x0 : Nat) (x1 : Int32) {A : Nat → Prop} (H0 : Heap) {tS nS : Nat → Nat} {rS : Nat → Nat → Nat} {wS : Dt} (hB : SB D tc (sa 3) A tS nS rS wS H0) (hkx0 : tS x0 = 7) (hA0 : ∀ q, A q → h0 ≤ q) {post : UInt32 → Dt → Prop} (hw : wp_X13_pressure post tS nS rS wS x0 x1) : MB l yX13_pressure cX13_pressure 4 (Option.some FieldType.float) rm_X13_pressure A [.ref x0, .int x1] D tc h0 sa H0 (fun u : UInt32 × Dt => post u.1 u.2) (fun (u : UInt32 × Dt) (H1 : Heap) => SB D tc (sa 3) A tS nS rS u.2 H1) (fun u : UInt32 × Dt => some (.float u.1)) := by
  refine MB.of RX13 [(0, .ref x0), (1, .int x1)] (by decide +kernel) rfl (Nat.le_of_ble_eq_true rfl) rfl ?_
  intro p e s m below meth c ls X hr hin hT hH hS hl
  subst hH
  have hx := X.1
  have hb := X.2.1
  have hown := X.2.2.2.1
  have hU := X.2.2.2.2.1.1
  unfold wp_X13_pressure at hw
  refine lv_aload_n hx hb dX13_pressure_0 rfl (lv_at hl 0 rfl) ?_
  refine g_after (st0 := [.ref x0]) (rest := []) (g_V X m_X13_61 (c_X13_begins l D tc h0 sa x0 _ hB hkx0 hA0 hw) (recv1 X.2.2.2.2.1 rfl (hB.at (k := 7) hkx0 rfl)) hT hS hA0 dX13_pressure_1 hl.1 rfl rfl ⟨Nat.le_of_ble_eq_true rfl, Nat.le_of_ble_eq_true rfl⟩ (Nat.le_of_ble_eq_true rfl) ⟨Nat.le_of_ble_eq_true rfl, Nat.le_of_ble_eq_true rfl⟩) hS (fun _ h => h) (fun u => []) (fun _ => rfl) (fun u H locs hw hP9 hz9 hk9 hS => ?_)
  obtain ⟨wS1, rfl⟩ : ∃ z, z = u := ⟨_, rfl⟩
  try dsimp only at hw hP9
  have hB := hP9
  refine lv_aload_n hx hb dX13_pressure_4 rfl (lv_at hl 0 rfl) ?_
  refine lv_iload_n hx hb dX13_pressure_5 rfl (lv_at hl 1 rfl) ?_
  refine g_after (st0 := [.int x1, .ref x0]) (rest := []) (g_V X m_X13_64 (c_X13_noLevel l D tc h0 sa x0 x1 _ hB hkx0 hA0 hw) (recv1 X.2.2.2.2.1 rfl (hB.at (k := 7) hkx0 rfl)) hT hS hA0 dX13_pressure_6 hl.1 rfl rfl ⟨Nat.le_of_ble_eq_true rfl, Nat.le_of_ble_eq_true rfl⟩ (Nat.le_of_ble_eq_true rfl) ⟨Nat.le_of_ble_eq_true rfl, Nat.le_of_ble_eq_true rfl⟩) hS (fun _ h => h) (fun u => .int u.1 :: []) (fun _ => rfl) (fun u H locs hw hP9 hz9 hk9 hS => ?_)
  obtain ⟨r2, wS3⟩ := u
  try dsimp only at hw hP9
  have hB := hP9
  refine lv_if_eq (tgt := 14) hx hb dX13_pressure_9 (by decide) (fun c4 => ?_) (fun c4 => ?_)
  · have hw := hw.1 c4
    refine lv_ldcf (v := 1036831949) hx hb hown (hU.use w_1318) dX13_pressure_14 ?_
    refine lv_fstore_n (lv' := [(2, .float 1036831949), (0, .ref x0), (1, .int x1)]) hx hb dX13_pressure_16 rfl hl (by decide) rfl (fun ls hl => ?_)
    refine lv_iconst (v := 0) hx hb dX13_pressure_17 (by decide) ?_
    refine lv_istore_n (lv' := [(3, .int 0), (2, .float 1036831949), (0, .ref x0), (1, .int x1)]) hx hb dX13_pressure_18 rfl hl (by decide) rfl (fun ls hl => ?_)
    obtain ⟨k9, hw⟩ := hw
    exact t_X13_pressure_19 X hr hT hA0  k9 x1 1036831949 0 wS3 _ _ _ hw hB  hS (lv_sub hl [3, 1, 0] rfl)
  · have hw := hw.2 c4
    refine lv_fconst0 hx hb dX13_pressure_12 ?_
    exact e_f X hr dX13_pressure_13 hS (0, wS3) rfl hw hB ⟨Nat.le_of_ble_eq_true rfl, Nat.le_of_ble_eq_true rfl⟩
abbrev rm_X13_setTurning : Room := { frames := 2, cells := 0, slots := 0, locals := 46 }
def wp_X13_setTurning_39 (post : Int32 → Dt → Prop) (tS : Nat → Nat) (nS : Nat → Nat) (rS : Nat → Nat → Nat)  (wS : Dt) : Prop := post (-1) wS
set_option maxHeartbeats 4000000 in
set_option maxRecDepth 100000 in
theorem t_X13_setTurning_39 : ∀ {p : Program} {l : Launch} {e : Env} {s : State} {m : MethodId} {args : Array Value} {below : List Frame} {meth : Method} {c : Code} {D : va_G} {tc : Nat → ClassId} {h0 : Nat} {sa : Nat → Nat} {A : Nat → Prop} {post : Int32 → Dt → Prop} {tS : Nat → Nat} {nS : Nat → Nat} {rS : Nat → Nat → Nat}  (X : Cx p c s m meth cX13_setTurning 4 RX13 D tc) (hr : meth.sig.returnType = (Option.some FieldType.int)) (hT : ST h0 sa s s.heap) (hA0 : ∀ q, A q → h0 ≤ q) , ∀ (wS : Dt) (H : Heap) (locs : List Loc) (ls : Array Slot), wp_X13_setTurning_39 post tS nS rS  wS → SB D tc (sa 3) A tS nS rS wS H → va_S A s.heap H locs → lv_has ls 4 [] → W p l e rm_X13_setTurning s m args below meth c H locs 0 0 (MQ below (QB (fun u : Int32 × Dt => post u.1 u.2) (fun (u : Int32 × Dt) (H1 : Heap) => SB D tc (sa 3) A tS nS rS u.2 H1) (fun u : Int32 × Dt => some (.int u.1)) A) args s rm_X13_setTurning.cells rm_X13_setTurning.slots A) (F0 m 39 ls []) := by
  intro p l e s m args below meth c D tc h0 sa A post tS nS rS  X hr hT hA0   wS H locs ls hw hB  hS hl
  have hx := X.1
  have hb := X.2.1
  have hown := X.2.2.2.1
  have hU := X.2.2.2.2.1.1
  unfold wp_X13_setTurning_39 at hw
  refine lv_iconst (v := (-1)) hx hb dX13_setTurning_39 (by decide) ?_
  exact e_i X hr dX13_setTurning_40 hS ((-1), wS) rfl hw hB ⟨Nat.le_of_ble_eq_true rfl, Nat.le_of_ble_eq_true rfl⟩
def wp_X13_setTurning_32 (post : Int32 → Dt → Prop) (tS : Nat → Nat) (nS : Nat → Nat) (rS : Nat → Nat → Nat)  (y0 : Nat) (y1 : Int32) (y2 : Int32) (z0 : Int32) (z1 : Nat) (wS : Dt) : Prop := wp_X13_fails (fun r7 wS8 => (r7 = 0 → vp_in y1 12 ∧ (∀ v13 : Int32, v13 = (wS8 (rS (rS y0 1) 5) y1.toNatClampNeg) → (∀ wS16 : Dt, wS16 = up2 wS8 (rS (rS y0 1) 5) y1.toNatClampNeg y2 → (post v13 wS16)))) ∧ (¬ r7 = 0 → wp_X13_setTurning_39 post tS nS rS  wS8)) tS nS rS wS z1 z0 2
set_option maxHeartbeats 4000000 in
set_option maxRecDepth 100000 in
theorem t_X13_setTurning_32 : ∀ {p : Program} {l : Launch} {e : Env} {s : State} {m : MethodId} {args : Array Value} {below : List Frame} {meth : Method} {c : Code} {D : va_G} {tc : Nat → ClassId} {h0 : Nat} {sa : Nat → Nat} {A : Nat → Prop} {post : Int32 → Dt → Prop} {tS : Nat → Nat} {nS : Nat → Nat} {rS : Nat → Nat → Nat}  (X : Cx p c s m meth cX13_setTurning 4 RX13 D tc) (hr : meth.sig.returnType = (Option.some FieldType.int)) (hT : ST h0 sa s s.heap) (hA0 : ∀ q, A q → h0 ≤ q) , ∀ (y0 : Nat) (y1 : Int32) (y2 : Int32) (z0 : Int32) (z1 : Nat) (wS : Dt) (H : Heap) (locs : List Loc) (ls : Array Slot), wp_X13_setTurning_32 post tS nS rS  y0 y1 y2 z0 z1 wS → SB D tc (sa 3) A tS nS rS wS H → (tS y0 = 7) → (tS z1 = 7) → va_S A s.heap H locs → lv_has ls 4 [(0, .ref y0), (1, .int y1), (2, .int y2)] → W p l e rm_X13_setTurning s m args below meth c H locs 0 0 (MQ below (QB (fun u : Int32 × Dt => post u.1 u.2) (fun (u : Int32 × Dt) (H1 : Heap) => SB D tc (sa 3) A tS nS rS u.2 H1) (fun u : Int32 × Dt => some (.int u.1)) A) args s rm_X13_setTurning.cells rm_X13_setTurning.slots A) (F0 m 32 ls [.int z0, .ref z1]) := by
  intro p l e s m args below meth c D tc h0 sa A post tS nS rS  X hr hT hA0   y0 y1 y2 z0 z1 wS H locs ls hw hB hky0 hkz1 hS hl
  have hx := X.1
  have hb := X.2.1
  have hown := X.2.2.2.1
  have hU := X.2.2.2.2.1.1
  unfold wp_X13_setTurning_32 at hw
  refine lv_iconst (v := 2) hx hb dX13_setTurning_32 (by decide) ?_
  refine g_after (st0 := [.int 2, .int z0, .ref z1]) (rest := []) (g_V X m_X13_57 (c_X13_fails l D tc h0 sa z1 z0 2 _ hB hkz1 hA0 hw) (recv1 X.2.2.2.2.1 rfl (hB.at (k := 7) hkz1 rfl)) hT hS hA0 dX13_setTurning_33 hl.1 rfl rfl ⟨Nat.le_of_ble_eq_true rfl, Nat.le_of_ble_eq_true rfl⟩ (Nat.le_of_ble_eq_true rfl) ⟨Nat.le_of_ble_eq_true rfl, Nat.le_of_ble_eq_true rfl⟩) hS (fun _ h => h) (fun u => .int u.1 :: []) (fun _ => rfl) (fun u H locs hw hP9 hz9 hk9 hS => ?_)
  obtain ⟨r7, wS8⟩ := u
  try dsimp only at hw hP9
  have hB := hP9
  refine lv_if_eq (tgt := 41) hx hb dX13_setTurning_36 (by decide) (fun c9 => ?_) (fun c9 => ?_)
  · have hw := hw.1 c9
    refine lv_aload_n hx hb dX13_setTurning_41 rfl (lv_at hl 0 rfl) ?_
    refine g_get X dX13_setTurning_42 f_X13_34 (hB.one (k := 7) hky0 rfl) 0 (v := .ref (rS y0 1)) rfl rfl ?_
    have k10 : tS (rS y0 1) = 4 := (hB.wtk hky0).1
    refine g_getN X dX13_setTurning_45 f_X13_109 (hB.one (k := 4) k10 rfl) 0 (v := .ref (rS (rS y0 1) 5)) rfl rfl ?_
    have k11 : tS (rS (rS y0 1) 5) = 22 := (hB.wtk k10).2.2.2.1
    refine lv_iload_n hx hb dX13_setTurning_48 rfl (lv_at hl 1 rfl) ?_
    obtain ⟨o12, hw⟩ := hw
    refine g_iald X dX13_setTurning_49 (hB.one (k := 22) k11 rfl) 0 rfl o12 rfl ?_
    refine lv_topi (fun v13 ev13 => ?_)
    have hw := hw v13 ev13
    refine lv_istore_n (lv' := [(3, .int v13), (0, .ref y0), (1, .int y1), (2, .int y2)]) hx hb dX13_setTurning_50 rfl hl (by decide) rfl (fun ls hl => ?_)
    refine lv_aload_n hx hb dX13_setTurning_51 rfl (lv_at hl 1 rfl) ?_
    refine g_get X dX13_setTurning_52 f_X13_34 (hB.one (k := 7) hky0 rfl) 0 (v := .ref (rS y0 1)) rfl rfl ?_
    have k14 : tS (rS y0 1) = 4 := (hB.wtk hky0).1
    refine g_getN X dX13_setTurning_55 f_X13_109 (hB.one (k := 4) k14 rfl) 0 (v := .ref (rS (rS y0 1) 5)) rfl rfl ?_
    have k15 : tS (rS (rS y0 1) 5) = 22 := (hB.wtk k14).2.2.2.1
    refine lv_iload_n hx hb dX13_setTurning_58 rfl (lv_at hl 2 rfl) ?_
    refine lv_iload_n hx hb dX13_setTurning_59 rfl (lv_at hl 3 rfl) ?_
    refine g_iast X dX13_setTurning_60 (hB.one (k := 22) k15 rfl) hS 0 rfl o12 rfl (fun H locs hb9 oq hS => ?_)
    have hB := hB.putB k15 rfl hb9 oq
    obtain ⟨wS16, ewS16⟩ : ∃ z : Dt, z = up2 wS8 (rS (rS y0 1) 5) y1.toNatClampNeg y2 := ⟨_, rfl⟩
    rw [← ewS16] at hB
    have hw := hw wS16 ewS16
    refine lv_iload_n hx hb dX13_setTurning_61 rfl (lv_at hl 0 rfl) ?_
    exact e_i X hr dX13_setTurning_62 hS (v13, wS16) rfl hw hB ⟨Nat.le_of_ble_eq_true rfl, Nat.le_of_ble_eq_true rfl⟩
  · have hw := hw.2 c9
    exact t_X13_setTurning_39 X hr hT hA0  wS8 _ _ _ hw hB  hS (lv_sub hl [] rfl)
def wp_X13_setTurning (post : Int32 → Dt → Prop) (tS : Nat → Nat) (nS : Nat → Nat) (rS : Nat → Nat → Nat) (wS : Dt) (x0 : Nat) (x1 : Int32) (x2 : Int32) : Prop := wp_X13_begins (fun wS1 => wp_X13_noBelt (fun r2 wS3 => (¬ r2 = 0 → wp_X13_setTurning_39 post tS nS rS  wS3) ∧ (r2 = 0 → wp_X13_in (fun r5 => (¬ r5 = 0 → wp_X13_setTurning_32 post tS nS rS  x0 x1 x2 0 x0 wS3) ∧ (r5 = 0 → wp_X13_setTurning_32 post tS nS rS  x0 x1 x2 1 x0 wS3)) tS nS rS wS3 x2.toInt64 (-3000) 3000)) tS nS rS wS1 x0 x1) tS nS rS wS x0
set_option maxHeartbeats 4000000 in
set_option maxRecDepth 100000 in
theorem c_X13_setTurning (l : Launch) (D : va_G) (tc : Nat → ClassId) (h0 : Nat) (sa : Nat → Nat) (x0 : Nat) (x1 : Int32) (x2 : Int32) {A : Nat → Prop} (H0 : Heap) {tS nS : Nat → Nat} {rS : Nat → Nat → Nat} {wS : Dt} (hB : SB D tc (sa 3) A tS nS rS wS H0) (hkx0 : tS x0 = 7) (hA0 : ∀ q, A q → h0 ≤ q) {post : Int32 → Dt → Prop} (hw : wp_X13_setTurning post tS nS rS wS x0 x1 x2) : MB l yX13_setTurning cX13_setTurning 4 (Option.some FieldType.int) rm_X13_setTurning A [.ref x0, .int x1, .int x2] D tc h0 sa H0 (fun u : Int32 × Dt => post u.1 u.2) (fun (u : Int32 × Dt) (H1 : Heap) => SB D tc (sa 3) A tS nS rS u.2 H1) (fun u : Int32 × Dt => some (.int u.1)) := by
  refine MB.of RX13 [(0, .ref x0), (1, .int x1), (2, .int x2)] (by decide +kernel) rfl (Nat.le_of_ble_eq_true rfl) rfl ?_
  intro p e s m below meth c ls X hr hin hT hH hS hl
  subst hH
  have hx := X.1
  have hb := X.2.1
  have hown := X.2.2.2.1
  have hU := X.2.2.2.2.1.1
  unfold wp_X13_setTurning at hw
  refine lv_aload_n hx hb dX13_setTurning_0 rfl (lv_at hl 0 rfl) ?_
  refine g_after (st0 := [.ref x0]) (rest := []) (g_V X m_X13_61 (c_X13_begins l D tc h0 sa x0 _ hB hkx0 hA0 hw) (recv1 X.2.2.2.2.1 rfl (hB.at (k := 7) hkx0 rfl)) hT hS hA0 dX13_setTurning_1 hl.1 rfl rfl ⟨Nat.le_of_ble_eq_true rfl, Nat.le_of_ble_eq_true rfl⟩ (Nat.le_of_ble_eq_true rfl) ⟨Nat.le_of_ble_eq_true rfl, Nat.le_of_ble_eq_true rfl⟩) hS (fun _ h => h) (fun u => []) (fun _ => rfl) (fun u H locs hw hP9 hz9 hk9 hS => ?_)
  obtain ⟨wS1, rfl⟩ : ∃ z, z = u := ⟨_, rfl⟩
  try dsimp only at hw hP9
  have hB := hP9
  refine lv_aload_n hx hb dX13_setTurning_4 rfl (lv_at hl 0 rfl) ?_
  refine lv_iload_n hx hb dX13_setTurning_5 rfl (lv_at hl 1 rfl) ?_
  refine g_after (st0 := [.int x1, .ref x0]) (rest := []) (g_V X m_X13_102 (c_X13_noBelt l D tc h0 sa x0 x1 _ hB hkx0 hA0 hw) (recv1 X.2.2.2.2.1 rfl (hB.at (k := 7) hkx0 rfl)) hT hS hA0 dX13_setTurning_6 hl.1 rfl rfl ⟨Nat.le_of_ble_eq_true rfl, Nat.le_of_ble_eq_true rfl⟩ (Nat.le_of_ble_eq_true rfl) ⟨Nat.le_of_ble_eq_true rfl, Nat.le_of_ble_eq_true rfl⟩) hS (fun _ h => h) (fun u => .int u.1 :: []) (fun _ => rfl) (fun u H locs hw hP9 hz9 hk9 hS => ?_)
  obtain ⟨r2, wS3⟩ := u
  try dsimp only at hw hP9
  have hB := hP9
  refine lv_if_ne (tgt := 39) hx hb dX13_setTurning_9 (by decide) (fun c4 => ?_) (fun c4 => ?_)
  · have hw := hw.1 c4
    exact t_X13_setTurning_39 X hr hT hA0  wS3 _ _ _ hw hB  hS (lv_sub hl [] rfl)
  · have hw := hw.2 c4
    refine lv_aload_n hx hb dX13_setTurning_12 rfl (lv_at hl 0 rfl) ?_
    refine lv_iload_n hx hb dX13_setTurning_13 rfl (lv_at hl 2 rfl) ?_
    refine lv_i2l (v := x2.toInt64) hx hb dX13_setTurning_14 rfl ?_
    refine lv_ldc2 (v := -3000) hx hb hown (hU.use w_1328) dX13_setTurning_15 ?_
    refine lv_ldc2 (v := 3000) hx hb hown (hU.use w_1329) dX13_setTurning_18 ?_
    refine g_after (st0 := [.long 3000, .long (-3000), .long x2.toInt64, .ref x0]) (rest := [.ref x0]) (g_S X m_X13_13 (c_X13_in l D tc h0 sa x2.toInt64 (-3000) 3000 _ hB  hw) hT hS hA0 dX13_setTurning_21 hl.1 rfl rfl ⟨Nat.le_of_ble_eq_true rfl, Nat.le_of_ble_eq_true rfl⟩ (Nat.le_of_ble_eq_true rfl) ⟨Nat.le_of_ble_eq_true rfl, Nat.le_of_ble_eq_true rfl⟩) hS (fun _ h => h.elim) (fun u => .int u :: [.ref x0]) (fun _ => rfl) (fun u H9 locs hw hP9 hz9 hk9 hS => ?_)
    obtain ⟨r5, rfl⟩ : ∃ z, z = u := ⟨_, rfl⟩
    try dsimp only at hw hP9
    have e9 : H9 = _ := hP9
    rw [e9] at hS ⊢
    refine lv_if_ne (tgt := 31) hx hb dX13_setTurning_24 (by decide) (fun c6 => ?_) (fun c6 => ?_)
    · have hw := hw.1 c6
      refine lv_iconst (v := 0) hx hb dX13_setTurning_31 (by decide) ?_
      exact t_X13_setTurning_32 X hr hT hA0  x0 x1 x2 0 x0 wS3 _ _ _ hw hB hkx0 hkx0 hS (lv_sub hl [0, 1, 2] rfl)
    · have hw := hw.2 c6
      refine lv_iconst (v := 1) hx hb dX13_setTurning_27 (by decide) ?_
      refine lv_goto (tgt := 32) hx hb dX13_setTurning_28 (by decide) ?_
      exact t_X13_setTurning_32 X hr hT hA0  x0 x1 x2 1 x0 wS3 _ _ _ hw hB hkx0 hkx0 hS (lv_sub hl [0, 1, 2] rfl)
abbrev rm_X13_getTurning : Room := { frames := 2, cells := 0, slots := 0, locals := 46 }
def wp_X13_getTurning_25 (post : Int32 → Dt → Prop) (tS : Nat → Nat) (nS : Nat → Nat) (rS : Nat → Nat → Nat)  (z0 : Int32) (wS : Dt) : Prop := post z0 wS
set_option maxHeartbeats 4000000 in
set_option maxRecDepth 100000 in
theorem t_X13_getTurning_25 : ∀ {p : Program} {l : Launch} {e : Env} {s : State} {m : MethodId} {args : Array Value} {below : List Frame} {meth : Method} {c : Code} {D : va_G} {tc : Nat → ClassId} {h0 : Nat} {sa : Nat → Nat} {A : Nat → Prop} {post : Int32 → Dt → Prop} {tS : Nat → Nat} {nS : Nat → Nat} {rS : Nat → Nat → Nat}  (X : Cx p c s m meth cX13_getTurning 2 RX13 D tc) (hr : meth.sig.returnType = (Option.some FieldType.int)) (hT : ST h0 sa s s.heap) (hA0 : ∀ q, A q → h0 ≤ q) , ∀ (z0 : Int32) (wS : Dt) (H : Heap) (locs : List Loc) (ls : Array Slot), wp_X13_getTurning_25 post tS nS rS  z0 wS → SB D tc (sa 3) A tS nS rS wS H → va_S A s.heap H locs → lv_has ls 2 [] → W p l e rm_X13_getTurning s m args below meth c H locs 0 0 (MQ below (QB (fun u : Int32 × Dt => post u.1 u.2) (fun (u : Int32 × Dt) (H1 : Heap) => SB D tc (sa 3) A tS nS rS u.2 H1) (fun u : Int32 × Dt => some (.int u.1)) A) args s rm_X13_getTurning.cells rm_X13_getTurning.slots A) (F0 m 25 ls [.int z0]) := by
  intro p l e s m args below meth c D tc h0 sa A post tS nS rS  X hr hT hA0   z0 wS H locs ls hw hB  hS hl
  have hx := X.1
  have hb := X.2.1
  have hown := X.2.2.2.1
  have hU := X.2.2.2.2.1.1
  unfold wp_X13_getTurning_25 at hw
  exact e_i X hr dX13_getTurning_25 hS (z0, wS) rfl hw hB ⟨Nat.le_of_ble_eq_true rfl, Nat.le_of_ble_eq_true rfl⟩
def wp_X13_getTurning (post : Int32 → Dt → Prop) (tS : Nat → Nat) (nS : Nat → Nat) (rS : Nat → Nat → Nat) (wS : Dt) (x0 : Nat) (x1 : Int32) : Prop := wp_X13_begins (fun wS1 => wp_X13_noBelt (fun r2 wS3 => (r2 = 0 → vp_in x1 12 ∧ (wp_X13_getTurning_25 post tS nS rS  (wS3 (rS (rS x0 1) 5) x1.toNatClampNeg) wS3)) ∧ (¬ r2 = 0 → wp_X13_getTurning_25 post tS nS rS  (-1) wS3)) tS nS rS wS1 x0 x1) tS nS rS wS x0
set_option maxHeartbeats 4000000 in
set_option maxRecDepth 100000 in
theorem c_X13_getTurning (l : Launch) (D : va_G) (tc : Nat → ClassId) (h0 : Nat) (sa : Nat → Nat) (x0 : Nat) (x1 : Int32) {A : Nat → Prop} (H0 : Heap) {tS nS : Nat → Nat} {rS : Nat → Nat → Nat} {wS : Dt} (hB : SB D tc (sa 3) A tS nS rS wS H0) (hkx0 : tS x0 = 7) (hA0 : ∀ q, A q → h0 ≤ q) {post : Int32 → Dt → Prop} (hw : wp_X13_getTurning post tS nS rS wS x0 x1) : MB l yX13_getTurning cX13_getTurning 2 (Option.some FieldType.int) rm_X13_getTurning A [.ref x0, .int x1] D tc h0 sa H0 (fun u : Int32 × Dt => post u.1 u.2) (fun (u : Int32 × Dt) (H1 : Heap) => SB D tc (sa 3) A tS nS rS u.2 H1) (fun u : Int32 × Dt => some (.int u.1)) := by
  refine MB.of RX13 [(0, .ref x0), (1, .int x1)] (by decide +kernel) rfl (Nat.le_of_ble_eq_true rfl) rfl ?_
  intro p e s m below meth c ls X hr hin hT hH hS hl
  subst hH
  have hx := X.1
  have hb := X.2.1
  have hown := X.2.2.2.1
  have hU := X.2.2.2.2.1.1
  unfold wp_X13_getTurning at hw
  refine lv_aload_n hx hb dX13_getTurning_0 rfl (lv_at hl 0 rfl) ?_
  refine g_after (st0 := [.ref x0]) (rest := []) (g_V X m_X13_61 (c_X13_begins l D tc h0 sa x0 _ hB hkx0 hA0 hw) (recv1 X.2.2.2.2.1 rfl (hB.at (k := 7) hkx0 rfl)) hT hS hA0 dX13_getTurning_1 hl.1 rfl rfl ⟨Nat.le_of_ble_eq_true rfl, Nat.le_of_ble_eq_true rfl⟩ (Nat.le_of_ble_eq_true rfl) ⟨Nat.le_of_ble_eq_true rfl, Nat.le_of_ble_eq_true rfl⟩) hS (fun _ h => h) (fun u => []) (fun _ => rfl) (fun u H locs hw hP9 hz9 hk9 hS => ?_)
  obtain ⟨wS1, rfl⟩ : ∃ z, z = u := ⟨_, rfl⟩
  try dsimp only at hw hP9
  have hB := hP9
  refine lv_aload_n hx hb dX13_getTurning_4 rfl (lv_at hl 0 rfl) ?_
  refine lv_iload_n hx hb dX13_getTurning_5 rfl (lv_at hl 1 rfl) ?_
  refine g_after (st0 := [.int x1, .ref x0]) (rest := []) (g_V X m_X13_102 (c_X13_noBelt l D tc h0 sa x0 x1 _ hB hkx0 hA0 hw) (recv1 X.2.2.2.2.1 rfl (hB.at (k := 7) hkx0 rfl)) hT hS hA0 dX13_getTurning_6 hl.1 rfl rfl ⟨Nat.le_of_ble_eq_true rfl, Nat.le_of_ble_eq_true rfl⟩ (Nat.le_of_ble_eq_true rfl) ⟨Nat.le_of_ble_eq_true rfl, Nat.le_of_ble_eq_true rfl⟩) hS (fun _ h => h) (fun u => .int u.1 :: []) (fun _ => rfl) (fun u H locs hw hP9 hz9 hk9 hS => ?_)
  obtain ⟨r2, wS3⟩ := u
  try dsimp only at hw hP9
  have hB := hP9
  refine lv_if_eq (tgt := 16) hx hb dX13_getTurning_9 (by decide) (fun c4 => ?_) (fun c4 => ?_)
  · have hw := hw.1 c4
    refine lv_aload_n hx hb dX13_getTurning_16 rfl (lv_at hl 0 rfl) ?_
    refine g_get X dX13_getTurning_17 f_X13_34 (hB.one (k := 7) hkx0 rfl) 0 (v := .ref (rS x0 1)) rfl rfl ?_
    have k5 : tS (rS x0 1) = 4 := (hB.wtk hkx0).1
    refine g_getN X dX13_getTurning_20 f_X13_109 (hB.one (k := 4) k5 rfl) 0 (v := .ref (rS (rS x0 1) 5)) rfl rfl ?_
    have k6 : tS (rS (rS x0 1) 5) = 22 := (hB.wtk k5).2.2.2.1
    refine lv_iload_n hx hb dX13_getTurning_23 rfl (lv_at hl 1 rfl) ?_
    obtain ⟨o7, hw⟩ := hw
    refine g_iald X dX13_getTurning_24 (hB.one (k := 22) k6 rfl) 0 rfl o7 rfl ?_
    exact t_X13_getTurning_25 X hr hT hA0  (wS3 (rS (rS x0 1) 5) x1.toNatClampNeg) wS3 _ _ _ hw hB  hS (lv_sub hl [] rfl)
  · have hw := hw.2 c4
    refine lv_iconst (v := (-1)) hx hb dX13_getTurning_12 (by decide) ?_
    refine lv_goto (tgt := 25) hx hb dX13_getTurning_13 (by decide) ?_
    exact t_X13_getTurning_25 X hr hT hA0  (-1) wS3 _ _ _ hw hB  hS (lv_sub hl [] rfl)
abbrev rm_X13_getWind : Room := { frames := 6, cells := 0, slots := 0, locals := 126 }
def wp_X13_getWind_24 (post : Int32 → Dt → Prop) (tS : Nat → Nat) (nS : Nat → Nat) (rS : Nat → Nat → Nat)  (z0 : Int32) (wS : Dt) : Prop := post z0 wS
set_option maxHeartbeats 4000000 in
set_option maxRecDepth 100000 in
theorem t_X13_getWind_24 : ∀ {p : Program} {l : Launch} {e : Env} {s : State} {m : MethodId} {args : Array Value} {below : List Frame} {meth : Method} {c : Code} {D : va_G} {tc : Nat → ClassId} {h0 : Nat} {sa : Nat → Nat} {A : Nat → Prop} {post : Int32 → Dt → Prop} {tS : Nat → Nat} {nS : Nat → Nat} {rS : Nat → Nat → Nat}  (X : Cx p c s m meth cX13_getWind 2 RX13 D tc) (hr : meth.sig.returnType = (Option.some FieldType.int)) (hT : ST h0 sa s s.heap) (hA0 : ∀ q, A q → h0 ≤ q) , ∀ (z0 : Int32) (wS : Dt) (H : Heap) (locs : List Loc) (ls : Array Slot), wp_X13_getWind_24 post tS nS rS  z0 wS → SB D tc (sa 3) A tS nS rS wS H → va_S A s.heap H locs → lv_has ls 2 [] → W p l e rm_X13_getWind s m args below meth c H locs 0 0 (MQ below (QB (fun u : Int32 × Dt => post u.1 u.2) (fun (u : Int32 × Dt) (H1 : Heap) => SB D tc (sa 3) A tS nS rS u.2 H1) (fun u : Int32 × Dt => some (.int u.1)) A) args s rm_X13_getWind.cells rm_X13_getWind.slots A) (F0 m 24 ls [.int z0]) := by
  intro p l e s m args below meth c D tc h0 sa A post tS nS rS  X hr hT hA0   z0 wS H locs ls hw hB  hS hl
  have hx := X.1
  have hb := X.2.1
  have hown := X.2.2.2.1
  have hU := X.2.2.2.2.1.1
  unfold wp_X13_getWind_24 at hw
  exact e_i X hr dX13_getWind_24 hS (z0, wS) rfl hw hB ⟨Nat.le_of_ble_eq_true rfl, Nat.le_of_ble_eq_true rfl⟩
def wp_X13_getWind (post : Int32 → Dt → Prop) (tS : Nat → Nat) (nS : Nat → Nat) (rS : Nat → Nat → Nat) (wS : Dt) (x0 : Nat) (x1 : Int32) : Prop := wp_X13_begins (fun wS1 => wp_X13_noBelt (fun r2 wS3 => (r2 = 0 → wp_X12_wind (fun r6 => wp_X13_getWind_24 post tS nS rS  r6 wS3) tS nS rS wS3 (rS x0 1) x1) ∧ (¬ r2 = 0 → wp_X13_getWind_24 post tS nS rS  (-1) wS3)) tS nS rS wS1 x0 x1) tS nS rS wS x0
set_option maxHeartbeats 4000000 in
set_option maxRecDepth 100000 in
theorem c_X13_getWind (l : Launch) (D : va_G) (tc : Nat → ClassId) (h0 : Nat) (sa : Nat → Nat) (x0 : Nat) (x1 : Int32) {A : Nat → Prop} (H0 : Heap) {tS nS : Nat → Nat} {rS : Nat → Nat → Nat} {wS : Dt} (hB : SB D tc (sa 3) A tS nS rS wS H0) (hkx0 : tS x0 = 7) (hA0 : ∀ q, A q → h0 ≤ q) {post : Int32 → Dt → Prop} (hw : wp_X13_getWind post tS nS rS wS x0 x1) : MB l yX13_getWind cX13_getWind 2 (Option.some FieldType.int) rm_X13_getWind A [.ref x0, .int x1] D tc h0 sa H0 (fun u : Int32 × Dt => post u.1 u.2) (fun (u : Int32 × Dt) (H1 : Heap) => SB D tc (sa 3) A tS nS rS u.2 H1) (fun u : Int32 × Dt => some (.int u.1)) := by
  refine MB.of RX13 [(0, .ref x0), (1, .int x1)] (by decide +kernel) rfl (Nat.le_of_ble_eq_true rfl) rfl ?_
  intro p e s m below meth c ls X hr hin hT hH hS hl
  subst hH
  have hx := X.1
  have hb := X.2.1
  have hown := X.2.2.2.1
  have hU := X.2.2.2.2.1.1
  unfold wp_X13_getWind at hw
  refine lv_aload_n hx hb dX13_getWind_0 rfl (lv_at hl 0 rfl) ?_
  refine g_after (st0 := [.ref x0]) (rest := []) (g_V X m_X13_61 (c_X13_begins l D tc h0 sa x0 _ hB hkx0 hA0 hw) (recv1 X.2.2.2.2.1 rfl (hB.at (k := 7) hkx0 rfl)) hT hS hA0 dX13_getWind_1 hl.1 rfl rfl ⟨Nat.le_of_ble_eq_true rfl, Nat.le_of_ble_eq_true rfl⟩ (Nat.le_of_ble_eq_true rfl) ⟨Nat.le_of_ble_eq_true rfl, Nat.le_of_ble_eq_true rfl⟩) hS (fun _ h => h) (fun u => []) (fun _ => rfl) (fun u H locs hw hP9 hz9 hk9 hS => ?_)
  obtain ⟨wS1, rfl⟩ : ∃ z, z = u := ⟨_, rfl⟩
  try dsimp only at hw hP9
  have hB := hP9
  refine lv_aload_n hx hb dX13_getWind_4 rfl (lv_at hl 0 rfl) ?_
  refine lv_iload_n hx hb dX13_getWind_5 rfl (lv_at hl 1 rfl) ?_
  refine g_after (st0 := [.int x1, .ref x0]) (rest := []) (g_V X m_X13_102 (c_X13_noBelt l D tc h0 sa x0 x1 _ hB hkx0 hA0 hw) (recv1 X.2.2.2.2.1 rfl (hB.at (k := 7) hkx0 rfl)) hT hS hA0 dX13_getWind_6 hl.1 rfl rfl ⟨Nat.le_of_ble_eq_true rfl, Nat.le_of_ble_eq_true rfl⟩ (Nat.le_of_ble_eq_true rfl) ⟨Nat.le_of_ble_eq_true rfl, Nat.le_of_ble_eq_true rfl⟩) hS (fun _ h => h) (fun u => .int u.1 :: []) (fun _ => rfl) (fun u H locs hw hP9 hz9 hk9 hS => ?_)
  obtain ⟨r2, wS3⟩ := u
  try dsimp only at hw hP9
  have hB := hP9
  refine lv_if_eq (tgt := 16) hx hb dX13_getWind_9 (by decide) (fun c4 => ?_) (fun c4 => ?_)
  · have hw := hw.1 c4
    refine lv_aload_n hx hb dX13_getWind_16 rfl (lv_at hl 0 rfl) ?_
    refine g_get X dX13_getWind_17 f_X13_34 (hB.one (k := 7) hkx0 rfl) 0 (v := .ref (rS x0 1)) rfl rfl ?_
    have k5 : tS (rS x0 1) = 4 := (hB.wtk hkx0).1
    refine lv_iload_n hx hb dX13_getWind_20 rfl (lv_at hl 1 rfl) ?_
    refine g_after (st0 := [.int x1, .ref (rS x0 1)]) (rest := []) (g_V X m_X13_112 (c_X12_wind l D tc h0 sa (rS x0 1) x1 _ hB k5 hw) (recv1 X.2.2.2.2.1 rfl (hB.at (k := 4) k5 rfl)) hT hS hA0 dX13_getWind_21 hl.1 rfl rfl ⟨Nat.le_of_ble_eq_true rfl, Nat.le_of_ble_eq_true rfl⟩ (Nat.le_of_ble_eq_true rfl) ⟨Nat.le_of_ble_eq_true rfl, Nat.le_of_ble_eq_true rfl⟩) hS (fun _ h => h.elim) (fun u => .int u :: []) (fun _ => rfl) (fun u H9 locs hw hP9 hz9 hk9 hS => ?_)
    obtain ⟨r6, rfl⟩ : ∃ z, z = u := ⟨_, rfl⟩
    try dsimp only at hw hP9
    have e9 : H9 = _ := hP9
    rw [e9] at hS ⊢
    exact t_X13_getWind_24 X hr hT hA0  r6 wS3 _ _ _ hw hB  hS (lv_sub hl [] rfl)
  · have hw := hw.2 c4
    refine lv_iconst (v := (-1)) hx hb dX13_getWind_12 (by decide) ?_
    refine lv_goto (tgt := 24) hx hb dX13_getWind_13 (by decide) ?_
    exact t_X13_getWind_24 X hr hT hA0  (-1) wS3 _ _ _ hw hB  hS (lv_sub hl [] rfl)
abbrev rm_X13_getShear : Room := { frames := 7, cells := 0, slots := 0, locals := 147 }
def wp_X13_getShear_24 (post : Int32 → Dt → Prop) (tS : Nat → Nat) (nS : Nat → Nat) (rS : Nat → Nat → Nat)  (z0 : Int32) (wS : Dt) : Prop := post z0 wS
set_option maxHeartbeats 4000000 in
set_option maxRecDepth 100000 in
theorem t_X13_getShear_24 : ∀ {p : Program} {l : Launch} {e : Env} {s : State} {m : MethodId} {args : Array Value} {below : List Frame} {meth : Method} {c : Code} {D : va_G} {tc : Nat → ClassId} {h0 : Nat} {sa : Nat → Nat} {A : Nat → Prop} {post : Int32 → Dt → Prop} {tS : Nat → Nat} {nS : Nat → Nat} {rS : Nat → Nat → Nat}  (X : Cx p c s m meth cX13_getShear 2 RX13 D tc) (hr : meth.sig.returnType = (Option.some FieldType.int)) (hT : ST h0 sa s s.heap) (hA0 : ∀ q, A q → h0 ≤ q) , ∀ (z0 : Int32) (wS : Dt) (H : Heap) (locs : List Loc) (ls : Array Slot), wp_X13_getShear_24 post tS nS rS  z0 wS → SB D tc (sa 3) A tS nS rS wS H → va_S A s.heap H locs → lv_has ls 2 [] → W p l e rm_X13_getShear s m args below meth c H locs 0 0 (MQ below (QB (fun u : Int32 × Dt => post u.1 u.2) (fun (u : Int32 × Dt) (H1 : Heap) => SB D tc (sa 3) A tS nS rS u.2 H1) (fun u : Int32 × Dt => some (.int u.1)) A) args s rm_X13_getShear.cells rm_X13_getShear.slots A) (F0 m 24 ls [.int z0]) := by
  intro p l e s m args below meth c D tc h0 sa A post tS nS rS  X hr hT hA0   z0 wS H locs ls hw hB  hS hl
  have hx := X.1
  have hb := X.2.1
  have hown := X.2.2.2.1
  have hU := X.2.2.2.2.1.1
  unfold wp_X13_getShear_24 at hw
  exact e_i X hr dX13_getShear_24 hS (z0, wS) rfl hw hB ⟨Nat.le_of_ble_eq_true rfl, Nat.le_of_ble_eq_true rfl⟩
def wp_X13_getShear (post : Int32 → Dt → Prop) (tS : Nat → Nat) (nS : Nat → Nat) (rS : Nat → Nat → Nat) (wS : Dt) (x0 : Nat) (x1 : Int32) : Prop := wp_X13_begins (fun wS1 => wp_X13_noBelt (fun r2 wS3 => (r2 = 0 → wp_X12_shear (fun r6 => wp_X13_getShear_24 post tS nS rS  r6 wS3) tS nS rS wS3 (rS x0 1) x1) ∧ (¬ r2 = 0 → wp_X13_getShear_24 post tS nS rS  (-1) wS3)) tS nS rS wS1 x0 x1) tS nS rS wS x0
set_option maxHeartbeats 4000000 in
set_option maxRecDepth 100000 in
theorem c_X13_getShear (l : Launch) (D : va_G) (tc : Nat → ClassId) (h0 : Nat) (sa : Nat → Nat) (x0 : Nat) (x1 : Int32) {A : Nat → Prop} (H0 : Heap) {tS nS : Nat → Nat} {rS : Nat → Nat → Nat} {wS : Dt} (hB : SB D tc (sa 3) A tS nS rS wS H0) (hkx0 : tS x0 = 7) (hA0 : ∀ q, A q → h0 ≤ q) {post : Int32 → Dt → Prop} (hw : wp_X13_getShear post tS nS rS wS x0 x1) : MB l yX13_getShear cX13_getShear 2 (Option.some FieldType.int) rm_X13_getShear A [.ref x0, .int x1] D tc h0 sa H0 (fun u : Int32 × Dt => post u.1 u.2) (fun (u : Int32 × Dt) (H1 : Heap) => SB D tc (sa 3) A tS nS rS u.2 H1) (fun u : Int32 × Dt => some (.int u.1)) := by
  refine MB.of RX13 [(0, .ref x0), (1, .int x1)] (by decide +kernel) rfl (Nat.le_of_ble_eq_true rfl) rfl ?_
  intro p e s m below meth c ls X hr hin hT hH hS hl
  subst hH
  have hx := X.1
  have hb := X.2.1
  have hown := X.2.2.2.1
  have hU := X.2.2.2.2.1.1
  unfold wp_X13_getShear at hw
  refine lv_aload_n hx hb dX13_getShear_0 rfl (lv_at hl 0 rfl) ?_
  refine g_after (st0 := [.ref x0]) (rest := []) (g_V X m_X13_61 (c_X13_begins l D tc h0 sa x0 _ hB hkx0 hA0 hw) (recv1 X.2.2.2.2.1 rfl (hB.at (k := 7) hkx0 rfl)) hT hS hA0 dX13_getShear_1 hl.1 rfl rfl ⟨Nat.le_of_ble_eq_true rfl, Nat.le_of_ble_eq_true rfl⟩ (Nat.le_of_ble_eq_true rfl) ⟨Nat.le_of_ble_eq_true rfl, Nat.le_of_ble_eq_true rfl⟩) hS (fun _ h => h) (fun u => []) (fun _ => rfl) (fun u H locs hw hP9 hz9 hk9 hS => ?_)
  obtain ⟨wS1, rfl⟩ : ∃ z, z = u := ⟨_, rfl⟩
  try dsimp only at hw hP9
  have hB := hP9
  refine lv_aload_n hx hb dX13_getShear_4 rfl (lv_at hl 0 rfl) ?_
  refine lv_iload_n hx hb dX13_getShear_5 rfl (lv_at hl 1 rfl) ?_
  refine g_after (st0 := [.int x1, .ref x0]) (rest := []) (g_V X m_X13_102 (c_X13_noBelt l D tc h0 sa x0 x1 _ hB hkx0 hA0 hw) (recv1 X.2.2.2.2.1 rfl (hB.at (k := 7) hkx0 rfl)) hT hS hA0 dX13_getShear_6 hl.1 rfl rfl ⟨Nat.le_of_ble_eq_true rfl, Nat.le_of_ble_eq_true rfl⟩ (Nat.le_of_ble_eq_true rfl) ⟨Nat.le_of_ble_eq_true rfl, Nat.le_of_ble_eq_true rfl⟩) hS (fun _ h => h) (fun u => .int u.1 :: []) (fun _ => rfl) (fun u H locs hw hP9 hz9 hk9 hS => ?_)
  obtain ⟨r2, wS3⟩ := u
  try dsimp only at hw hP9
  have hB := hP9
  refine lv_if_eq (tgt := 16) hx hb dX13_getShear_9 (by decide) (fun c4 => ?_) (fun c4 => ?_)
  · have hw := hw.1 c4
    refine lv_aload_n hx hb dX13_getShear_16 rfl (lv_at hl 0 rfl) ?_
    refine g_get X dX13_getShear_17 f_X13_34 (hB.one (k := 7) hkx0 rfl) 0 (v := .ref (rS x0 1)) rfl rfl ?_
    have k5 : tS (rS x0 1) = 4 := (hB.wtk hkx0).1
    refine lv_iload_n hx hb dX13_getShear_20 rfl (lv_at hl 1 rfl) ?_
    refine g_after (st0 := [.int x1, .ref (rS x0 1)]) (rest := []) (g_V X m_X13_116 (c_X12_shear l D tc h0 sa (rS x0 1) x1 _ hB k5 hw) (recv1 X.2.2.2.2.1 rfl (hB.at (k := 4) k5 rfl)) hT hS hA0 dX13_getShear_21 hl.1 rfl rfl ⟨Nat.le_of_ble_eq_true rfl, Nat.le_of_ble_eq_true rfl⟩ (Nat.le_of_ble_eq_true rfl) ⟨Nat.le_of_ble_eq_true rfl, Nat.le_of_ble_eq_true rfl⟩) hS (fun _ h => h.elim) (fun u => .int u :: []) (fun _ => rfl) (fun u H9 locs hw hP9 hz9 hk9 hS => ?_)
    obtain ⟨r6, rfl⟩ : ∃ z, z = u := ⟨_, rfl⟩
    try dsimp only at hw hP9
    have e9 : H9 = _ := hP9
    rw [e9] at hS ⊢
    exact t_X13_getShear_24 X hr hT hA0  r6 wS3 _ _ _ hw hB  hS (lv_sub hl [] rfl)
  · have hw := hw.2 c4
    refine lv_iconst (v := (-1)) hx hb dX13_getShear_12 (by decide) ?_
    refine lv_goto (tgt := 24) hx hb dX13_getShear_13 (by decide) ?_
    exact t_X13_getShear_24 X hr hT hA0  (-1) wS3 _ _ _ hw hB  hS (lv_sub hl [] rfl)
abbrev rm_X13_stir : Room := { frames := 1, cells := 0, slots := 0, locals := 25 }
def wp_X13_stir_76 (post : Int32 → Dt → Prop) (tS : Nat → Nat) (nS : Nat → Nat) (rS : Nat → Nat → Nat)  (wS : Dt) : Prop := post (-1) wS
set_option maxHeartbeats 4000000 in
set_option maxRecDepth 100000 in
theorem t_X13_stir_76 : ∀ {p : Program} {l : Launch} {e : Env} {s : State} {m : MethodId} {args : Array Value} {below : List Frame} {meth : Method} {c : Code} {D : va_G} {tc : Nat → ClassId} {h0 : Nat} {sa : Nat → Nat} {A : Nat → Prop} {post : Int32 → Dt → Prop} {tS : Nat → Nat} {nS : Nat → Nat} {rS : Nat → Nat → Nat}  (X : Cx p c s m meth cX13_stir 4 RX13 D tc) (hr : meth.sig.returnType = (Option.some FieldType.int)) (hT : ST h0 sa s s.heap) (hA0 : ∀ q, A q → h0 ≤ q) , ∀ (wS : Dt) (H : Heap) (locs : List Loc) (ls : Array Slot), wp_X13_stir_76 post tS nS rS  wS → SB D tc (sa 3) A tS nS rS wS H → va_S A s.heap H locs → lv_has ls 4 [] → W p l e rm_X13_stir s m args below meth c H locs 0 0 (MQ below (QB (fun u : Int32 × Dt => post u.1 u.2) (fun (u : Int32 × Dt) (H1 : Heap) => SB D tc (sa 3) A tS nS rS u.2 H1) (fun u : Int32 × Dt => some (.int u.1)) A) args s rm_X13_stir.cells rm_X13_stir.slots A) (F0 m 76 ls []) := by
  intro p l e s m args below meth c D tc h0 sa A post tS nS rS  X hr hT hA0   wS H locs ls hw hB  hS hl
  have hx := X.1
  have hb := X.2.1
  have hown := X.2.2.2.1
  have hU := X.2.2.2.2.1.1
  unfold wp_X13_stir_76 at hw
  refine lv_iconst (v := (-1)) hx hb dX13_stir_76 (by decide) ?_
  exact e_i X hr dX13_stir_77 hS ((-1), wS) rfl hw hB ⟨Nat.le_of_ble_eq_true rfl, Nat.le_of_ble_eq_true rfl⟩
def wp_X13_stir_69 (post : Int32 → Dt → Prop) (tS : Nat → Nat) (nS : Nat → Nat) (rS : Nat → Nat → Nat)  (y0 : Nat) (y1 : Int32) (y2 : Int32) (y3 : Int32) (z0 : Int32) (z1 : Nat) (wS : Dt) : Prop := wp_X13_fails (fun r8 wS9 => (r8 = 0 → vp_in y1 12 ∧ (∀ wS14 : Dt, wS14 = up2 wS9 (rS (rS y0 1) 5) y1.toNatClampNeg ((wS9 (rS (rS y0 1) 5) y1.toNatClampNeg) - y3) → (vp_in y2 12 ∧ (∀ wS18 : Dt, wS18 = up2 wS14 (rS (rS y0 1) 5) y2.toNatClampNeg ((wS14 (rS (rS y0 1) 5) y2.toNatClampNeg) + y3) → (post (wS18 (rS (rS y0 1) 5) y2.toNatClampNeg) wS18))))) ∧ (¬ r8 = 0 → wp_X13_stir_76 post tS nS rS  wS9)) tS nS rS wS z1 z0 2
set_option maxHeartbeats 4000000 in
set_option maxRecDepth 100000 in
theorem t_X13_stir_69 : ∀ {p : Program} {l : Launch} {e : Env} {s : State} {m : MethodId} {args : Array Value} {below : List Frame} {meth : Method} {c : Code} {D : va_G} {tc : Nat → ClassId} {h0 : Nat} {sa : Nat → Nat} {A : Nat → Prop} {post : Int32 → Dt → Prop} {tS : Nat → Nat} {nS : Nat → Nat} {rS : Nat → Nat → Nat}  (X : Cx p c s m meth cX13_stir 4 RX13 D tc) (hr : meth.sig.returnType = (Option.some FieldType.int)) (hT : ST h0 sa s s.heap) (hA0 : ∀ q, A q → h0 ≤ q) , ∀ (y0 : Nat) (y1 : Int32) (y2 : Int32) (y3 : Int32) (z0 : Int32) (z1 : Nat) (wS : Dt) (H : Heap) (locs : List Loc) (ls : Array Slot), wp_X13_stir_69 post tS nS rS  y0 y1 y2 y3 z0 z1 wS → SB D tc (sa 3) A tS nS rS wS H → (tS y0 = 7) → (tS z1 = 7) → va_S A s.heap H locs → lv_has ls 4 [(0, .ref y0), (1, .int y1), (2, .int y2), (3, .int y3)] → W p l e rm_X13_stir s m args below meth c H locs 0 0 (MQ below (QB (fun u : Int32 × Dt => post u.1 u.2) (fun (u : Int32 × Dt) (H1 : Heap) => SB D tc (sa 3) A tS nS rS u.2 H1) (fun u : Int32 × Dt => some (.int u.1)) A) args s rm_X13_stir.cells rm_X13_stir.slots A) (F0 m 69 ls [.int z0, .ref z1]) := by
  intro p l e s m args below meth c D tc h0 sa A post tS nS rS  X hr hT hA0   y0 y1 y2 y3 z0 z1 wS H locs ls hw hB hky0 hkz1 hS hl
  have hx := X.1
  have hb := X.2.1
  have hown := X.2.2.2.1
  have hU := X.2.2.2.2.1.1
  unfold wp_X13_stir_69 at hw
  refine lv_iconst (v := 2) hx hb dX13_stir_69 (by decide) ?_
  refine g_after (st0 := [.int 2, .int z0, .ref z1]) (rest := []) (g_V X m_X13_57 (c_X13_fails l D tc h0 sa z1 z0 2 _ hB hkz1 hA0 hw) (recv1 X.2.2.2.2.1 rfl (hB.at (k := 7) hkz1 rfl)) hT hS hA0 dX13_stir_70 hl.1 rfl rfl ⟨Nat.le_of_ble_eq_true rfl, Nat.le_of_ble_eq_true rfl⟩ (Nat.le_of_ble_eq_true rfl) ⟨Nat.le_of_ble_eq_true rfl, Nat.le_of_ble_eq_true rfl⟩) hS (fun _ h => h) (fun u => .int u.1 :: []) (fun _ => rfl) (fun u H locs hw hP9 hz9 hk9 hS => ?_)
  obtain ⟨r8, wS9⟩ := u
  try dsimp only at hw hP9
  have hB := hP9
  refine lv_if_eq (tgt := 78) hx hb dX13_stir_73 (by decide) (fun c10 => ?_) (fun c10 => ?_)
  · have hw := hw.1 c10
    refine lv_aload_n hx hb dX13_stir_78 rfl (lv_at hl 0 rfl) ?_
    refine g_get X dX13_stir_79 f_X13_34 (hB.one (k := 7) hky0 rfl) 0 (v := .ref (rS y0 1)) rfl rfl ?_
    have k11 : tS (rS y0 1) = 4 := (hB.wtk hky0).1
    refine g_getN X dX13_stir_82 f_X13_109 (hB.one (k := 4) k11 rfl) 0 (v := .ref (rS (rS y0 1) 5)) rfl rfl ?_
    have k12 : tS (rS (rS y0 1) 5) = 22 := (hB.wtk k11).2.2.2.1
    refine lv_iload_n hx hb dX13_stir_85 rfl (lv_at hl 1 rfl) ?_
    refine lv_dup2_11 hx hb dX13_stir_86 rfl rfl ?_
    obtain ⟨o13, hw⟩ := hw
    refine g_iald X dX13_stir_87 (hB.one (k := 22) k12 rfl) 0 rfl o13 rfl ?_
    refine lv_iload_n hx hb dX13_stir_88 rfl (lv_at hl 3 rfl) ?_
    refine lv_isub hx hb dX13_stir_89 ?_
    refine g_iast X dX13_stir_90 (hB.one (k := 22) k12 rfl) hS 0 rfl o13 rfl (fun H locs hb9 oq hS => ?_)
    have hB := hB.putB k12 rfl hb9 oq
    obtain ⟨wS14, ewS14⟩ : ∃ z : Dt, z = up2 wS9 (rS (rS y0 1) 5) y1.toNatClampNeg ((wS9 (rS (rS y0 1) 5) y1.toNatClampNeg) - y3) := ⟨_, rfl⟩
    rw [← ewS14] at hB
    have hw := hw wS14 ewS14
    refine lv_aload_n hx hb dX13_stir_91 rfl (lv_at hl 0 rfl) ?_
    refine g_get X dX13_stir_92 f_X13_34 (hB.one (k := 7) hky0 rfl) 0 (v := .ref (rS y0 1)) rfl rfl ?_
    have k15 : tS (rS y0 1) = 4 := (hB.wtk hky0).1
    refine g_getN X dX13_stir_95 f_X13_109 (hB.one (k := 4) k15 rfl) 0 (v := .ref (rS (rS y0 1) 5)) rfl rfl ?_
    have k16 : tS (rS (rS y0 1) 5) = 22 := (hB.wtk k15).2.2.2.1
    refine lv_iload_n hx hb dX13_stir_98 rfl (lv_at hl 2 rfl) ?_
    refine lv_dup2_11 hx hb dX13_stir_99 rfl rfl ?_
    obtain ⟨o17, hw⟩ := hw
    refine g_iald X dX13_stir_100 (hB.one (k := 22) k16 rfl) 0 rfl o17 rfl ?_
    refine lv_iload_n hx hb dX13_stir_101 rfl (lv_at hl 3 rfl) ?_
    refine lv_iadd hx hb dX13_stir_102 ?_
    refine g_iast X dX13_stir_103 (hB.one (k := 22) k16 rfl) hS 0 rfl o17 rfl (fun H locs hb9 oq hS => ?_)
    have hB := hB.putB k16 rfl hb9 oq
    obtain ⟨wS18, ewS18⟩ : ∃ z : Dt, z = up2 wS14 (rS (rS y0 1) 5) y2.toNatClampNeg ((wS14 (rS (rS y0 1) 5) y2.toNatClampNeg) + y3) := ⟨_, rfl⟩
    rw [← ewS18] at hB
    have hw := hw wS18 ewS18
    refine lv_aload_n hx hb dX13_stir_104 rfl (lv_at hl 0 rfl) ?_
    refine g_get X dX13_stir_105 f_X13_34 (hB.one (k := 7) hky0 rfl) 0 (v := .ref (rS y0 1)) rfl rfl ?_
    have k19 : tS (rS y0 1) = 4 := (hB.wtk hky0).1
    refine g_getN X dX13_stir_108 f_X13_109 (hB.one (k := 4) k19 rfl) 0 (v := .ref (rS (rS y0 1) 5)) rfl rfl ?_
    have k20 : tS (rS (rS y0 1) 5) = 22 := (hB.wtk k19).2.2.2.1
    refine lv_iload_n hx hb dX13_stir_111 rfl (lv_at hl 2 rfl) ?_
    refine g_iald X dX13_stir_112 (hB.one (k := 22) k20 rfl) 0 rfl o17 rfl ?_
    exact e_i X hr dX13_stir_113 hS ((wS18 (rS (rS y0 1) 5) y2.toNatClampNeg), wS18) rfl hw hB ⟨Nat.le_of_ble_eq_true rfl, Nat.le_of_ble_eq_true rfl⟩
  · have hw := hw.2 c10
    exact t_X13_stir_76 X hr hT hA0  wS9 _ _ _ hw hB  hS (lv_sub hl [] rfl)
def wp_X13_stir_64 (post : Int32 → Dt → Prop) (tS : Nat → Nat) (nS : Nat → Nat) (rS : Nat → Nat → Nat)  (y0 : Nat) (y1 : Int32) (y2 : Int32) (y3 : Int32) (z0 : Nat) (wS : Dt) : Prop := wp_X13_stir_69 post tS nS rS  y0 y1 y2 y3 1 z0 wS
set_option maxHeartbeats 4000000 in
set_option maxRecDepth 100000 in
theorem t_X13_stir_64 : ∀ {p : Program} {l : Launch} {e : Env} {s : State} {m : MethodId} {args : Array Value} {below : List Frame} {meth : Method} {c : Code} {D : va_G} {tc : Nat → ClassId} {h0 : Nat} {sa : Nat → Nat} {A : Nat → Prop} {post : Int32 → Dt → Prop} {tS : Nat → Nat} {nS : Nat → Nat} {rS : Nat → Nat → Nat}  (X : Cx p c s m meth cX13_stir 4 RX13 D tc) (hr : meth.sig.returnType = (Option.some FieldType.int)) (hT : ST h0 sa s s.heap) (hA0 : ∀ q, A q → h0 ≤ q) , ∀ (y0 : Nat) (y1 : Int32) (y2 : Int32) (y3 : Int32) (z0 : Nat) (wS : Dt) (H : Heap) (locs : List Loc) (ls : Array Slot), wp_X13_stir_64 post tS nS rS  y0 y1 y2 y3 z0 wS → SB D tc (sa 3) A tS nS rS wS H → (tS y0 = 7) → (tS z0 = 7) → va_S A s.heap H locs → lv_has ls 4 [(0, .ref y0), (1, .int y1), (2, .int y2), (3, .int y3)] → W p l e rm_X13_stir s m args below meth c H locs 0 0 (MQ below (QB (fun u : Int32 × Dt => post u.1 u.2) (fun (u : Int32 × Dt) (H1 : Heap) => SB D tc (sa 3) A tS nS rS u.2 H1) (fun u : Int32 × Dt => some (.int u.1)) A) args s rm_X13_stir.cells rm_X13_stir.slots A) (F0 m 64 ls [.ref z0]) := by
  intro p l e s m args below meth c D tc h0 sa A post tS nS rS  X hr hT hA0   y0 y1 y2 y3 z0 wS H locs ls hw hB hky0 hkz0 hS hl
  have hx := X.1
  have hb := X.2.1
  have hown := X.2.2.2.1
  have hU := X.2.2.2.2.1.1
  unfold wp_X13_stir_64 at hw
  refine lv_iconst (v := 1) hx hb dX13_stir_64 (by decide) ?_
  refine lv_goto (tgt := 69) hx hb dX13_stir_65 (by decide) ?_
  exact t_X13_stir_69 X hr hT hA0  y0 y1 y2 y3 1 z0 wS _ _ _ hw hB hky0 hkz0 hS (lv_sub hl [0, 1, 2, 3] rfl)
def wp_X13_stir_34 (post : Int32 → Dt → Prop) (tS : Nat → Nat) (nS : Nat → Nat) (rS : Nat → Nat → Nat)  (y0 : Nat) (y1 : Int32) (y2 : Int32) (y3 : Int32) (z0 : Int32) (z1 : Nat) (wS : Dt) : Prop := wp_X13_fails (fun r4 wS5 => (¬ r4 = 0 → wp_X13_stir_76 post tS nS rS  wS5) ∧ (r4 = 0 → (¬ (if 0 ≤ (y1 - y2) then (y1 - y2) else 0 - (y1 - y2)) = 1 → wp_X13_stir_64 post tS nS rS  y0 y1 y2 y3 y0 wS5) ∧ ((if 0 ≤ (y1 - y2) then (y1 - y2) else 0 - (y1 - y2)) = 1 → wp_X13_in (fun r21 => (¬ r21 = 0 → wp_X13_stir_69 post tS nS rS  y0 y1 y2 y3 0 y0 wS5) ∧ (r21 = 0 → wp_X13_stir_64 post tS nS rS  y0 y1 y2 y3 y0 wS5)) tS nS rS wS5 y3.toInt64 1 3000))) tS nS rS wS z1 z0 1
set_option maxHeartbeats 4000000 in
set_option maxRecDepth 100000 in
theorem t_X13_stir_34 : ∀ {p : Program} {l : Launch} {e : Env} {s : State} {m : MethodId} {args : Array Value} {below : List Frame} {meth : Method} {c : Code} {D : va_G} {tc : Nat → ClassId} {h0 : Nat} {sa : Nat → Nat} {A : Nat → Prop} {post : Int32 → Dt → Prop} {tS : Nat → Nat} {nS : Nat → Nat} {rS : Nat → Nat → Nat}  (X : Cx p c s m meth cX13_stir 4 RX13 D tc) (hr : meth.sig.returnType = (Option.some FieldType.int)) (hT : ST h0 sa s s.heap) (hA0 : ∀ q, A q → h0 ≤ q) , ∀ (y0 : Nat) (y1 : Int32) (y2 : Int32) (y3 : Int32) (z0 : Int32) (z1 : Nat) (wS : Dt) (H : Heap) (locs : List Loc) (ls : Array Slot), wp_X13_stir_34 post tS nS rS  y0 y1 y2 y3 z0 z1 wS → SB D tc (sa 3) A tS nS rS wS H → (tS y0 = 7) → (tS z1 = 7) → va_S A s.heap H locs → lv_has ls 4 [(0, .ref y0), (1, .int y1), (2, .int y2), (3, .int y3)] → W p l e rm_X13_stir s m args below meth c H locs 0 0 (MQ below (QB (fun u : Int32 × Dt => post u.1 u.2) (fun (u : Int32 × Dt) (H1 : Heap) => SB D tc (sa 3) A tS nS rS u.2 H1) (fun u : Int32 × Dt => some (.int u.1)) A) args s rm_X13_stir.cells rm_X13_stir.slots A) (F0 m 34 ls [.int z0, .ref z1]) := by
  intro p l e s m args below meth c D tc h0 sa A post tS nS rS  X hr hT hA0   y0 y1 y2 y3 z0 z1 wS H locs ls hw hB hky0 hkz1 hS hl
  have hx := X.1
  have hb := X.2.1
  have hown := X.2.2.2.1
  have hU := X.2.2.2.2.1.1
  unfold wp_X13_stir_34 at hw
  refine lv_iconst (v := 1) hx hb dX13_stir_34 (by decide) ?_
  refine g_after (st0 := [.int 1, .int z0, .ref z1]) (rest := []) (g_V X m_X13_57 (c_X13_fails l D tc h0 sa z1 z0 1 _ hB hkz1 hA0 hw) (recv1 X.2.2.2.2.1 rfl (hB.at (k := 7) hkz1 rfl)) hT hS hA0 dX13_stir_35 hl.1 rfl rfl ⟨Nat.le_of_ble_eq_true rfl, Nat.le_of_ble_eq_true rfl⟩ (Nat.le_of_ble_eq_true rfl) ⟨Nat.le_of_ble_eq_true rfl, Nat.le_of_ble_eq_true rfl⟩) hS (fun _ h => h) (fun u => .int u.1 :: []) (fun _ => rfl) (fun u H locs hw hP9 hz9 hk9 hS => ?_)
  obtain ⟨r4, wS5⟩ := u
  try dsimp only at hw hP9
  have hB := hP9
  refine lv_if_ne (tgt := 76) hx hb dX13_stir_38 (by decide) (fun c6 => ?_) (fun c6 => ?_)
  · have hw := hw.1 c6
    exact t_X13_stir_76 X hr hT hA0  wS5 _ _ _ hw hB  hS (lv_sub hl [] rfl)
  · have hw := hw.2 c6
    refine lv_aload_n hx hb dX13_stir_41 rfl (lv_at hl 0 rfl) ?_
    refine lv_iload_n hx hb dX13_stir_42 rfl (lv_at hl 1 rfl) ?_
    refine lv_iload_n hx hb dX13_stir_43 rfl (lv_at hl 2 rfl) ?_
    refine lv_isub hx hb dX13_stir_44 ?_
    refine g_abs X hl.1 dX13_stir_45 w_1402 w_611 w_21 w_612 ⟨Nat.le_of_ble_eq_true rfl, Nat.le_of_ble_eq_true rfl, Nat.le_of_ble_eq_true rfl, Nat.le_of_ble_eq_true rfl⟩ ?_
    refine lv_iconst (v := 1) hx hb dX13_stir_48 (by decide) ?_
    refine lv_icmp_ne (tgt := 64) hx hb dX13_stir_49 (by decide) (fun c7 => ?_) (fun c7 => ?_)
    · have hw := hw.1 c7
      exact t_X13_stir_64 X hr hT hA0  y0 y1 y2 y3 y0 wS5 _ _ _ hw hB hky0 hky0 hS (lv_sub hl [0, 1, 2, 3] rfl)
    · have hw := hw.2 c7
      refine lv_iload_n hx hb dX13_stir_52 rfl (lv_at hl 3 rfl) ?_
      refine lv_i2l (v := y3.toInt64) hx hb dX13_stir_53 rfl ?_
      refine lv_lconst (v := 1) hx hb dX13_stir_54 (by decide) ?_
      refine lv_ldc2 (v := 3000) hx hb hown (hU.use w_1329) dX13_stir_55 ?_
      refine g_after (st0 := [.long 3000, .long 1, .long y3.toInt64, .ref y0]) (rest := [.ref y0]) (g_S X m_X13_13 (c_X13_in l D tc h0 sa y3.toInt64 1 3000 _ hB  hw) hT hS hA0 dX13_stir_58 hl.1 rfl rfl ⟨Nat.le_of_ble_eq_true rfl, Nat.le_of_ble_eq_true rfl⟩ (Nat.le_of_ble_eq_true rfl) ⟨Nat.le_of_ble_eq_true rfl, Nat.le_of_ble_eq_true rfl⟩) hS (fun _ h => h.elim) (fun u => .int u :: [.ref y0]) (fun _ => rfl) (fun u H9 locs hw hP9 hz9 hk9 hS => ?_)
      obtain ⟨r21, rfl⟩ : ∃ z, z = u := ⟨_, rfl⟩
      try dsimp only at hw hP9
      have e9 : H9 = _ := hP9
      rw [e9] at hS ⊢
      refine lv_if_ne (tgt := 68) hx hb dX13_stir_61 (by decide) (fun c22 => ?_) (fun c22 => ?_)
      · have hw := hw.1 c22
        refine lv_iconst (v := 0) hx hb dX13_stir_68 (by decide) ?_
        exact t_X13_stir_69 X hr hT hA0  y0 y1 y2 y3 0 y0 wS5 _ _ _ hw hB hky0 hky0 hS (lv_sub hl [0, 1, 2, 3] rfl)
      · have hw := hw.2 c22
        exact t_X13_stir_64 X hr hT hA0  y0 y1 y2 y3 y0 wS5 _ _ _ hw hB hky0 hky0 hS (lv_sub hl [0, 1, 2, 3] rfl)
def wp_X13_stir_29 (post : Int32 → Dt → Prop) (tS : Nat → Nat) (nS : Nat → Nat) (rS : Nat → Nat → Nat)  (y0 : Nat) (y1 : Int32) (y2 : Int32) (y3 : Int32) (z0 : Nat) (wS : Dt) : Prop := wp_X13_stir_34 post tS nS rS  y0 y1 y2 y3 1 z0 wS
set_option maxHeartbeats 4000000 in
set_option maxRecDepth 100000 in
theorem t_X13_stir_29 : ∀ {p : Program} {l : Launch} {e : Env} {s : State} {m : MethodId} {args : Array Value} {below : List Frame} {meth : Method} {c : Code} {D : va_G} {tc : Nat → ClassId} {h0 : Nat} {sa : Nat → Nat} {A : Nat → Prop} {post : Int32 → Dt → Prop} {tS : Nat → Nat} {nS : Nat → Nat} {rS : Nat → Nat → Nat}  (X : Cx p c s m meth cX13_stir 4 RX13 D tc) (hr : meth.sig.returnType = (Option.some FieldType.int)) (hT : ST h0 sa s s.heap) (hA0 : ∀ q, A q → h0 ≤ q) , ∀ (y0 : Nat) (y1 : Int32) (y2 : Int32) (y3 : Int32) (z0 : Nat) (wS : Dt) (H : Heap) (locs : List Loc) (ls : Array Slot), wp_X13_stir_29 post tS nS rS  y0 y1 y2 y3 z0 wS → SB D tc (sa 3) A tS nS rS wS H → (tS y0 = 7) → (tS z0 = 7) → va_S A s.heap H locs → lv_has ls 4 [(0, .ref y0), (1, .int y1), (2, .int y2), (3, .int y3)] → W p l e rm_X13_stir s m args below meth c H locs 0 0 (MQ below (QB (fun u : Int32 × Dt => post u.1 u.2) (fun (u : Int32 × Dt) (H1 : Heap) => SB D tc (sa 3) A tS nS rS u.2 H1) (fun u : Int32 × Dt => some (.int u.1)) A) args s rm_X13_stir.cells rm_X13_stir.slots A) (F0 m 29 ls [.ref z0]) := by
  intro p l e s m args below meth c D tc h0 sa A post tS nS rS  X hr hT hA0   y0 y1 y2 y3 z0 wS H locs ls hw hB hky0 hkz0 hS hl
  have hx := X.1
  have hb := X.2.1
  have hown := X.2.2.2.1
  have hU := X.2.2.2.2.1.1
  unfold wp_X13_stir_29 at hw
  refine lv_iconst (v := 1) hx hb dX13_stir_29 (by decide) ?_
  refine lv_goto (tgt := 34) hx hb dX13_stir_30 (by decide) ?_
  exact t_X13_stir_34 X hr hT hA0  y0 y1 y2 y3 1 z0 wS _ _ _ hw hB hky0 hkz0 hS (lv_sub hl [0, 1, 2, 3] rfl)
def wp_X13_stir (post : Int32 → Dt → Prop) (tS : Nat → Nat) (nS : Nat → Nat) (rS : Nat → Nat → Nat) (wS : Dt) (x0 : Nat) (x1 : Int32) (x2 : Int32) (x3 : Int32) : Prop := wp_X13_begins (fun wS1 => wp_X13_in (fun r2 => (r2 = 0 → wp_X13_stir_29 post tS nS rS  x0 x1 x2 x3 x0 wS1) ∧ (¬ r2 = 0 → wp_X13_in (fun r23 => (¬ r23 = 0 → wp_X13_stir_34 post tS nS rS  x0 x1 x2 x3 0 x0 wS1) ∧ (r23 = 0 → wp_X13_stir_29 post tS nS rS  x0 x1 x2 x3 x0 wS1)) tS nS rS wS1 x2.toInt64 0 11)) tS nS rS wS1 x1.toInt64 0 11) tS nS rS wS x0
set_option maxHeartbeats 4000000 in
set_option maxRecDepth 100000 in
theorem c_X13_stir (l : Launch) (D : va_G) (tc : Nat → ClassId) (h0 : Nat) (sa : Nat → Nat) (x0 : Nat) (x1 : Int32) (x2 : Int32) (x3 : Int32) {A : Nat → Prop} (H0 : Heap) {tS nS : Nat → Nat} {rS : Nat → Nat → Nat} {wS : Dt} (hB : SB D tc (sa 3) A tS nS rS wS H0) (hkx0 : tS x0 = 7) (hA0 : ∀ q, A q → h0 ≤ q) {post : Int32 → Dt → Prop} (hw : wp_X13_stir post tS nS rS wS x0 x1 x2 x3) : MB l yX13_stir cX13_stir 4 (Option.some FieldType.int) rm_X13_stir A [.ref x0, .int x1, .int x2, .int x3] D tc h0 sa H0 (fun u : Int32 × Dt => post u.1 u.2) (fun (u : Int32 × Dt) (H1 : Heap) => SB D tc (sa 3) A tS nS rS u.2 H1) (fun u : Int32 × Dt => some (.int u.1)) := by
  refine MB.of RX13 [(0, .ref x0), (1, .int x1), (2, .int x2), (3, .int x3)] (by decide +kernel) rfl (Nat.le_of_ble_eq_true rfl) rfl ?_
  intro p e s m below meth c ls X hr hin hT hH hS hl
  subst hH
  have hx := X.1
  have hb := X.2.1
  have hown := X.2.2.2.1
  have hU := X.2.2.2.2.1.1
  unfold wp_X13_stir at hw
  refine lv_aload_n hx hb dX13_stir_0 rfl (lv_at hl 0 rfl) ?_
  refine g_after (st0 := [.ref x0]) (rest := []) (g_V X m_X13_61 (c_X13_begins l D tc h0 sa x0 _ hB hkx0 hA0 hw) (recv1 X.2.2.2.2.1 rfl (hB.at (k := 7) hkx0 rfl)) hT hS hA0 dX13_stir_1 hl.1 rfl rfl ⟨Nat.le_of_ble_eq_true rfl, Nat.le_of_ble_eq_true rfl⟩ (Nat.le_of_ble_eq_true rfl) ⟨Nat.le_of_ble_eq_true rfl, Nat.le_of_ble_eq_true rfl⟩) hS (fun _ h => h) (fun u => []) (fun _ => rfl) (fun u H locs hw hP9 hz9 hk9 hS => ?_)
  obtain ⟨wS1, rfl⟩ : ∃ z, z = u := ⟨_, rfl⟩
  try dsimp only at hw hP9
  have hB := hP9
  refine lv_aload_n hx hb dX13_stir_4 rfl (lv_at hl 0 rfl) ?_
  refine lv_iload_n hx hb dX13_stir_5 rfl (lv_at hl 1 rfl) ?_
  refine lv_i2l (v := x1.toInt64) hx hb dX13_stir_6 rfl ?_
  refine lv_lconst (v := 0) hx hb dX13_stir_7 (by decide) ?_
  refine lv_ldc2 (v := 11) hx hb hown (hU.use w_1327) dX13_stir_8 ?_
  refine g_after (st0 := [.long 11, .long 0, .long x1.toInt64, .ref x0]) (rest := [.ref x0]) (g_S X m_X13_13 (c_X13_in l D tc h0 sa x1.toInt64 0 11 _ hB  hw) hT hS hA0 dX13_stir_11 hl.1 rfl rfl ⟨Nat.le_of_ble_eq_true rfl, Nat.le_of_ble_eq_true rfl⟩ (Nat.le_of_ble_eq_true rfl) ⟨Nat.le_of_ble_eq_true rfl, Nat.le_of_ble_eq_true rfl⟩) hS (fun _ h => h.elim) (fun u => .int u :: [.ref x0]) (fun _ => rfl) (fun u H9 locs hw hP9 hz9 hk9 hS => ?_)
  obtain ⟨r2, rfl⟩ : ∃ z, z = u := ⟨_, rfl⟩
  try dsimp only at hw hP9
  have e9 : H9 = _ := hP9
  rw [e9] at hS ⊢
  refine lv_if_eq (tgt := 29) hx hb dX13_stir_14 (by decide) (fun c3 => ?_) (fun c3 => ?_)
  · have hw := hw.1 c3
    exact t_X13_stir_29 X hr hT hA0  x0 x1 x2 x3 x0 wS1 _ _ _ hw hB hkx0 hkx0 hS (lv_sub hl [0, 1, 2, 3] rfl)
  · have hw := hw.2 c3
    refine lv_iload_n hx hb dX13_stir_17 rfl (lv_at hl 2 rfl) ?_
    refine lv_i2l (v := x2.toInt64) hx hb dX13_stir_18 rfl ?_
    refine lv_lconst (v := 0) hx hb dX13_stir_19 (by decide) ?_
    refine lv_ldc2 (v := 11) hx hb hown (hU.use w_1327) dX13_stir_20 ?_
    refine g_after (st0 := [.long 11, .long 0, .long x2.toInt64, .ref x0]) (rest := [.ref x0]) (g_S X m_X13_13 (c_X13_in l D tc h0 sa x2.toInt64 0 11 _ hB  hw) hT hS hA0 dX13_stir_23 hl.1 rfl rfl ⟨Nat.le_of_ble_eq_true rfl, Nat.le_of_ble_eq_true rfl⟩ (Nat.le_of_ble_eq_true rfl) ⟨Nat.le_of_ble_eq_true rfl, Nat.le_of_ble_eq_true rfl⟩) hS (fun _ h => h.elim) (fun u => .int u :: [.ref x0]) (fun _ => rfl) (fun u H9 locs hw hP9 hz9 hk9 hS => ?_)
    obtain ⟨r23, rfl⟩ : ∃ z, z = u := ⟨_, rfl⟩
    try dsimp only at hw hP9
    have e9 : H9 = _ := hP9
    rw [e9] at hS ⊢
    refine lv_if_ne (tgt := 33) hx hb dX13_stir_26 (by decide) (fun c24 => ?_) (fun c24 => ?_)
    · have hw := hw.1 c24
      refine lv_iconst (v := 0) hx hb dX13_stir_33 (by decide) ?_
      exact t_X13_stir_34 X hr hT hA0  x0 x1 x2 x3 0 x0 wS1 _ _ _ hw hB hkx0 hkx0 hS (lv_sub hl [0, 1, 2, 3] rfl)
    · have hw := hw.2 c24
      exact t_X13_stir_29 X hr hT hA0  x0 x1 x2 x3 x0 wS1 _ _ _ hw hB hkx0 hkx0 hS (lv_sub hl [0, 1, 2, 3] rfl)
abbrev rm_X13_setDrag : Room := { frames := 1, cells := 0, slots := 0, locals := 25 }
def wp_X13_setDrag_22 (post : Int32 → Dt → Prop) (tS : Nat → Nat) (nS : Nat → Nat) (rS : Nat → Nat → Nat)  (y0 : Nat) (y1 : Int32) (z0 : Int32) (z1 : Nat) (wS : Dt) : Prop := wp_X13_fails (fun r4 wS5 => (r4 = 0 → ∀ wS9 : Dt, wS9 = up2 wS5 (rS y0 1) 6 y1 → (post (wS5 (rS y0 1) 6) wS9)) ∧ (¬ r4 = 0 → post (-1) wS5)) tS nS rS wS z1 z0 1
set_option maxHeartbeats 4000000 in
set_option maxRecDepth 100000 in
theorem t_X13_setDrag_22 : ∀ {p : Program} {l : Launch} {e : Env} {s : State} {m : MethodId} {args : Array Value} {below : List Frame} {meth : Method} {c : Code} {D : va_G} {tc : Nat → ClassId} {h0 : Nat} {sa : Nat → Nat} {A : Nat → Prop} {post : Int32 → Dt → Prop} {tS : Nat → Nat} {nS : Nat → Nat} {rS : Nat → Nat → Nat}  (X : Cx p c s m meth cX13_setDrag 3 RX13 D tc) (hr : meth.sig.returnType = (Option.some FieldType.int)) (hT : ST h0 sa s s.heap) (hA0 : ∀ q, A q → h0 ≤ q) , ∀ (y0 : Nat) (y1 : Int32) (z0 : Int32) (z1 : Nat) (wS : Dt) (H : Heap) (locs : List Loc) (ls : Array Slot), wp_X13_setDrag_22 post tS nS rS  y0 y1 z0 z1 wS → SB D tc (sa 3) A tS nS rS wS H → (tS y0 = 7) → (tS z1 = 7) → va_S A s.heap H locs → lv_has ls 3 [(0, .ref y0), (1, .int y1)] → W p l e rm_X13_setDrag s m args below meth c H locs 0 0 (MQ below (QB (fun u : Int32 × Dt => post u.1 u.2) (fun (u : Int32 × Dt) (H1 : Heap) => SB D tc (sa 3) A tS nS rS u.2 H1) (fun u : Int32 × Dt => some (.int u.1)) A) args s rm_X13_setDrag.cells rm_X13_setDrag.slots A) (F0 m 22 ls [.int z0, .ref z1]) := by
  intro p l e s m args below meth c D tc h0 sa A post tS nS rS  X hr hT hA0   y0 y1 z0 z1 wS H locs ls hw hB hky0 hkz1 hS hl
  have hx := X.1
  have hb := X.2.1
  have hown := X.2.2.2.1
  have hU := X.2.2.2.2.1.1
  unfold wp_X13_setDrag_22 at hw
  refine lv_iconst (v := 1) hx hb dX13_setDrag_22 (by decide) ?_
  refine g_after (st0 := [.int 1, .int z0, .ref z1]) (rest := []) (g_V X m_X13_57 (c_X13_fails l D tc h0 sa z1 z0 1 _ hB hkz1 hA0 hw) (recv1 X.2.2.2.2.1 rfl (hB.at (k := 7) hkz1 rfl)) hT hS hA0 dX13_setDrag_23 hl.1 rfl rfl ⟨Nat.le_of_ble_eq_true rfl, Nat.le_of_ble_eq_true rfl⟩ (Nat.le_of_ble_eq_true rfl) ⟨Nat.le_of_ble_eq_true rfl, Nat.le_of_ble_eq_true rfl⟩) hS (fun _ h => h) (fun u => .int u.1 :: []) (fun _ => rfl) (fun u H locs hw hP9 hz9 hk9 hS => ?_)
  obtain ⟨r4, wS5⟩ := u
  try dsimp only at hw hP9
  have hB := hP9
  refine lv_if_eq (tgt := 31) hx hb dX13_setDrag_26 (by decide) (fun c6 => ?_) (fun c6 => ?_)
  · have hw := hw.1 c6
    refine lv_aload_n hx hb dX13_setDrag_31 rfl (lv_at hl 0 rfl) ?_
    refine g_get X dX13_setDrag_32 f_X13_34 (hB.one (k := 7) hky0 rfl) 0 (v := .ref (rS y0 1)) rfl rfl ?_
    have k7 : tS (rS y0 1) = 4 := (hB.wtk hky0).1
    refine g_getN X dX13_setDrag_35 f_X13_122 (hB.one (k := 4) k7 rfl) 0 (v := .int (wS5 (rS y0 1) 6)) rfl rfl ?_
    refine lv_istore_n (lv' := [(2, .int (wS5 (rS y0 1) 6)), (0, .ref y0), (1, .int y1)]) hx hb dX13_setDrag_38 rfl hl (by decide) rfl (fun ls hl => ?_)
    refine lv_aload_n hx hb dX13_setDrag_39 rfl (lv_at hl 1 rfl) ?_
    refine g_get X dX13_setDrag_40 f_X13_34 (hB.one (k := 7) hky0 rfl) 0 (v := .ref (rS y0 1)) rfl rfl ?_
    have k8 : tS (rS y0 1) = 4 := (hB.wtk hky0).1
    refine lv_iload_n hx hb dX13_setDrag_43 rfl (lv_at hl 2 rfl) ?_
    refine g_putiN X dX13_setDrag_44 f_X13_122 (hB.one (k := 4) k8 rfl) hS (x := y1) rfl rfl rfl (fun H locs hb9 oq hS => ?_)
    have hB := hB.putB k8 rfl hb9 oq
    obtain ⟨wS9, ewS9⟩ : ∃ z : Dt, z = up2 wS5 (rS y0 1) 6 y1 := ⟨_, rfl⟩
    rw [← ewS9] at hB
    have hw := hw wS9 ewS9
    refine lv_iload_n hx hb dX13_setDrag_47 rfl (lv_at hl 0 rfl) ?_
    exact e_i X hr dX13_setDrag_48 hS ((wS5 (rS y0 1) 6), wS9) rfl hw hB ⟨Nat.le_of_ble_eq_true rfl, Nat.le_of_ble_eq_true rfl⟩
  · have hw := hw.2 c6
    refine lv_iconst (v := (-1)) hx hb dX13_setDrag_29 (by decide) ?_
    exact e_i X hr dX13_setDrag_30 hS ((-1), wS5) rfl hw hB ⟨Nat.le_of_ble_eq_true rfl, Nat.le_of_ble_eq_true rfl⟩
def wp_X13_setDrag (post : Int32 → Dt → Prop) (tS : Nat → Nat) (nS : Nat → Nat) (rS : Nat → Nat → Nat) (wS : Dt) (x0 : Nat) (x1 : Int32) : Prop := wp_X13_begins (fun wS1 => wp_X13_in (fun r2 => (¬ r2 = 0 → wp_X13_setDrag_22 post tS nS rS  x0 x1 0 x0 wS1) ∧ (r2 = 0 → wp_X13_setDrag_22 post tS nS rS  x0 x1 1 x0 wS1)) tS nS rS wS1 x1.toInt64 0 50) tS nS rS wS x0
set_option maxHeartbeats 4000000 in
set_option maxRecDepth 100000 in
theorem c_X13_setDrag (l : Launch) (D : va_G) (tc : Nat → ClassId) (h0 : Nat) (sa : Nat → Nat) (x0 : Nat) (x1 : Int32) {A : Nat → Prop} (H0 : Heap) {tS nS : Nat → Nat} {rS : Nat → Nat → Nat} {wS : Dt} (hB : SB D tc (sa 3) A tS nS rS wS H0) (hkx0 : tS x0 = 7) (hA0 : ∀ q, A q → h0 ≤ q) {post : Int32 → Dt → Prop} (hw : wp_X13_setDrag post tS nS rS wS x0 x1) : MB l yX13_setDrag cX13_setDrag 3 (Option.some FieldType.int) rm_X13_setDrag A [.ref x0, .int x1] D tc h0 sa H0 (fun u : Int32 × Dt => post u.1 u.2) (fun (u : Int32 × Dt) (H1 : Heap) => SB D tc (sa 3) A tS nS rS u.2 H1) (fun u : Int32 × Dt => some (.int u.1)) := by
  refine MB.of RX13 [(0, .ref x0), (1, .int x1)] (by decide +kernel) rfl (Nat.le_of_ble_eq_true rfl) rfl ?_
  intro p e s m below meth c ls X hr hin hT hH hS hl
  subst hH
  have hx := X.1
  have hb := X.2.1
  have hown := X.2.2.2.1
  have hU := X.2.2.2.2.1.1
  unfold wp_X13_setDrag at hw
  refine lv_aload_n hx hb dX13_setDrag_0 rfl (lv_at hl 0 rfl) ?_
  refine g_after (st0 := [.ref x0]) (rest := []) (g_V X m_X13_61 (c_X13_begins l D tc h0 sa x0 _ hB hkx0 hA0 hw) (recv1 X.2.2.2.2.1 rfl (hB.at (k := 7) hkx0 rfl)) hT hS hA0 dX13_setDrag_1 hl.1 rfl rfl ⟨Nat.le_of_ble_eq_true rfl, Nat.le_of_ble_eq_true rfl⟩ (Nat.le_of_ble_eq_true rfl) ⟨Nat.le_of_ble_eq_true rfl, Nat.le_of_ble_eq_true rfl⟩) hS (fun _ h => h) (fun u => []) (fun _ => rfl) (fun u H locs hw hP9 hz9 hk9 hS => ?_)
  obtain ⟨wS1, rfl⟩ : ∃ z, z = u := ⟨_, rfl⟩
  try dsimp only at hw hP9
  have hB := hP9
  refine lv_aload_n hx hb dX13_setDrag_4 rfl (lv_at hl 0 rfl) ?_
  refine lv_iload_n hx hb dX13_setDrag_5 rfl (lv_at hl 1 rfl) ?_
  refine lv_i2l (v := x1.toInt64) hx hb dX13_setDrag_6 rfl ?_
  refine lv_lconst (v := 0) hx hb dX13_setDrag_7 (by decide) ?_
  refine lv_ldc2 (v := 50) hx hb hown (hU.use w_1277) dX13_setDrag_8 ?_
  refine g_after (st0 := [.long 50, .long 0, .long x1.toInt64, .ref x0]) (rest := [.ref x0]) (g_S X m_X13_13 (c_X13_in l D tc h0 sa x1.toInt64 0 50 _ hB  hw) hT hS hA0 dX13_setDrag_11 hl.1 rfl rfl ⟨Nat.le_of_ble_eq_true rfl, Nat.le_of_ble_eq_true rfl⟩ (Nat.le_of_ble_eq_true rfl) ⟨Nat.le_of_ble_eq_true rfl, Nat.le_of_ble_eq_true rfl⟩) hS (fun _ h => h.elim) (fun u => .int u :: [.ref x0]) (fun _ => rfl) (fun u H9 locs hw hP9 hz9 hk9 hS => ?_)
  obtain ⟨r2, rfl⟩ : ∃ z, z = u := ⟨_, rfl⟩
  try dsimp only at hw hP9
  have e9 : H9 = _ := hP9
  rw [e9] at hS ⊢
  refine lv_if_ne (tgt := 21) hx hb dX13_setDrag_14 (by decide) (fun c3 => ?_) (fun c3 => ?_)
  · have hw := hw.1 c3
    refine lv_iconst (v := 0) hx hb dX13_setDrag_21 (by decide) ?_
    exact t_X13_setDrag_22 X hr hT hA0  x0 x1 0 x0 wS1 _ _ _ hw hB hkx0 hkx0 hS (lv_sub hl [0, 1] rfl)
  · have hw := hw.2 c3
    refine lv_iconst (v := 1) hx hb dX13_setDrag_17 (by decide) ?_
    refine lv_goto (tgt := 22) hx hb dX13_setDrag_18 (by decide) ?_
    exact t_X13_setDrag_22 X hr hT hA0  x0 x1 1 x0 wS1 _ _ _ hw hB hkx0 hkx0 hS (lv_sub hl [0, 1] rfl)
abbrev rm_X13_getDeep : Room := { frames := 1, cells := 0, slots := 0, locals := 20 }
def wp_X13_getDeep (post : Int32 → Dt → Prop) (tS : Nat → Nat) (nS : Nat → Nat) (rS : Nat → Nat → Nat) (wS : Dt) (x0 : Nat) : Prop := wp_X13_begins (fun wS1 => post (wS1 (rS x0 1) 7) wS1) tS nS rS wS x0
set_option maxHeartbeats 4000000 in
set_option maxRecDepth 100000 in
theorem c_X13_getDeep (l : Launch) (D : va_G) (tc : Nat → ClassId) (h0 : Nat) (sa : Nat → Nat) (x0 : Nat) {A : Nat → Prop} (H0 : Heap) {tS nS : Nat → Nat} {rS : Nat → Nat → Nat} {wS : Dt} (hB : SB D tc (sa 3) A tS nS rS wS H0) (hkx0 : tS x0 = 7) (hA0 : ∀ q, A q → h0 ≤ q) {post : Int32 → Dt → Prop} (hw : wp_X13_getDeep post tS nS rS wS x0) : MB l yX13_getDeep cX13_getDeep 1 (Option.some FieldType.int) rm_X13_getDeep A [.ref x0] D tc h0 sa H0 (fun u : Int32 × Dt => post u.1 u.2) (fun (u : Int32 × Dt) (H1 : Heap) => SB D tc (sa 3) A tS nS rS u.2 H1) (fun u : Int32 × Dt => some (.int u.1)) := by
  refine MB.of RX13 [(0, .ref x0)] (by decide +kernel) rfl (Nat.le_of_ble_eq_true rfl) rfl ?_
  intro p e s m below meth c ls X hr hin hT hH hS hl
  subst hH
  have hx := X.1
  have hb := X.2.1
  have hown := X.2.2.2.1
  have hU := X.2.2.2.2.1.1
  unfold wp_X13_getDeep at hw
  refine lv_aload_n hx hb dX13_getDeep_0 rfl (lv_at hl 0 rfl) ?_
  refine g_after (st0 := [.ref x0]) (rest := []) (g_V X m_X13_61 (c_X13_begins l D tc h0 sa x0 _ hB hkx0 hA0 hw) (recv1 X.2.2.2.2.1 rfl (hB.at (k := 7) hkx0 rfl)) hT hS hA0 dX13_getDeep_1 hl.1 rfl rfl ⟨Nat.le_of_ble_eq_true rfl, Nat.le_of_ble_eq_true rfl⟩ (Nat.le_of_ble_eq_true rfl) ⟨Nat.le_of_ble_eq_true rfl, Nat.le_of_ble_eq_true rfl⟩) hS (fun _ h => h) (fun u => []) (fun _ => rfl) (fun u H locs hw hP9 hz9 hk9 hS => ?_)
  obtain ⟨wS1, rfl⟩ : ∃ z, z = u := ⟨_, rfl⟩
  try dsimp only at hw hP9
  have hB := hP9
  refine lv_aload_n hx hb dX13_getDeep_4 rfl (lv_at hl 0 rfl) ?_
  refine g_get X dX13_getDeep_5 f_X13_34 (hB.one (k := 7) hkx0 rfl) 0 (v := .ref (rS x0 1)) rfl rfl ?_
  have k2 : tS (rS x0 1) = 4 := (hB.wtk hkx0).1
  refine g_getN X dX13_getDeep_8 f_X13_125 (hB.one (k := 4) k2 rfl) 0 (v := .int (wS1 (rS x0 1) 7)) rfl rfl ?_
  exact e_i X hr dX13_getDeep_11 hS ((wS1 (rS x0 1) 7), wS1) rfl hw hB ⟨Nat.le_of_ble_eq_true rfl, Nat.le_of_ble_eq_true rfl⟩
