/-! THE MODEL: calls on storms and scars -/
abbrev rm_X13_adds (b0 s0 : Nat) : Room := { frames := 7, cells := b0, slots := s0, locals := 191 }
def wp_X13_adds (post : Int32 → (Nat → Nat) → (Nat → Nat) → (Nat → Nat → Nat) → Dt → Prop)  (tS : Nat → Nat) (nS : Nat → Nat) (rS : Nat → Nat → Nat) (wS : Dt) (bS : Nat) (sS : Nat) (x0 : Nat) (x1 : Int32) (x2 : Int32) (x3 : Int32) : Prop := 1 ≤ bS ∧ (7 ≤ sS ∧ (∀ q1 : Nat, tS q1 = 0 → (∀ tS6 : Nat → Nat, tS6 = va_up tS q1 3 → (∀ wS7 : Dt, wS7 = va_up wS q1 stW → (∀ wS9 : Dt, wS9 = up2 wS7 q1 0 x1 → (∀ wS10 : Dt, wS10 = up2 wS9 q1 1 x2 → (∀ wS11 : Dt, wS11 = up2 wS10 q1 2 x3 → (nS (rS (rS x0 1) 8) < 400 ∧ (1 ≤ (bS - 1) ∧ ((2 * (nS (rS (rS x0 1) 8)) + 10) ≤ (sS - 7) ∧ (∀ nS17 : Nat → Nat, nS17 = va_up nS (rS (rS x0 1) 8) (nS (rS (rS x0 1) 8) + 1) → (∀ rS18 : Nat → Nat → Nat, rS18 = va_up rS (rS (rS x0 1) 8) (va_up (rS (rS (rS x0 1) 8)) (nS (rS (rS x0 1) 8)) q1) → (∀ wS19 : Dt, wS19 = up2 wS11 (rS (rS x0 1) 8) 0 (wS11 (rS (rS x0 1) 8) 0 + 1) → (post ((nI (nS17 (rS18 (rS18 x0 1) 8))) - 1) tS6 nS17 rS18 wS19))))))))))))))
set_option maxHeartbeats 4000000 in
set_option maxRecDepth 100000 in
theorem c_X13_adds (l : Launch) (D : va_G) (tc : Nat → ClassId) (h0 : Nat) (sa : Nat → Nat) (x0 : Nat) (x1 : Int32) (x2 : Int32) (x3 : Int32) (b0 s0 : Nat) {Am : Nat → Prop} (H0 : Heap) {tS nS : Nat → Nat} {rS : Nat → Nat → Nat} {wS : Dt} (hB : SB D tc (sa 3) Am tS nS rS wS H0) (hkx0 : tS x0 = 7) (hA0 : ∀ q, Am q → h0 ≤ q) (hAF : ∀ x, H0.size ≤ x → Am x) {post : Int32 → (Nat → Nat) → (Nat → Nat) → (Nat → Nat → Nat) → Dt → Prop} (hw : wp_X13_adds post  tS nS rS wS b0 s0 x0 x1 x2 x3) : MB l yX13_adds cX13_adds 5 (Option.some FieldType.int) (rm_X13_adds b0 s0) Am [.ref x0, .int x1, .int x2, .int x3] D tc h0 sa H0 (fun u : Int32 × (Nat → Nat) × (Nat → Nat) × (Nat → Nat → Nat) × Dt => post u.1 u.2.1 u.2.2.1 u.2.2.2.1 u.2.2.2.2) (fun (u : Int32 × (Nat → Nat) × (Nat → Nat) × (Nat → Nat → Nat) × Dt) (H1 : Heap) => SB D tc (sa 3) Am u.2.1 u.2.2.1 u.2.2.2.1 u.2.2.2.2 H1 ∧ Ext tS u.2.1) (fun u : Int32 × (Nat → Nat) × (Nat → Nat) × (Nat → Nat → Nat) × Dt => some (.int u.1)) := by
  refine MB.of RX13 [(0, .ref x0), (1, .int x1), (2, .int x2), (3, .int x3)] (by decide +kernel) rfl (Nat.le_of_ble_eq_true rfl) rfl ?_
  intro p e s m below meth c ls X hr hin hT hH hS hl
  subst hH
  have hx := X.1
  have hb := X.2.1
  have hown := X.2.2.2.1
  have hU := X.2.2.2.2.1.1
  unfold wp_X13_adds at hw
  obtain ⟨A, eA⟩ : ∃ z, z = Am := ⟨_, rfl⟩
  have hB : SB D tc (sa 3) A tS nS rS wS s.heap := by rw [eA]; exact hB
  have hAm9 := hAF
  have hAF : ∀ x, s.heap.size ≤ x → A x := by rw [eA]; exact hAF
  have hAS : ∀ x, A x → Am x := by rw [eA]; exact fun _ h => h
  have hX : Ext tS tS := Ext.rf
  obtain ⟨bS, ebS⟩ : ∃ z, z = b0 := ⟨_, rfl⟩
  obtain ⟨sS, esS⟩ : ∃ z, z = s0 := ⟨_, rfl⟩
  rw [← ebS, ← esS] at hw
  refine W_bud (b := bS) (s1 := sS) (B := b0) (S := s0) (show 0 + bS ≤ b0 by omega) (show 0 + sS ≤ s0 by omega) (fun cells slots hc hs => ?_)
  obtain ⟨o2, hw⟩ := hw
  obtain ⟨o3, hw⟩ := hw
  refine x_new (A := Am) X nw_X13_128 (fs := [.int 0, .int 0, .int 0, .int 0, .int 0, .int 0, .int 0]) (fun j hj => by rcases (show j = 0 ∨ j = 1 ∨ j = 2 ∨ j = 3 ∨ j = 4 ∨ j = 5 ∨ j = 6 by omega) with e | e | e | e | e | e | e <;> subst e <;> rfl) hS hAm9 ⟨show cells + 1 ≤ b0 by omega, show slots + 7 ≤ s0 by omega⟩ dX13_adds_0 (fun q1 H hq9 hat9 hAq hz9 hqz o1 hS => ?_)
  refine lv_dup hx hb dX13_adds_3 rfl ?_
  refine g_after (st0 := .ref q1 :: [.ref q1]) (rest := [.ref q1]) (g_IN X m_X13_130 (c_in3 l D tc h0 sa _ q1 hat9 (hA0 _ hAq)) hT hS hA0 dX13_adds_4 hl.1 rfl rfl ⟨Nat.le_of_ble_eq_true rfl, Nat.le_of_ble_eq_true rfl⟩ (Nat.le_of_ble_eq_true rfl) ⟨show (cells + 1) + 0 ≤ b0 by omega, show (slots + 7) + 0 ≤ s0 by omega⟩) hS (fun x h => h ▸ hAq) (fun u => [.ref q1]) (fun _ => rfl) (fun u H locs hu hP9 hz8 hk9 hS => ?_)
  have o2 := fun x hx => (hk9 x (by omega) (fun e => by omega)).trans (o1 x hx)
  have hat9 := hP9
  obtain ⟨z4, hB, hX9, k5⟩ := hB.make (k := 3) (W := stW) (hAF q1 hq9) hq9 o2 rfl hat9 trivial
  have hAF : ∀ x, H.size ≤ x → A x := fun x h => hAF x (by omega)
  have hw := hw q1 z4
  obtain ⟨tS6, etS6⟩ : ∃ z : Nat → Nat, z = va_up tS q1 3 := ⟨_, rfl⟩
  rw [← etS6] at hB hX9 k5
  have hw := hw tS6 etS6
  obtain ⟨wS7, ewS7⟩ : ∃ z : Dt, z = va_up wS q1 stW := ⟨_, rfl⟩
  rw [← ewS7] at hB
  have hw := hw wS7 ewS7
  have hX := hX.trans hX9
  have k8 : tS6 x0 = 7 := hX9.to hkx0
  refine W_bud (b := (bS - 1)) (s1 := (sS - 7)) (B := b0) (S := s0) (show (cells + 1 + 0) + (bS - 1) ≤ b0 by omega) (show (slots + 7 + 0) + (sS - 7) ≤ s0 by omega) (fun cells slots hc hs => ?_)
  refine lv_astore (lv' := [(4, .ref q1), (0, .ref x0), (1, .int x1), (2, .int x2), (3, .int x3)]) hx hb dX13_adds_7 hl (by decide) rfl (fun ls hl => ?_)
  refine lv_aload hx hb dX13_adds_9 (lv_at hl 0 rfl) ?_
  refine lv_iload_n hx hb dX13_adds_11 rfl (lv_at hl 2 rfl) ?_
  refine g_putiN X dX13_adds_12 f_X13_131 (hB.oneB (k := 3) hAS k5 rfl) hS (x := x1) rfl rfl rfl (fun H locs hb9 oq hS => ?_)
  have hB := hB.putB k5 rfl hb9 oq
  have hAF : ∀ x, H.size ≤ x → A x := fun x h => hAF x (Nat.le_trans (sz_of oq (hB.lt (by rw [k5]; decide)).1) h)
  obtain ⟨wS9, ewS9⟩ : ∃ z : Dt, z = up2 wS7 q1 0 x1 := ⟨_, rfl⟩
  rw [← ewS9] at hB
  have hw := hw wS9 ewS9
  refine lv_aload hx hb dX13_adds_15 (lv_at hl 0 rfl) ?_
  refine lv_iload_n hx hb dX13_adds_17 rfl (lv_at hl 3 rfl) ?_
  refine g_putiN X dX13_adds_18 f_X13_134 (hB.oneB (k := 3) hAS k5 rfl) hS (x := x2) rfl rfl rfl (fun H locs hb9 oq hS => ?_)
  have hB := hB.putB k5 rfl hb9 oq
  have hAF : ∀ x, H.size ≤ x → A x := fun x h => hAF x (Nat.le_trans (sz_of oq (hB.lt (by rw [k5]; decide)).1) h)
  obtain ⟨wS10, ewS10⟩ : ∃ z : Dt, z = up2 wS9 q1 1 x2 := ⟨_, rfl⟩
  rw [← ewS10] at hB
  have hw := hw wS10 ewS10
  refine lv_aload hx hb dX13_adds_21 (lv_at hl 0 rfl) ?_
  refine lv_iload_n hx hb dX13_adds_23 rfl (lv_at hl 4 rfl) ?_
  refine g_putiN X dX13_adds_24 f_X13_137 (hB.oneB (k := 3) hAS k5 rfl) hS (x := x3) rfl rfl rfl (fun H locs hb9 oq hS => ?_)
  have hB := hB.putB k5 rfl hb9 oq
  have hAF : ∀ x, H.size ≤ x → A x := fun x h => hAF x (Nat.le_trans (sz_of oq (hB.lt (by rw [k5]; decide)).1) h)
  obtain ⟨wS11, ewS11⟩ : ∃ z : Dt, z = up2 wS10 q1 2 x3 := ⟨_, rfl⟩
  rw [← ewS11] at hB
  have hw := hw wS11 ewS11
  refine lv_aload_n hx hb dX13_adds_27 rfl (lv_at hl 1 rfl) ?_
  refine g_get X dX13_adds_28 f_X13_34 (hB.one (k := 7) k8 rfl) 0 (v := .ref (rS x0 1)) rfl rfl ?_
  have k12 : tS6 (rS x0 1) = 4 := (hB.wtk k8).1
  refine g_getN X dX13_adds_31 f_X13_139 (hB.one (k := 4) k12 rfl) 0 (v := .ref (rS (rS x0 1) 8)) rfl rfl ?_
  have k13 : tS6 (rS (rS x0 1) 8) = 8 := (hB.wtk k12).2.2.2.2.1
  refine lv_aload hx hb dX13_adds_34 (lv_at hl 0 rfl) ?_
  obtain ⟨fs9, hat9⟩ := hB.lat (isL_of k13)
  obtain ⟨o14, hw⟩ := hw
  obtain ⟨o15, hw⟩ := hw
  obtain ⟨o16, hw⟩ := hw
  refine g_after5 (st0 := [.ref q1, .ref (rS (rS x0 1) 8)]) (rest := []) (g_F X mf_X13_142 (c_add l D tc h0 sa _ (rS (rS x0 1) 8) q1 hB (isL_of k13) (by rw [k13, k5]; rfl) o14 (fun x h => hA0 x (hAS x h)) hAF) rfl hat9 hT hS hA0 dX13_adds_36 hl.1 rfl rfl ⟨Nat.le_of_ble_eq_true rfl, Nat.le_of_ble_eq_true rfl⟩ (Nat.le_of_ble_eq_true rfl) ⟨show cells + 1 ≤ b0 by omega, show slots + (2 * (nS (rS (rS x0 1) 8)) + 10) ≤ s0 by omega⟩) hS hAS (fun u => .int 1 :: []) (fun _ => rfl) (fun u H locs hu hP9 hz9 hk9 hS => ?_)
  have hB := hP9
  have hAF : ∀ x, H.size ≤ x → A x := fun x h => hAF x (by omega)
  refine W_bud (b := ((bS - 1) - 1)) (s1 := ((sS - 7) - (2 * (nS (rS (rS x0 1) 8)) + 10))) (B := b0) (S := s0) (show (cells + 1) + ((bS - 1) - 1) ≤ b0 by omega) (show (slots + (2 * (nS (rS (rS x0 1) 8)) + 10)) + ((sS - 7) - (2 * (nS (rS (rS x0 1) 8)) + 10)) ≤ s0 by omega) (fun cells slots hc hs => ?_)
  obtain ⟨nS17, enS17⟩ : ∃ z : Nat → Nat, z = va_up nS (rS (rS x0 1) 8) (nS (rS (rS x0 1) 8) + 1) := ⟨_, rfl⟩
  rw [← enS17] at hB
  have hw := hw nS17 enS17
  obtain ⟨rS18, erS18⟩ : ∃ z : Nat → Nat → Nat, z = va_up rS (rS (rS x0 1) 8) (va_up (rS (rS (rS x0 1) 8)) (nS (rS (rS x0 1) 8)) q1) := ⟨_, rfl⟩
  rw [← erS18] at hB
  have hw := hw rS18 erS18
  obtain ⟨wS19, ewS19⟩ : ∃ z : Dt, z = up2 wS11 (rS (rS x0 1) 8) 0 (wS11 (rS (rS x0 1) 8) 0 + 1) := ⟨_, rfl⟩
  rw [← ewS19] at hB
  have hw := hw wS19 ewS19
  refine lv_pop hx hb dX13_adds_41 rfl ?_
  refine lv_aload_n hx hb dX13_adds_42 rfl (lv_at hl 1 rfl) ?_
  refine g_get X dX13_adds_43 f_X13_34 (hB.one (k := 7) k8 rfl) 0 (v := .ref (rS18 x0 1)) rfl rfl ?_
  have k20 : tS6 (rS18 x0 1) = 4 := (hB.wtk k8).1
  refine g_getN X dX13_adds_46 f_X13_139 (hB.one (k := 4) k20 rfl) 0 (v := .ref (rS18 (rS18 x0 1) 8)) rfl rfl ?_
  have k21 : tS6 (rS18 (rS18 x0 1) 8) = 8 := (hB.wtk k20).2.2.2.2.1
  obtain ⟨fs9, hat9⟩ := hB.lat (isL_of k21)
  refine g_after5 (st0 := [.ref (rS18 (rS18 x0 1) 8)]) (rest := []) (g_F X mf_X13_7 (c_size l D tc h0 sa _ (rS18 (rS18 x0 1) 8) hB (isL_of k21)) rfl hat9 hT hS hA0 dX13_adds_49 hl.1 rfl rfl ⟨Nat.le_of_ble_eq_true rfl, Nat.le_of_ble_eq_true rfl⟩ (Nat.le_of_ble_eq_true rfl) ⟨show cells + 0 ≤ b0 by omega, show slots + 0 ≤ s0 by omega⟩) hS (fun _ h => h.elim) (fun u => .int (nI (nS17 (rS18 (rS18 x0 1) 8))) :: []) (fun _ => rfl) (fun u H9 locs hu hP9 hz9 hk9 hS => ?_)
  have e9 : H9 = _ := hP9
  rw [e9] at hS ⊢
  refine W.widen (k := cells) (n := slots) (Nat.le_refl _) (Nat.le_refl _) ?_
  refine lv_iconst (v := 1) hx hb dX13_adds_54 (by decide) ?_
  refine lv_isub hx hb dX13_adds_55 ?_
  exact e_i X hr dX13_adds_56 hS (((nI (nS17 (rS18 (rS18 x0 1) 8))) - 1), tS6, nS17, rS18, wS19) rfl hw ⟨hB.regs hAS, hX⟩ ⟨show cells ≤ b0 by omega, show slots ≤ s0 by omega⟩
abbrev rm_X13_nameStorm : Room := { frames := 4, cells := 0, slots := 0, locals := 87 }
def wp_X13_nameStorm_92 (post : Int32 → Dt → Prop) (tS : Nat → Nat) (nS : Nat → Nat) (rS : Nat → Nat → Nat)  (wS : Dt) : Prop := post 32 wS
set_option maxHeartbeats 4000000 in
set_option maxRecDepth 100000 in
theorem t_X13_nameStorm_92 : ∀ {p : Program} {l : Launch} {e : Env} {s : State} {m : MethodId} {args : Array Value} {below : List Frame} {meth : Method} {c : Code} {D : va_G} {tc : Nat → ClassId} {h0 : Nat} {sa : Nat → Nat} {A : Nat → Prop} {post : Int32 → Dt → Prop} {tS : Nat → Nat} {nS : Nat → Nat} {rS : Nat → Nat → Nat}  (X : Cx p c s m meth cX13_nameStorm 4 RX13 D tc) (hr : meth.sig.returnType = (Option.some FieldType.char)) (hT : ST h0 sa s s.heap) (hA0 : ∀ q, A q → h0 ≤ q) , ∀ (wS : Dt) (H : Heap) (locs : List Loc) (ls : Array Slot), wp_X13_nameStorm_92 post tS nS rS  wS → SB D tc (sa 3) A tS nS rS wS H → va_S A s.heap H locs → lv_has ls 4 [] → W p l e rm_X13_nameStorm s m args below meth c H locs 0 0 (MQ below (QB (fun u : Int32 × Dt => post u.1 u.2) (fun (u : Int32 × Dt) (H1 : Heap) => SB D tc (sa 3) A tS nS rS u.2 H1) (fun u : Int32 × Dt => some (.int u.1)) A) args s rm_X13_nameStorm.cells rm_X13_nameStorm.slots A) (F0 m 92 ls []) := by
  intro p l e s m args below meth c D tc h0 sa A post tS nS rS  X hr hT hA0   wS H locs ls hw hB  hS hl
  have hx := X.1
  have hb := X.2.1
  have hown := X.2.2.2.1
  have hU := X.2.2.2.2.1.1
  unfold wp_X13_nameStorm_92 at hw
  refine lv_bipush (v := 32) hx hb dX13_nameStorm_92 (by decide) ?_
  exact e_z X hr rfl dX13_nameStorm_94 hS (32, wS) rfl hw hB ⟨Nat.le_of_ble_eq_true rfl, Nat.le_of_ble_eq_true rfl⟩
def wp_X13_nameStorm_85 (post : Int32 → Dt → Prop) (tS : Nat → Nat) (nS : Nat → Nat) (rS : Nat → Nat → Nat)  (y0 : Nat) (y1 : Int32) (y2 : Int32) (z0 : Int32) (z1 : Nat) (wS : Dt) : Prop := wp_X13_fails (fun r15 wS16 => (r15 = 0 → vp_in y1 (nS (rS (rS y0 1) 8)) ∧ (∀ v22 : Int32, v22 = (wS16 (rS (rS (rS y0 1) 8) y1.toNatClampNeg) 4) → (narrow .char (.int y2) = .int y2 ∧ (fits .char (.int y2) = true ∧ (∀ wS28 : Dt, wS28 = up2 wS16 (rS (rS (rS y0 1) 8) y1.toNatClampNeg) 4 y2 → (narrow .char (.int v22) = .int v22 ∧ (post v22 wS28))))))) ∧ (¬ r15 = 0 → wp_X13_nameStorm_92 post tS nS rS  wS16)) tS nS rS wS z1 z0 3
set_option maxHeartbeats 4000000 in
set_option maxRecDepth 100000 in
theorem t_X13_nameStorm_85 : ∀ {p : Program} {l : Launch} {e : Env} {s : State} {m : MethodId} {args : Array Value} {below : List Frame} {meth : Method} {c : Code} {D : va_G} {tc : Nat → ClassId} {h0 : Nat} {sa : Nat → Nat} {A : Nat → Prop} {post : Int32 → Dt → Prop} {tS : Nat → Nat} {nS : Nat → Nat} {rS : Nat → Nat → Nat}  (X : Cx p c s m meth cX13_nameStorm 4 RX13 D tc) (hr : meth.sig.returnType = (Option.some FieldType.char)) (hT : ST h0 sa s s.heap) (hA0 : ∀ q, A q → h0 ≤ q) , ∀ (y0 : Nat) (y1 : Int32) (y2 : Int32) (z0 : Int32) (z1 : Nat) (wS : Dt) (H : Heap) (locs : List Loc) (ls : Array Slot), wp_X13_nameStorm_85 post tS nS rS  y0 y1 y2 z0 z1 wS → SB D tc (sa 3) A tS nS rS wS H → (tS y0 = 7) → (tS z1 = 7) → va_S A s.heap H locs → lv_has ls 4 [(0, .ref y0), (1, .int y1), (2, .int y2)] → W p l e rm_X13_nameStorm s m args below meth c H locs 0 0 (MQ below (QB (fun u : Int32 × Dt => post u.1 u.2) (fun (u : Int32 × Dt) (H1 : Heap) => SB D tc (sa 3) A tS nS rS u.2 H1) (fun u : Int32 × Dt => some (.int u.1)) A) args s rm_X13_nameStorm.cells rm_X13_nameStorm.slots A) (F0 m 85 ls [.int z0, .ref z1]) := by
  intro p l e s m args below meth c D tc h0 sa A post tS nS rS  X hr hT hA0   y0 y1 y2 z0 z1 wS H locs ls hw hB hky0 hkz1 hS hl
  have hx := X.1
  have hb := X.2.1
  have hown := X.2.2.2.1
  have hU := X.2.2.2.2.1.1
  unfold wp_X13_nameStorm_85 at hw
  refine lv_iconst (v := 3) hx hb dX13_nameStorm_85 (by decide) ?_
  refine g_after (st0 := [.int 3, .int z0, .ref z1]) (rest := []) (g_V X m_X13_57 (c_X13_fails l D tc h0 sa z1 z0 3 _ hB hkz1 hA0 hw) (recv1 X.2.2.2.2.1 rfl (hB.at (k := 7) hkz1 rfl)) hT hS hA0 dX13_nameStorm_86 hl.1 rfl rfl ⟨Nat.le_of_ble_eq_true rfl, Nat.le_of_ble_eq_true rfl⟩ (Nat.le_of_ble_eq_true rfl) ⟨Nat.le_of_ble_eq_true rfl, Nat.le_of_ble_eq_true rfl⟩) hS (fun _ h => h) (fun u => .int u.1 :: []) (fun _ => rfl) (fun u H locs hw hP9 hz9 hk9 hS => ?_)
  obtain ⟨r15, wS16⟩ := u
  try dsimp only at hw hP9
  have hB := hP9
  refine lv_if_eq (tgt := 95) hx hb dX13_nameStorm_89 (by decide) (fun c17 => ?_) (fun c17 => ?_)
  · have hw := hw.1 c17
    refine lv_aload_n hx hb dX13_nameStorm_95 rfl (lv_at hl 0 rfl) ?_
    refine g_get X dX13_nameStorm_96 f_X13_34 (hB.one (k := 7) hky0 rfl) 0 (v := .ref (rS y0 1)) rfl rfl ?_
    have k18 : tS (rS y0 1) = 4 := (hB.wtk hky0).1
    refine g_getN X dX13_nameStorm_99 f_X13_139 (hB.one (k := 4) k18 rfl) 0 (v := .ref (rS (rS y0 1) 8)) rfl rfl ?_
    have k19 : tS (rS (rS y0 1) 8) = 8 := (hB.wtk k18).2.2.2.2.1
    refine lv_iload_n hx hb dX13_nameStorm_102 rfl (lv_at hl 1 rfl) ?_
    obtain ⟨fs9, hat9⟩ := hB.lat (isL_of k19)
    obtain ⟨o20, hw⟩ := hw
    refine g_after5 (st0 := [.int y1, .ref (rS (rS y0 1) 8)]) (rest := []) (g_F X mf_X13_163 (c_get l D tc h0 sa _ (rS (rS y0 1) 8) hB (isL_of k19) o20) rfl hat9 hT hS hA0 dX13_nameStorm_103 hl.1 rfl rfl ⟨Nat.le_of_ble_eq_true rfl, Nat.le_of_ble_eq_true rfl⟩ (Nat.le_of_ble_eq_true rfl) ⟨Nat.le_of_ble_eq_true rfl, Nat.le_of_ble_eq_true rfl⟩) hS (fun _ h => h.elim) (fun u => .ref (rS (rS (rS y0 1) 8) y1.toNatClampNeg) :: []) (fun _ => rfl) (fun u H9 locs hu hP9 hz9 hk9 hS => ?_)
    have e9 : H9 = _ := hP9
    rw [e9] at hS ⊢
    have k21 : tS (rS (rS (rS y0 1) 8) y1.toNatClampNeg) = 3 := hB.elt k19 (lt10 o20)
    refine x_cast X w_1435 rfl (hB.at (k := 3) k21 rfl) dX13_nameStorm_108 ?_
    refine g_getN X dX13_nameStorm_111 f_X13_171 (hB.one (k := 3) k21 rfl) 0 (v := .int (wS16 (rS (rS (rS y0 1) 8) y1.toNatClampNeg) 4)) rfl rfl ?_
    refine lv_topi (fun v22 ev22 => ?_)
    have hw := hw v22 ev22
    refine lv_istore_n (lv' := [(3, .int v22), (0, .ref y0), (1, .int y1), (2, .int y2)]) hx hb dX13_nameStorm_114 rfl hl (by decide) rfl (fun ls hl => ?_)
    refine lv_aload_n hx hb dX13_nameStorm_115 rfl (lv_at hl 1 rfl) ?_
    refine g_get X dX13_nameStorm_116 f_X13_34 (hB.one (k := 7) hky0 rfl) 0 (v := .ref (rS y0 1)) rfl rfl ?_
    have k23 : tS (rS y0 1) = 4 := (hB.wtk hky0).1
    refine g_getN X dX13_nameStorm_119 f_X13_139 (hB.one (k := 4) k23 rfl) 0 (v := .ref (rS (rS y0 1) 8)) rfl rfl ?_
    have k24 : tS (rS (rS y0 1) 8) = 8 := (hB.wtk k23).2.2.2.2.1
    refine lv_iload_n hx hb dX13_nameStorm_122 rfl (lv_at hl 2 rfl) ?_
    obtain ⟨fs9, hat9⟩ := hB.lat (isL_of k24)
    refine g_after5 (st0 := [.int y1, .ref (rS (rS y0 1) 8)]) (rest := []) (g_F X mf_X13_163 (c_get l D tc h0 sa _ (rS (rS y0 1) 8) hB (isL_of k24) o20) rfl hat9 hT hS hA0 dX13_nameStorm_123 hl.1 rfl rfl ⟨Nat.le_of_ble_eq_true rfl, Nat.le_of_ble_eq_true rfl⟩ (Nat.le_of_ble_eq_true rfl) ⟨Nat.le_of_ble_eq_true rfl, Nat.le_of_ble_eq_true rfl⟩) hS (fun _ h => h.elim) (fun u => .ref (rS (rS (rS y0 1) 8) y1.toNatClampNeg) :: []) (fun _ => rfl) (fun u H9 locs hu hP9 hz9 hk9 hS => ?_)
    have e9 : H9 = _ := hP9
    rw [e9] at hS ⊢
    have k25 : tS (rS (rS (rS y0 1) 8) y1.toNatClampNeg) = 3 := hB.elt k24 (lt10 o20)
    refine x_cast X w_1435 rfl (hB.at (k := 3) k25 rfl) dX13_nameStorm_128 ?_
    refine lv_iload_n hx hb dX13_nameStorm_131 rfl (lv_at hl 3 rfl) ?_
    obtain ⟨o26, hw⟩ := hw
    obtain ⟨o27, hw⟩ := hw
    refine g_putiN X dX13_nameStorm_132 f_X13_171 (hB.one (k := 3) k25 rfl) hS (x := y2) rfl o26 o27 (fun H locs hb9 oq hS => ?_)
    have hB := hB.putB k25 rfl hb9 oq
    obtain ⟨wS28, ewS28⟩ : ∃ z : Dt, z = up2 wS16 (rS (rS (rS y0 1) 8) y1.toNatClampNeg) 4 y2 := ⟨_, rfl⟩
    rw [← ewS28] at hB
    have hw := hw wS28 ewS28
    refine lv_iload_n hx hb dX13_nameStorm_135 rfl (lv_at hl 0 rfl) ?_
    obtain ⟨o29, hw⟩ := hw
    exact e_z X hr o29 dX13_nameStorm_136 hS (v22, wS28) rfl hw hB ⟨Nat.le_of_ble_eq_true rfl, Nat.le_of_ble_eq_true rfl⟩
  · have hw := hw.2 c17
    exact t_X13_nameStorm_92 X hr hT hA0  wS16 _ _ _ hw hB  hS (lv_sub hl [] rfl)
def wp_X13_nameStorm_80 (post : Int32 → Dt → Prop) (tS : Nat → Nat) (nS : Nat → Nat) (rS : Nat → Nat → Nat)  (y0 : Nat) (y1 : Int32) (y2 : Int32) (z0 : Nat) (wS : Dt) : Prop := wp_X13_nameStorm_85 post tS nS rS  y0 y1 y2 1 z0 wS
set_option maxHeartbeats 4000000 in
set_option maxRecDepth 100000 in
theorem t_X13_nameStorm_80 : ∀ {p : Program} {l : Launch} {e : Env} {s : State} {m : MethodId} {args : Array Value} {below : List Frame} {meth : Method} {c : Code} {D : va_G} {tc : Nat → ClassId} {h0 : Nat} {sa : Nat → Nat} {A : Nat → Prop} {post : Int32 → Dt → Prop} {tS : Nat → Nat} {nS : Nat → Nat} {rS : Nat → Nat → Nat}  (X : Cx p c s m meth cX13_nameStorm 4 RX13 D tc) (hr : meth.sig.returnType = (Option.some FieldType.char)) (hT : ST h0 sa s s.heap) (hA0 : ∀ q, A q → h0 ≤ q) , ∀ (y0 : Nat) (y1 : Int32) (y2 : Int32) (z0 : Nat) (wS : Dt) (H : Heap) (locs : List Loc) (ls : Array Slot), wp_X13_nameStorm_80 post tS nS rS  y0 y1 y2 z0 wS → SB D tc (sa 3) A tS nS rS wS H → (tS y0 = 7) → (tS z0 = 7) → va_S A s.heap H locs → lv_has ls 4 [(0, .ref y0), (1, .int y1), (2, .int y2)] → W p l e rm_X13_nameStorm s m args below meth c H locs 0 0 (MQ below (QB (fun u : Int32 × Dt => post u.1 u.2) (fun (u : Int32 × Dt) (H1 : Heap) => SB D tc (sa 3) A tS nS rS u.2 H1) (fun u : Int32 × Dt => some (.int u.1)) A) args s rm_X13_nameStorm.cells rm_X13_nameStorm.slots A) (F0 m 80 ls [.ref z0]) := by
  intro p l e s m args below meth c D tc h0 sa A post tS nS rS  X hr hT hA0   y0 y1 y2 z0 wS H locs ls hw hB hky0 hkz0 hS hl
  have hx := X.1
  have hb := X.2.1
  have hown := X.2.2.2.1
  have hU := X.2.2.2.2.1.1
  unfold wp_X13_nameStorm_80 at hw
  refine lv_iconst (v := 1) hx hb dX13_nameStorm_80 (by decide) ?_
  refine lv_goto (tgt := 85) hx hb dX13_nameStorm_81 (by decide) ?_
  exact t_X13_nameStorm_85 X hr hT hA0  y0 y1 y2 1 z0 wS _ _ _ hw hB hky0 hkz0 hS (lv_sub hl [0, 1, 2] rfl)
def wp_X13_nameStorm_84 (post : Int32 → Dt → Prop) (tS : Nat → Nat) (nS : Nat → Nat) (rS : Nat → Nat → Nat)  (y0 : Nat) (y1 : Int32) (y2 : Int32) (z0 : Nat) (wS : Dt) : Prop := wp_X13_nameStorm_85 post tS nS rS  y0 y1 y2 0 z0 wS
set_option maxHeartbeats 4000000 in
set_option maxRecDepth 100000 in
theorem t_X13_nameStorm_84 : ∀ {p : Program} {l : Launch} {e : Env} {s : State} {m : MethodId} {args : Array Value} {below : List Frame} {meth : Method} {c : Code} {D : va_G} {tc : Nat → ClassId} {h0 : Nat} {sa : Nat → Nat} {A : Nat → Prop} {post : Int32 → Dt → Prop} {tS : Nat → Nat} {nS : Nat → Nat} {rS : Nat → Nat → Nat}  (X : Cx p c s m meth cX13_nameStorm 4 RX13 D tc) (hr : meth.sig.returnType = (Option.some FieldType.char)) (hT : ST h0 sa s s.heap) (hA0 : ∀ q, A q → h0 ≤ q) , ∀ (y0 : Nat) (y1 : Int32) (y2 : Int32) (z0 : Nat) (wS : Dt) (H : Heap) (locs : List Loc) (ls : Array Slot), wp_X13_nameStorm_84 post tS nS rS  y0 y1 y2 z0 wS → SB D tc (sa 3) A tS nS rS wS H → (tS y0 = 7) → (tS z0 = 7) → va_S A s.heap H locs → lv_has ls 4 [(0, .ref y0), (1, .int y1), (2, .int y2)] → W p l e rm_X13_nameStorm s m args below meth c H locs 0 0 (MQ below (QB (fun u : Int32 × Dt => post u.1 u.2) (fun (u : Int32 × Dt) (H1 : Heap) => SB D tc (sa 3) A tS nS rS u.2 H1) (fun u : Int32 × Dt => some (.int u.1)) A) args s rm_X13_nameStorm.cells rm_X13_nameStorm.slots A) (F0 m 84 ls [.ref z0]) := by
  intro p l e s m args below meth c D tc h0 sa A post tS nS rS  X hr hT hA0   y0 y1 y2 z0 wS H locs ls hw hB hky0 hkz0 hS hl
  have hx := X.1
  have hb := X.2.1
  have hown := X.2.2.2.1
  have hU := X.2.2.2.2.1.1
  unfold wp_X13_nameStorm_84 at hw
  refine lv_iconst (v := 0) hx hb dX13_nameStorm_84 (by decide) ?_
  exact t_X13_nameStorm_85 X hr hT hA0  y0 y1 y2 0 z0 wS _ _ _ hw hB hky0 hkz0 hS (lv_sub hl [0, 1, 2] rfl)
def wp_X13_nameStorm_32 (post : Int32 → Dt → Prop) (tS : Nat → Nat) (nS : Nat → Nat) (rS : Nat → Nat → Nat)  (y0 : Nat) (y1 : Int32) (y2 : Int32) (z0 : Int32) (z1 : Nat) (wS : Dt) : Prop := wp_X13_fails (fun r7 wS8 => (¬ r7 = 0 → wp_X13_nameStorm_92 post tS nS rS  wS8) ∧ (r7 = 0 → vp_in y1 (nS (rS (rS y0 1) 8)) ∧ ((¬ (wS8 (rS (rS (rS y0 1) 8) y1.toNatClampNeg) 5) = 0 → wp_X13_nameStorm_80 post tS nS rS  y0 y1 y2 y0 wS8) ∧ ((wS8 (rS (rS (rS y0 1) 8) y1.toNatClampNeg) 5) = 0 → wp_X13_named (fun r30 => (r30 = (-1) → wp_X13_nameStorm_84 post tS nS rS  y0 y1 y2 y0 wS8) ∧ (¬ r30 = (-1) → wp_X13_named (fun r32 => (r32 = y1 → wp_X13_nameStorm_84 post tS nS rS  y0 y1 y2 y0 wS8) ∧ (¬ r32 = y1 → wp_X13_nameStorm_80 post tS nS rS  y0 y1 y2 y0 wS8)) tS nS rS wS8 y0 y2)) tS nS rS wS8 y0 y2)))) tS nS rS wS z1 z0 2
set_option maxHeartbeats 4000000 in
set_option maxRecDepth 100000 in
theorem t_X13_nameStorm_32 : ∀ {p : Program} {l : Launch} {e : Env} {s : State} {m : MethodId} {args : Array Value} {below : List Frame} {meth : Method} {c : Code} {D : va_G} {tc : Nat → ClassId} {h0 : Nat} {sa : Nat → Nat} {A : Nat → Prop} {post : Int32 → Dt → Prop} {tS : Nat → Nat} {nS : Nat → Nat} {rS : Nat → Nat → Nat}  (X : Cx p c s m meth cX13_nameStorm 4 RX13 D tc) (hr : meth.sig.returnType = (Option.some FieldType.char)) (hT : ST h0 sa s s.heap) (hA0 : ∀ q, A q → h0 ≤ q) , ∀ (y0 : Nat) (y1 : Int32) (y2 : Int32) (z0 : Int32) (z1 : Nat) (wS : Dt) (H : Heap) (locs : List Loc) (ls : Array Slot), wp_X13_nameStorm_32 post tS nS rS  y0 y1 y2 z0 z1 wS → SB D tc (sa 3) A tS nS rS wS H → (tS y0 = 7) → (tS z1 = 7) → va_S A s.heap H locs → lv_has ls 4 [(0, .ref y0), (1, .int y1), (2, .int y2)] → W p l e rm_X13_nameStorm s m args below meth c H locs 0 0 (MQ below (QB (fun u : Int32 × Dt => post u.1 u.2) (fun (u : Int32 × Dt) (H1 : Heap) => SB D tc (sa 3) A tS nS rS u.2 H1) (fun u : Int32 × Dt => some (.int u.1)) A) args s rm_X13_nameStorm.cells rm_X13_nameStorm.slots A) (F0 m 32 ls [.int z0, .ref z1]) := by
  intro p l e s m args below meth c D tc h0 sa A post tS nS rS  X hr hT hA0   y0 y1 y2 z0 z1 wS H locs ls hw hB hky0 hkz1 hS hl
  have hx := X.1
  have hb := X.2.1
  have hown := X.2.2.2.1
  have hU := X.2.2.2.2.1.1
  unfold wp_X13_nameStorm_32 at hw
  refine lv_iconst (v := 2) hx hb dX13_nameStorm_32 (by decide) ?_
  refine g_after (st0 := [.int 2, .int z0, .ref z1]) (rest := []) (g_V X m_X13_57 (c_X13_fails l D tc h0 sa z1 z0 2 _ hB hkz1 hA0 hw) (recv1 X.2.2.2.2.1 rfl (hB.at (k := 7) hkz1 rfl)) hT hS hA0 dX13_nameStorm_33 hl.1 rfl rfl ⟨Nat.le_of_ble_eq_true rfl, Nat.le_of_ble_eq_true rfl⟩ (Nat.le_of_ble_eq_true rfl) ⟨Nat.le_of_ble_eq_true rfl, Nat.le_of_ble_eq_true rfl⟩) hS (fun _ h => h) (fun u => .int u.1 :: []) (fun _ => rfl) (fun u H locs hw hP9 hz9 hk9 hS => ?_)
  obtain ⟨r7, wS8⟩ := u
  try dsimp only at hw hP9
  have hB := hP9
  refine lv_if_ne (tgt := 92) hx hb dX13_nameStorm_36 (by decide) (fun c9 => ?_) (fun c9 => ?_)
  · have hw := hw.1 c9
    exact t_X13_nameStorm_92 X hr hT hA0  wS8 _ _ _ hw hB  hS (lv_sub hl [] rfl)
  · have hw := hw.2 c9
    refine lv_aload_n hx hb dX13_nameStorm_39 rfl (lv_at hl 0 rfl) ?_
    refine lv_aload_n hx hb dX13_nameStorm_40 rfl (lv_at hl 0 rfl) ?_
    refine g_get X dX13_nameStorm_41 f_X13_34 (hB.one (k := 7) hky0 rfl) 0 (v := .ref (rS y0 1)) rfl rfl ?_
    have k10 : tS (rS y0 1) = 4 := (hB.wtk hky0).1
    refine g_getN X dX13_nameStorm_44 f_X13_139 (hB.one (k := 4) k10 rfl) 0 (v := .ref (rS (rS y0 1) 8)) rfl rfl ?_
    have k11 : tS (rS (rS y0 1) 8) = 8 := (hB.wtk k10).2.2.2.2.1
    refine lv_iload_n hx hb dX13_nameStorm_47 rfl (lv_at hl 1 rfl) ?_
    obtain ⟨fs9, hat9⟩ := hB.lat (isL_of k11)
    obtain ⟨o12, hw⟩ := hw
    refine g_after5 (st0 := [.int y1, .ref (rS (rS y0 1) 8), .ref y0]) (rest := [.ref y0]) (g_F X mf_X13_163 (c_get l D tc h0 sa _ (rS (rS y0 1) 8) hB (isL_of k11) o12) rfl hat9 hT hS hA0 dX13_nameStorm_48 hl.1 rfl rfl ⟨Nat.le_of_ble_eq_true rfl, Nat.le_of_ble_eq_true rfl⟩ (Nat.le_of_ble_eq_true rfl) ⟨Nat.le_of_ble_eq_true rfl, Nat.le_of_ble_eq_true rfl⟩) hS (fun _ h => h.elim) (fun u => .ref (rS (rS (rS y0 1) 8) y1.toNatClampNeg) :: [.ref y0]) (fun _ => rfl) (fun u H9 locs hu hP9 hz9 hk9 hS => ?_)
    have e9 : H9 = _ := hP9
    rw [e9] at hS ⊢
    have k13 : tS (rS (rS (rS y0 1) 8) y1.toNatClampNeg) = 3 := hB.elt k11 (lt10 o12)
    refine x_cast X w_1435 rfl (hB.at (k := 3) k13 rfl) dX13_nameStorm_53 ?_
    refine g_getN X dX13_nameStorm_56 f_X13_167 (hB.one (k := 3) k13 rfl) 0 (v := .int (wS8 (rS (rS (rS y0 1) 8) y1.toNatClampNeg) 5)) rfl rfl ?_
    refine lv_if_ne (tgt := 80) hx hb dX13_nameStorm_59 (by decide) (fun c14 => ?_) (fun c14 => ?_)
    · have hw := hw.1 c14
      exact t_X13_nameStorm_80 X hr hT hA0  y0 y1 y2 y0 wS8 _ _ _ hw hB hky0 hky0 hS (lv_sub hl [0, 1, 2] rfl)
    · have hw := hw.2 c14
      refine lv_aload_n hx hb dX13_nameStorm_62 rfl (lv_at hl 0 rfl) ?_
      refine lv_iload_n hx hb dX13_nameStorm_63 rfl (lv_at hl 2 rfl) ?_
      refine g_after (st0 := [.int y2, .ref y0, .ref y0]) (rest := [.ref y0]) (g_V X m_X13_182 (c_X13_named l D tc h0 sa y0 y2 _ hB hky0 hw) (recv1 X.2.2.2.2.1 rfl (hB.at (k := 7) hky0 rfl)) hT hS hA0 dX13_nameStorm_64 hl.1 rfl rfl ⟨Nat.le_of_ble_eq_true rfl, Nat.le_of_ble_eq_true rfl⟩ (Nat.le_of_ble_eq_true rfl) ⟨Nat.le_of_ble_eq_true rfl, Nat.le_of_ble_eq_true rfl⟩) hS (fun _ h => h.elim) (fun u => .int u :: [.ref y0]) (fun _ => rfl) (fun u H9 locs hw hP9 hz9 hk9 hS => ?_)
      obtain ⟨r30, rfl⟩ : ∃ z, z = u := ⟨_, rfl⟩
      try dsimp only at hw hP9
      have e9 : H9 = _ := hP9
      rw [e9] at hS ⊢
      refine lv_iconst (v := (-1)) hx hb dX13_nameStorm_67 (by decide) ?_
      refine lv_icmp_eq (tgt := 84) hx hb dX13_nameStorm_68 (by decide) (fun c31 => ?_) (fun c31 => ?_)
      · have hw := hw.1 c31
        exact t_X13_nameStorm_84 X hr hT hA0  y0 y1 y2 y0 wS8 _ _ _ hw hB hky0 hky0 hS (lv_sub hl [0, 1, 2] rfl)
      · have hw := hw.2 c31
        refine lv_aload_n hx hb dX13_nameStorm_71 rfl (lv_at hl 0 rfl) ?_
        refine lv_iload_n hx hb dX13_nameStorm_72 rfl (lv_at hl 2 rfl) ?_
        refine g_after (st0 := [.int y2, .ref y0, .ref y0]) (rest := [.ref y0]) (g_V X m_X13_182 (c_X13_named l D tc h0 sa y0 y2 _ hB hky0 hw) (recv1 X.2.2.2.2.1 rfl (hB.at (k := 7) hky0 rfl)) hT hS hA0 dX13_nameStorm_73 hl.1 rfl rfl ⟨Nat.le_of_ble_eq_true rfl, Nat.le_of_ble_eq_true rfl⟩ (Nat.le_of_ble_eq_true rfl) ⟨Nat.le_of_ble_eq_true rfl, Nat.le_of_ble_eq_true rfl⟩) hS (fun _ h => h.elim) (fun u => .int u :: [.ref y0]) (fun _ => rfl) (fun u H9 locs hw hP9 hz9 hk9 hS => ?_)
        obtain ⟨r32, rfl⟩ : ∃ z, z = u := ⟨_, rfl⟩
        try dsimp only at hw hP9
        have e9 : H9 = _ := hP9
        rw [e9] at hS ⊢
        refine lv_iload_n hx hb dX13_nameStorm_76 rfl (lv_at hl 1 rfl) ?_
        refine lv_icmp_eq (tgt := 84) hx hb dX13_nameStorm_77 (by decide) (fun c33 => ?_) (fun c33 => ?_)
        · have hw := hw.1 c33
          exact t_X13_nameStorm_84 X hr hT hA0  y0 y1 y2 y0 wS8 _ _ _ hw hB hky0 hky0 hS (lv_sub hl [0, 1, 2] rfl)
        · have hw := hw.2 c33
          exact t_X13_nameStorm_80 X hr hT hA0  y0 y1 y2 y0 wS8 _ _ _ hw hB hky0 hky0 hS (lv_sub hl [0, 1, 2] rfl)
def wp_X13_nameStorm (post : Int32 → Dt → Prop) (tS : Nat → Nat) (nS : Nat → Nat) (rS : Nat → Nat → Nat) (wS : Dt) (x0 : Nat) (x1 : Int32) (x2 : Int32) : Prop := wp_X13_begins (fun wS1 => wp_X13_noStorm (fun r2 wS3 => (¬ r2 = 0 → wp_X13_nameStorm_92 post tS nS rS  wS3) ∧ (r2 = 0 → wp_X13_in (fun r5 => (¬ r5 = 0 → wp_X13_nameStorm_32 post tS nS rS  x0 x1 x2 0 x0 wS3) ∧ (r5 = 0 → wp_X13_nameStorm_32 post tS nS rS  x0 x1 x2 1 x0 wS3)) tS nS rS wS3 x2.toInt64 65 90)) tS nS rS wS1 x0 x1) tS nS rS wS x0
set_option maxHeartbeats 4000000 in
set_option maxRecDepth 100000 in
theorem c_X13_nameStorm (l : Launch) (D : va_G) (tc : Nat → ClassId) (h0 : Nat) (sa : Nat → Nat) (x0 : Nat) (x1 : Int32) (x2 : Int32) {A : Nat → Prop} (H0 : Heap) {tS nS : Nat → Nat} {rS : Nat → Nat → Nat} {wS : Dt} (hB : SB D tc (sa 3) A tS nS rS wS H0) (hkx0 : tS x0 = 7) (hA0 : ∀ q, A q → h0 ≤ q) {post : Int32 → Dt → Prop} (hw : wp_X13_nameStorm post tS nS rS wS x0 x1 x2) : MB l yX13_nameStorm cX13_nameStorm 4 (Option.some FieldType.char) rm_X13_nameStorm A [.ref x0, .int x1, .int x2] D tc h0 sa H0 (fun u : Int32 × Dt => post u.1 u.2) (fun (u : Int32 × Dt) (H1 : Heap) => SB D tc (sa 3) A tS nS rS u.2 H1) (fun u : Int32 × Dt => some (.int u.1)) := by
  refine MB.of RX13 [(0, .ref x0), (1, .int x1), (2, .int x2)] (by decide +kernel) rfl (Nat.le_of_ble_eq_true rfl) rfl ?_
  intro p e s m below meth c ls X hr hin hT hH hS hl
  subst hH
  have hx := X.1
  have hb := X.2.1
  have hown := X.2.2.2.1
  have hU := X.2.2.2.2.1.1
  unfold wp_X13_nameStorm at hw
  refine lv_aload_n hx hb dX13_nameStorm_0 rfl (lv_at hl 0 rfl) ?_
  refine g_after (st0 := [.ref x0]) (rest := []) (g_V X m_X13_61 (c_X13_begins l D tc h0 sa x0 _ hB hkx0 hA0 hw) (recv1 X.2.2.2.2.1 rfl (hB.at (k := 7) hkx0 rfl)) hT hS hA0 dX13_nameStorm_1 hl.1 rfl rfl ⟨Nat.le_of_ble_eq_true rfl, Nat.le_of_ble_eq_true rfl⟩ (Nat.le_of_ble_eq_true rfl) ⟨Nat.le_of_ble_eq_true rfl, Nat.le_of_ble_eq_true rfl⟩) hS (fun _ h => h) (fun u => []) (fun _ => rfl) (fun u H locs hw hP9 hz9 hk9 hS => ?_)
  obtain ⟨wS1, rfl⟩ : ∃ z, z = u := ⟨_, rfl⟩
  try dsimp only at hw hP9
  have hB := hP9
  refine lv_aload_n hx hb dX13_nameStorm_4 rfl (lv_at hl 0 rfl) ?_
  refine lv_iload_n hx hb dX13_nameStorm_5 rfl (lv_at hl 1 rfl) ?_
  refine g_after (st0 := [.int x1, .ref x0]) (rest := []) (g_V X m_X13_175 (c_X13_noStorm l D tc h0 sa x0 x1 _ hB hkx0 hA0 hw) (recv1 X.2.2.2.2.1 rfl (hB.at (k := 7) hkx0 rfl)) hT hS hA0 dX13_nameStorm_6 hl.1 rfl rfl ⟨Nat.le_of_ble_eq_true rfl, Nat.le_of_ble_eq_true rfl⟩ (Nat.le_of_ble_eq_true rfl) ⟨Nat.le_of_ble_eq_true rfl, Nat.le_of_ble_eq_true rfl⟩) hS (fun _ h => h) (fun u => .int u.1 :: []) (fun _ => rfl) (fun u H locs hw hP9 hz9 hk9 hS => ?_)
  obtain ⟨r2, wS3⟩ := u
  try dsimp only at hw hP9
  have hB := hP9
  refine lv_if_ne (tgt := 92) hx hb dX13_nameStorm_9 (by decide) (fun c4 => ?_) (fun c4 => ?_)
  · have hw := hw.1 c4
    exact t_X13_nameStorm_92 X hr hT hA0  wS3 _ _ _ hw hB  hS (lv_sub hl [] rfl)
  · have hw := hw.2 c4
    refine lv_aload_n hx hb dX13_nameStorm_12 rfl (lv_at hl 0 rfl) ?_
    refine lv_iload_n hx hb dX13_nameStorm_13 rfl (lv_at hl 2 rfl) ?_
    refine lv_i2l (v := x2.toInt64) hx hb dX13_nameStorm_14 rfl ?_
    refine lv_ldc2 (v := 65) hx hb hown (hU.use w_1560) dX13_nameStorm_15 ?_
    refine lv_ldc2 (v := 90) hx hb hown (hU.use w_1561) dX13_nameStorm_18 ?_
    refine g_after (st0 := [.long 90, .long 65, .long x2.toInt64, .ref x0]) (rest := [.ref x0]) (g_S X m_X13_13 (c_X13_in l D tc h0 sa x2.toInt64 65 90 _ hB  hw) hT hS hA0 dX13_nameStorm_21 hl.1 rfl rfl ⟨Nat.le_of_ble_eq_true rfl, Nat.le_of_ble_eq_true rfl⟩ (Nat.le_of_ble_eq_true rfl) ⟨Nat.le_of_ble_eq_true rfl, Nat.le_of_ble_eq_true rfl⟩) hS (fun _ h => h.elim) (fun u => .int u :: [.ref x0]) (fun _ => rfl) (fun u H9 locs hw hP9 hz9 hk9 hS => ?_)
    obtain ⟨r5, rfl⟩ : ∃ z, z = u := ⟨_, rfl⟩
    try dsimp only at hw hP9
    have e9 : H9 = _ := hP9
    rw [e9] at hS ⊢
    refine lv_if_ne (tgt := 31) hx hb dX13_nameStorm_24 (by decide) (fun c6 => ?_) (fun c6 => ?_)
    · have hw := hw.1 c6
      refine lv_iconst (v := 0) hx hb dX13_nameStorm_31 (by decide) ?_
      exact t_X13_nameStorm_32 X hr hT hA0  x0 x1 x2 0 x0 wS3 _ _ _ hw hB hkx0 hkx0 hS (lv_sub hl [0, 1, 2] rfl)
    · have hw := hw.2 c6
      refine lv_iconst (v := 1) hx hb dX13_nameStorm_27 (by decide) ?_
      refine lv_goto (tgt := 32) hx hb dX13_nameStorm_28 (by decide) ?_
      exact t_X13_nameStorm_32 X hr hT hA0  x0 x1 x2 1 x0 wS3 _ _ _ hw hB hkx0 hkx0 hS (lv_sub hl [0, 1, 2] rfl)
abbrev rm_X13_findName : Room := { frames := 4, cells := 0, slots := 0, locals := 87 }
def wp_X13_findName_62 (post : Int32 → Dt → Prop) (tS : Nat → Nat) (nS : Nat → Nat) (rS : Nat → Nat → Nat)  (z0 : Int32) (wS : Dt) : Prop := post z0 wS
set_option maxHeartbeats 4000000 in
set_option maxRecDepth 100000 in
theorem t_X13_findName_62 : ∀ {p : Program} {l : Launch} {e : Env} {s : State} {m : MethodId} {args : Array Value} {below : List Frame} {meth : Method} {c : Code} {D : va_G} {tc : Nat → ClassId} {h0 : Nat} {sa : Nat → Nat} {A : Nat → Prop} {post : Int32 → Dt → Prop} {tS : Nat → Nat} {nS : Nat → Nat} {rS : Nat → Nat → Nat}  (X : Cx p c s m meth cX13_findName 2 RX13 D tc) (hr : meth.sig.returnType = (Option.some FieldType.int)) (hT : ST h0 sa s s.heap) (hA0 : ∀ q, A q → h0 ≤ q) , ∀ (z0 : Int32) (wS : Dt) (H : Heap) (locs : List Loc) (ls : Array Slot), wp_X13_findName_62 post tS nS rS  z0 wS → SB D tc (sa 3) A tS nS rS wS H → va_S A s.heap H locs → lv_has ls 2 [] → W p l e rm_X13_findName s m args below meth c H locs 0 0 (MQ below (QB (fun u : Int32 × Dt => post u.1 u.2) (fun (u : Int32 × Dt) (H1 : Heap) => SB D tc (sa 3) A tS nS rS u.2 H1) (fun u : Int32 × Dt => some (.int u.1)) A) args s rm_X13_findName.cells rm_X13_findName.slots A) (F0 m 62 ls [.int z0]) := by
  intro p l e s m args below meth c D tc h0 sa A post tS nS rS  X hr hT hA0   z0 wS H locs ls hw hB  hS hl
  have hx := X.1
  have hb := X.2.1
  have hown := X.2.2.2.1
  have hU := X.2.2.2.2.1.1
  unfold wp_X13_findName_62 at hw
  exact e_i X hr dX13_findName_62 hS (z0, wS) rfl hw hB ⟨Nat.le_of_ble_eq_true rfl, Nat.le_of_ble_eq_true rfl⟩
def wp_X13_findName_53 (post : Int32 → Dt → Prop) (tS : Nat → Nat) (nS : Nat → Nat) (rS : Nat → Nat → Nat)  (wS : Dt) : Prop := wp_X13_findName_62 post tS nS rS  (-1) wS
set_option maxHeartbeats 4000000 in
set_option maxRecDepth 100000 in
theorem t_X13_findName_53 : ∀ {p : Program} {l : Launch} {e : Env} {s : State} {m : MethodId} {args : Array Value} {below : List Frame} {meth : Method} {c : Code} {D : va_G} {tc : Nat → ClassId} {h0 : Nat} {sa : Nat → Nat} {A : Nat → Prop} {post : Int32 → Dt → Prop} {tS : Nat → Nat} {nS : Nat → Nat} {rS : Nat → Nat → Nat}  (X : Cx p c s m meth cX13_findName 2 RX13 D tc) (hr : meth.sig.returnType = (Option.some FieldType.int)) (hT : ST h0 sa s s.heap) (hA0 : ∀ q, A q → h0 ≤ q) , ∀ (wS : Dt) (H : Heap) (locs : List Loc) (ls : Array Slot), wp_X13_findName_53 post tS nS rS  wS → SB D tc (sa 3) A tS nS rS wS H → va_S A s.heap H locs → lv_has ls 2 [] → W p l e rm_X13_findName s m args below meth c H locs 0 0 (MQ below (QB (fun u : Int32 × Dt => post u.1 u.2) (fun (u : Int32 × Dt) (H1 : Heap) => SB D tc (sa 3) A tS nS rS u.2 H1) (fun u : Int32 × Dt => some (.int u.1)) A) args s rm_X13_findName.cells rm_X13_findName.slots A) (F0 m 53 ls []) := by
  intro p l e s m args below meth c D tc h0 sa A post tS nS rS  X hr hT hA0   wS H locs ls hw hB  hS hl
  have hx := X.1
  have hb := X.2.1
  have hown := X.2.2.2.1
  have hU := X.2.2.2.2.1.1
  unfold wp_X13_findName_53 at hw
  refine lv_iconst (v := (-1)) hx hb dX13_findName_53 (by decide) ?_
  refine lv_goto (tgt := 62) hx hb dX13_findName_54 (by decide) ?_
  exact t_X13_findName_62 X hr hT hA0  (-1) wS _ _ _ hw hB  hS (lv_sub hl [] rfl)
def wp_X13_findName_46 (post : Int32 → Dt → Prop) (tS : Nat → Nat) (nS : Nat → Nat) (rS : Nat → Nat → Nat)  (y0 : Nat) (y1 : Int32) (z0 : Int32) (z1 : Nat) (wS : Dt) : Prop := wp_X13_fails (fun r9 wS10 => (r9 = 0 → wp_X13_named (fun r12 => wp_X13_findName_62 post tS nS rS  r12 wS10) tS nS rS wS10 y0 y1) ∧ (¬ r9 = 0 → wp_X13_findName_53 post tS nS rS  wS10)) tS nS rS wS z1 z0 2
set_option maxHeartbeats 4000000 in
set_option maxRecDepth 100000 in
theorem t_X13_findName_46 : ∀ {p : Program} {l : Launch} {e : Env} {s : State} {m : MethodId} {args : Array Value} {below : List Frame} {meth : Method} {c : Code} {D : va_G} {tc : Nat → ClassId} {h0 : Nat} {sa : Nat → Nat} {A : Nat → Prop} {post : Int32 → Dt → Prop} {tS : Nat → Nat} {nS : Nat → Nat} {rS : Nat → Nat → Nat}  (X : Cx p c s m meth cX13_findName 2 RX13 D tc) (hr : meth.sig.returnType = (Option.some FieldType.int)) (hT : ST h0 sa s s.heap) (hA0 : ∀ q, A q → h0 ≤ q) , ∀ (y0 : Nat) (y1 : Int32) (z0 : Int32) (z1 : Nat) (wS : Dt) (H : Heap) (locs : List Loc) (ls : Array Slot), wp_X13_findName_46 post tS nS rS  y0 y1 z0 z1 wS → SB D tc (sa 3) A tS nS rS wS H → (tS y0 = 7) → (tS z1 = 7) → va_S A s.heap H locs → lv_has ls 2 [(0, .ref y0), (1, .int y1)] → W p l e rm_X13_findName s m args below meth c H locs 0 0 (MQ below (QB (fun u : Int32 × Dt => post u.1 u.2) (fun (u : Int32 × Dt) (H1 : Heap) => SB D tc (sa 3) A tS nS rS u.2 H1) (fun u : Int32 × Dt => some (.int u.1)) A) args s rm_X13_findName.cells rm_X13_findName.slots A) (F0 m 46 ls [.int z0, .ref z1]) := by
  intro p l e s m args below meth c D tc h0 sa A post tS nS rS  X hr hT hA0   y0 y1 z0 z1 wS H locs ls hw hB hky0 hkz1 hS hl
  have hx := X.1
  have hb := X.2.1
  have hown := X.2.2.2.1
  have hU := X.2.2.2.2.1.1
  unfold wp_X13_findName_46 at hw
  refine lv_iconst (v := 2) hx hb dX13_findName_46 (by decide) ?_
  refine g_after (st0 := [.int 2, .int z0, .ref z1]) (rest := []) (g_V X m_X13_57 (c_X13_fails l D tc h0 sa z1 z0 2 _ hB hkz1 hA0 hw) (recv1 X.2.2.2.2.1 rfl (hB.at (k := 7) hkz1 rfl)) hT hS hA0 dX13_findName_47 hl.1 rfl rfl ⟨Nat.le_of_ble_eq_true rfl, Nat.le_of_ble_eq_true rfl⟩ (Nat.le_of_ble_eq_true rfl) ⟨Nat.le_of_ble_eq_true rfl, Nat.le_of_ble_eq_true rfl⟩) hS (fun _ h => h) (fun u => .int u.1 :: []) (fun _ => rfl) (fun u H locs hw hP9 hz9 hk9 hS => ?_)
  obtain ⟨r9, wS10⟩ := u
  try dsimp only at hw hP9
  have hB := hP9
  refine lv_if_eq (tgt := 57) hx hb dX13_findName_50 (by decide) (fun c11 => ?_) (fun c11 => ?_)
  · have hw := hw.1 c11
    refine lv_aload_n hx hb dX13_findName_57 rfl (lv_at hl 0 rfl) ?_
    refine lv_iload_n hx hb dX13_findName_58 rfl (lv_at hl 1 rfl) ?_
    refine g_after (st0 := [.int y1, .ref y0]) (rest := []) (g_V X m_X13_182 (c_X13_named l D tc h0 sa y0 y1 _ hB hky0 hw) (recv1 X.2.2.2.2.1 rfl (hB.at (k := 7) hky0 rfl)) hT hS hA0 dX13_findName_59 hl.1 rfl rfl ⟨Nat.le_of_ble_eq_true rfl, Nat.le_of_ble_eq_true rfl⟩ (Nat.le_of_ble_eq_true rfl) ⟨Nat.le_of_ble_eq_true rfl, Nat.le_of_ble_eq_true rfl⟩) hS (fun _ h => h.elim) (fun u => .int u :: []) (fun _ => rfl) (fun u H9 locs hw hP9 hz9 hk9 hS => ?_)
    obtain ⟨r12, rfl⟩ : ∃ z, z = u := ⟨_, rfl⟩
    try dsimp only at hw hP9
    have e9 : H9 = _ := hP9
    rw [e9] at hS ⊢
    exact t_X13_findName_62 X hr hT hA0  r12 wS10 _ _ _ hw hB  hS (lv_sub hl [] rfl)
  · have hw := hw.2 c11
    exact t_X13_findName_53 X hr hT hA0  wS10 _ _ _ hw hB  hS (lv_sub hl [] rfl)
def wp_X13_findName_24 (post : Int32 → Dt → Prop) (tS : Nat → Nat) (nS : Nat → Nat) (rS : Nat → Nat → Nat)  (y0 : Nat) (y1 : Int32) (z0 : Int32) (z1 : Nat) (wS : Dt) : Prop := wp_X13_fails (fun r4 wS5 => (¬ r4 = 0 → wp_X13_findName_53 post tS nS rS  wS5) ∧ (r4 = 0 → wp_X13_named (fun r7 => (¬ r7 = (-1) → wp_X13_findName_46 post tS nS rS  y0 y1 0 y0 wS5) ∧ (r7 = (-1) → wp_X13_findName_46 post tS nS rS  y0 y1 1 y0 wS5)) tS nS rS wS5 y0 y1)) tS nS rS wS z1 z0 1
set_option maxHeartbeats 4000000 in
set_option maxRecDepth 100000 in
theorem t_X13_findName_24 : ∀ {p : Program} {l : Launch} {e : Env} {s : State} {m : MethodId} {args : Array Value} {below : List Frame} {meth : Method} {c : Code} {D : va_G} {tc : Nat → ClassId} {h0 : Nat} {sa : Nat → Nat} {A : Nat → Prop} {post : Int32 → Dt → Prop} {tS : Nat → Nat} {nS : Nat → Nat} {rS : Nat → Nat → Nat}  (X : Cx p c s m meth cX13_findName 2 RX13 D tc) (hr : meth.sig.returnType = (Option.some FieldType.int)) (hT : ST h0 sa s s.heap) (hA0 : ∀ q, A q → h0 ≤ q) , ∀ (y0 : Nat) (y1 : Int32) (z0 : Int32) (z1 : Nat) (wS : Dt) (H : Heap) (locs : List Loc) (ls : Array Slot), wp_X13_findName_24 post tS nS rS  y0 y1 z0 z1 wS → SB D tc (sa 3) A tS nS rS wS H → (tS y0 = 7) → (tS z1 = 7) → va_S A s.heap H locs → lv_has ls 2 [(0, .ref y0), (1, .int y1)] → W p l e rm_X13_findName s m args below meth c H locs 0 0 (MQ below (QB (fun u : Int32 × Dt => post u.1 u.2) (fun (u : Int32 × Dt) (H1 : Heap) => SB D tc (sa 3) A tS nS rS u.2 H1) (fun u : Int32 × Dt => some (.int u.1)) A) args s rm_X13_findName.cells rm_X13_findName.slots A) (F0 m 24 ls [.int z0, .ref z1]) := by
  intro p l e s m args below meth c D tc h0 sa A post tS nS rS  X hr hT hA0   y0 y1 z0 z1 wS H locs ls hw hB hky0 hkz1 hS hl
  have hx := X.1
  have hb := X.2.1
  have hown := X.2.2.2.1
  have hU := X.2.2.2.2.1.1
  unfold wp_X13_findName_24 at hw
  refine lv_iconst (v := 1) hx hb dX13_findName_24 (by decide) ?_
  refine g_after (st0 := [.int 1, .int z0, .ref z1]) (rest := []) (g_V X m_X13_57 (c_X13_fails l D tc h0 sa z1 z0 1 _ hB hkz1 hA0 hw) (recv1 X.2.2.2.2.1 rfl (hB.at (k := 7) hkz1 rfl)) hT hS hA0 dX13_findName_25 hl.1 rfl rfl ⟨Nat.le_of_ble_eq_true rfl, Nat.le_of_ble_eq_true rfl⟩ (Nat.le_of_ble_eq_true rfl) ⟨Nat.le_of_ble_eq_true rfl, Nat.le_of_ble_eq_true rfl⟩) hS (fun _ h => h) (fun u => .int u.1 :: []) (fun _ => rfl) (fun u H locs hw hP9 hz9 hk9 hS => ?_)
  obtain ⟨r4, wS5⟩ := u
  try dsimp only at hw hP9
  have hB := hP9
  refine lv_if_ne (tgt := 53) hx hb dX13_findName_28 (by decide) (fun c6 => ?_) (fun c6 => ?_)
  · have hw := hw.1 c6
    exact t_X13_findName_53 X hr hT hA0  wS5 _ _ _ hw hB  hS (lv_sub hl [] rfl)
  · have hw := hw.2 c6
    refine lv_aload_n hx hb dX13_findName_31 rfl (lv_at hl 0 rfl) ?_
    refine lv_aload_n hx hb dX13_findName_32 rfl (lv_at hl 0 rfl) ?_
    refine lv_iload_n hx hb dX13_findName_33 rfl (lv_at hl 1 rfl) ?_
    refine g_after (st0 := [.int y1, .ref y0, .ref y0]) (rest := [.ref y0]) (g_V X m_X13_182 (c_X13_named l D tc h0 sa y0 y1 _ hB hky0 hw) (recv1 X.2.2.2.2.1 rfl (hB.at (k := 7) hky0 rfl)) hT hS hA0 dX13_findName_34 hl.1 rfl rfl ⟨Nat.le_of_ble_eq_true rfl, Nat.le_of_ble_eq_true rfl⟩ (Nat.le_of_ble_eq_true rfl) ⟨Nat.le_of_ble_eq_true rfl, Nat.le_of_ble_eq_true rfl⟩) hS (fun _ h => h.elim) (fun u => .int u :: [.ref y0]) (fun _ => rfl) (fun u H9 locs hw hP9 hz9 hk9 hS => ?_)
    obtain ⟨r7, rfl⟩ : ∃ z, z = u := ⟨_, rfl⟩
    try dsimp only at hw hP9
    have e9 : H9 = _ := hP9
    rw [e9] at hS ⊢
    refine lv_iconst (v := (-1)) hx hb dX13_findName_37 (by decide) ?_
    refine lv_icmp_ne (tgt := 45) hx hb dX13_findName_38 (by decide) (fun c8 => ?_) (fun c8 => ?_)
    · have hw := hw.1 c8
      refine lv_iconst (v := 0) hx hb dX13_findName_45 (by decide) ?_
      exact t_X13_findName_46 X hr hT hA0  y0 y1 0 y0 wS5 _ _ _ hw hB hky0 hky0 hS (lv_sub hl [0, 1] rfl)
    · have hw := hw.2 c8
      refine lv_iconst (v := 1) hx hb dX13_findName_41 (by decide) ?_
      refine lv_goto (tgt := 46) hx hb dX13_findName_42 (by decide) ?_
      exact t_X13_findName_46 X hr hT hA0  y0 y1 1 y0 wS5 _ _ _ hw hB hky0 hky0 hS (lv_sub hl [0, 1] rfl)
def wp_X13_findName (post : Int32 → Dt → Prop) (tS : Nat → Nat) (nS : Nat → Nat) (rS : Nat → Nat → Nat) (wS : Dt) (x0 : Nat) (x1 : Int32) : Prop := wp_X13_begins (fun wS1 => wp_X13_in (fun r2 => (¬ r2 = 0 → wp_X13_findName_24 post tS nS rS  x0 x1 0 x0 wS1) ∧ (r2 = 0 → wp_X13_findName_24 post tS nS rS  x0 x1 1 x0 wS1)) tS nS rS wS1 x1.toInt64 65 90) tS nS rS wS x0
set_option maxHeartbeats 4000000 in
set_option maxRecDepth 100000 in
theorem c_X13_findName (l : Launch) (D : va_G) (tc : Nat → ClassId) (h0 : Nat) (sa : Nat → Nat) (x0 : Nat) (x1 : Int32) {A : Nat → Prop} (H0 : Heap) {tS nS : Nat → Nat} {rS : Nat → Nat → Nat} {wS : Dt} (hB : SB D tc (sa 3) A tS nS rS wS H0) (hkx0 : tS x0 = 7) (hA0 : ∀ q, A q → h0 ≤ q) {post : Int32 → Dt → Prop} (hw : wp_X13_findName post tS nS rS wS x0 x1) : MB l yX13_findName cX13_findName 2 (Option.some FieldType.int) rm_X13_findName A [.ref x0, .int x1] D tc h0 sa H0 (fun u : Int32 × Dt => post u.1 u.2) (fun (u : Int32 × Dt) (H1 : Heap) => SB D tc (sa 3) A tS nS rS u.2 H1) (fun u : Int32 × Dt => some (.int u.1)) := by
  refine MB.of RX13 [(0, .ref x0), (1, .int x1)] (by decide +kernel) rfl (Nat.le_of_ble_eq_true rfl) rfl ?_
  intro p e s m below meth c ls X hr hin hT hH hS hl
  subst hH
  have hx := X.1
  have hb := X.2.1
  have hown := X.2.2.2.1
  have hU := X.2.2.2.2.1.1
  unfold wp_X13_findName at hw
  refine lv_aload_n hx hb dX13_findName_0 rfl (lv_at hl 0 rfl) ?_
  refine g_after (st0 := [.ref x0]) (rest := []) (g_V X m_X13_61 (c_X13_begins l D tc h0 sa x0 _ hB hkx0 hA0 hw) (recv1 X.2.2.2.2.1 rfl (hB.at (k := 7) hkx0 rfl)) hT hS hA0 dX13_findName_1 hl.1 rfl rfl ⟨Nat.le_of_ble_eq_true rfl, Nat.le_of_ble_eq_true rfl⟩ (Nat.le_of_ble_eq_true rfl) ⟨Nat.le_of_ble_eq_true rfl, Nat.le_of_ble_eq_true rfl⟩) hS (fun _ h => h) (fun u => []) (fun _ => rfl) (fun u H locs hw hP9 hz9 hk9 hS => ?_)
  obtain ⟨wS1, rfl⟩ : ∃ z, z = u := ⟨_, rfl⟩
  try dsimp only at hw hP9
  have hB := hP9
  refine lv_aload_n hx hb dX13_findName_4 rfl (lv_at hl 0 rfl) ?_
  refine lv_iload_n hx hb dX13_findName_5 rfl (lv_at hl 1 rfl) ?_
  refine lv_i2l (v := x1.toInt64) hx hb dX13_findName_6 rfl ?_
  refine lv_ldc2 (v := 65) hx hb hown (hU.use w_1560) dX13_findName_7 ?_
  refine lv_ldc2 (v := 90) hx hb hown (hU.use w_1561) dX13_findName_10 ?_
  refine g_after (st0 := [.long 90, .long 65, .long x1.toInt64, .ref x0]) (rest := [.ref x0]) (g_S X m_X13_13 (c_X13_in l D tc h0 sa x1.toInt64 65 90 _ hB  hw) hT hS hA0 dX13_findName_13 hl.1 rfl rfl ⟨Nat.le_of_ble_eq_true rfl, Nat.le_of_ble_eq_true rfl⟩ (Nat.le_of_ble_eq_true rfl) ⟨Nat.le_of_ble_eq_true rfl, Nat.le_of_ble_eq_true rfl⟩) hS (fun _ h => h.elim) (fun u => .int u :: [.ref x0]) (fun _ => rfl) (fun u H9 locs hw hP9 hz9 hk9 hS => ?_)
  obtain ⟨r2, rfl⟩ : ∃ z, z = u := ⟨_, rfl⟩
  try dsimp only at hw hP9
  have e9 : H9 = _ := hP9
  rw [e9] at hS ⊢
  refine lv_if_ne (tgt := 23) hx hb dX13_findName_16 (by decide) (fun c3 => ?_) (fun c3 => ?_)
  · have hw := hw.1 c3
    refine lv_iconst (v := 0) hx hb dX13_findName_23 (by decide) ?_
    exact t_X13_findName_24 X hr hT hA0  x0 x1 0 x0 wS1 _ _ _ hw hB hkx0 hkx0 hS (lv_sub hl [0, 1] rfl)
  · have hw := hw.2 c3
    refine lv_iconst (v := 1) hx hb dX13_findName_19 (by decide) ?_
    refine lv_goto (tgt := 24) hx hb dX13_findName_20 (by decide) ?_
    exact t_X13_findName_24 X hr hT hA0  x0 x1 1 x0 wS1 _ _ _ hw hB hkx0 hkx0 hS (lv_sub hl [0, 1] rfl)
abbrev rm_X13_getLongitude : Room := { frames := 4, cells := 0, slots := 0, locals := 88 }
def wp_X13_getLongitude_35 (post : Int32 → Dt → Prop) (tS : Nat → Nat) (nS : Nat → Nat) (rS : Nat → Nat → Nat)  (z0 : Int32) (wS : Dt) : Prop := post z0 wS
set_option maxHeartbeats 4000000 in
set_option maxRecDepth 100000 in
theorem t_X13_getLongitude_35 : ∀ {p : Program} {l : Launch} {e : Env} {s : State} {m : MethodId} {args : Array Value} {below : List Frame} {meth : Method} {c : Code} {D : va_G} {tc : Nat → ClassId} {h0 : Nat} {sa : Nat → Nat} {A : Nat → Prop} {post : Int32 → Dt → Prop} {tS : Nat → Nat} {nS : Nat → Nat} {rS : Nat → Nat → Nat}  (X : Cx p c s m meth cX13_getLongitude 2 RX13 D tc) (hr : meth.sig.returnType = (Option.some FieldType.int)) (hT : ST h0 sa s s.heap) (hA0 : ∀ q, A q → h0 ≤ q) , ∀ (z0 : Int32) (wS : Dt) (H : Heap) (locs : List Loc) (ls : Array Slot), wp_X13_getLongitude_35 post tS nS rS  z0 wS → SB D tc (sa 3) A tS nS rS wS H → va_S A s.heap H locs → lv_has ls 2 [] → W p l e rm_X13_getLongitude s m args below meth c H locs 0 0 (MQ below (QB (fun u : Int32 × Dt => post u.1 u.2) (fun (u : Int32 × Dt) (H1 : Heap) => SB D tc (sa 3) A tS nS rS u.2 H1) (fun u : Int32 × Dt => some (.int u.1)) A) args s rm_X13_getLongitude.cells rm_X13_getLongitude.slots A) (F0 m 35 ls [.int z0]) := by
  intro p l e s m args below meth c D tc h0 sa A post tS nS rS  X hr hT hA0   z0 wS H locs ls hw hB  hS hl
  have hx := X.1
  have hb := X.2.1
  have hown := X.2.2.2.1
  have hU := X.2.2.2.2.1.1
  unfold wp_X13_getLongitude_35 at hw
  exact e_i X hr dX13_getLongitude_35 hS (z0, wS) rfl hw hB ⟨Nat.le_of_ble_eq_true rfl, Nat.le_of_ble_eq_true rfl⟩
def wp_X13_getLongitude (post : Int32 → Dt → Prop) (tS : Nat → Nat) (nS : Nat → Nat) (rS : Nat → Nat → Nat) (wS : Dt) (x0 : Nat) (x1 : Int32) : Prop := wp_X13_begins (fun wS1 => wp_X13_isGone (fun r2 wS3 => (r2 = 0 → vp_in x1 (nS (rS (rS x0 1) 8)) ∧ (wp_X13_getLongitude_35 post tS nS rS  (wS3 (rS (rS (rS x0 1) 8) x1.toNatClampNeg) 1) wS3)) ∧ (¬ r2 = 0 → wp_X13_getLongitude_35 post tS nS rS  (-1) wS3)) tS nS rS wS1 x0 x1) tS nS rS wS x0
set_option maxHeartbeats 4000000 in
set_option maxRecDepth 100000 in
theorem c_X13_getLongitude (l : Launch) (D : va_G) (tc : Nat → ClassId) (h0 : Nat) (sa : Nat → Nat) (x0 : Nat) (x1 : Int32) {A : Nat → Prop} (H0 : Heap) {tS nS : Nat → Nat} {rS : Nat → Nat → Nat} {wS : Dt} (hB : SB D tc (sa 3) A tS nS rS wS H0) (hkx0 : tS x0 = 7) (hA0 : ∀ q, A q → h0 ≤ q) {post : Int32 → Dt → Prop} (hw : wp_X13_getLongitude post tS nS rS wS x0 x1) : MB l yX13_getLongitude cX13_getLongitude 2 (Option.some FieldType.int) rm_X13_getLongitude A [.ref x0, .int x1] D tc h0 sa H0 (fun u : Int32 × Dt => post u.1 u.2) (fun (u : Int32 × Dt) (H1 : Heap) => SB D tc (sa 3) A tS nS rS u.2 H1) (fun u : Int32 × Dt => some (.int u.1)) := by
  refine MB.of RX13 [(0, .ref x0), (1, .int x1)] (by decide +kernel) rfl (Nat.le_of_ble_eq_true rfl) rfl ?_
  intro p e s m below meth c ls X hr hin hT hH hS hl
  subst hH
  have hx := X.1
  have hb := X.2.1
  have hown := X.2.2.2.1
  have hU := X.2.2.2.2.1.1
  unfold wp_X13_getLongitude at hw
  refine lv_aload_n hx hb dX13_getLongitude_0 rfl (lv_at hl 0 rfl) ?_
  refine g_after (st0 := [.ref x0]) (rest := []) (g_V X m_X13_61 (c_X13_begins l D tc h0 sa x0 _ hB hkx0 hA0 hw) (recv1 X.2.2.2.2.1 rfl (hB.at (k := 7) hkx0 rfl)) hT hS hA0 dX13_getLongitude_1 hl.1 rfl rfl ⟨Nat.le_of_ble_eq_true rfl, Nat.le_of_ble_eq_true rfl⟩ (Nat.le_of_ble_eq_true rfl) ⟨Nat.le_of_ble_eq_true rfl, Nat.le_of_ble_eq_true rfl⟩) hS (fun _ h => h) (fun u => []) (fun _ => rfl) (fun u H locs hw hP9 hz9 hk9 hS => ?_)
  obtain ⟨wS1, rfl⟩ : ∃ z, z = u := ⟨_, rfl⟩
  try dsimp only at hw hP9
  have hB := hP9
  refine lv_aload_n hx hb dX13_getLongitude_4 rfl (lv_at hl 0 rfl) ?_
  refine lv_iload_n hx hb dX13_getLongitude_5 rfl (lv_at hl 1 rfl) ?_
  refine g_after (st0 := [.int x1, .ref x0]) (rest := []) (g_V X m_X13_186 (c_X13_isGone l D tc h0 sa x0 x1 _ hB hkx0 hA0 hw) (recv1 X.2.2.2.2.1 rfl (hB.at (k := 7) hkx0 rfl)) hT hS hA0 dX13_getLongitude_6 hl.1 rfl rfl ⟨Nat.le_of_ble_eq_true rfl, Nat.le_of_ble_eq_true rfl⟩ (Nat.le_of_ble_eq_true rfl) ⟨Nat.le_of_ble_eq_true rfl, Nat.le_of_ble_eq_true rfl⟩) hS (fun _ h => h) (fun u => .int u.1 :: []) (fun _ => rfl) (fun u H locs hw hP9 hz9 hk9 hS => ?_)
  obtain ⟨r2, wS3⟩ := u
  try dsimp only at hw hP9
  have hB := hP9
  refine lv_if_eq (tgt := 16) hx hb dX13_getLongitude_9 (by decide) (fun c4 => ?_) (fun c4 => ?_)
  · have hw := hw.1 c4
    refine lv_aload_n hx hb dX13_getLongitude_16 rfl (lv_at hl 0 rfl) ?_
    refine g_get X dX13_getLongitude_17 f_X13_34 (hB.one (k := 7) hkx0 rfl) 0 (v := .ref (rS x0 1)) rfl rfl ?_
    have k5 : tS (rS x0 1) = 4 := (hB.wtk hkx0).1
    refine g_getN X dX13_getLongitude_20 f_X13_139 (hB.one (k := 4) k5 rfl) 0 (v := .ref (rS (rS x0 1) 8)) rfl rfl ?_
    have k6 : tS (rS (rS x0 1) 8) = 8 := (hB.wtk k5).2.2.2.2.1
    refine lv_iload_n hx hb dX13_getLongitude_23 rfl (lv_at hl 1 rfl) ?_
    obtain ⟨fs9, hat9⟩ := hB.lat (isL_of k6)
    obtain ⟨o7, hw⟩ := hw
    refine g_after5 (st0 := [.int x1, .ref (rS (rS x0 1) 8)]) (rest := []) (g_F X mf_X13_163 (c_get l D tc h0 sa _ (rS (rS x0 1) 8) hB (isL_of k6) o7) rfl hat9 hT hS hA0 dX13_getLongitude_24 hl.1 rfl rfl ⟨Nat.le_of_ble_eq_true rfl, Nat.le_of_ble_eq_true rfl⟩ (Nat.le_of_ble_eq_true rfl) ⟨Nat.le_of_ble_eq_true rfl, Nat.le_of_ble_eq_true rfl⟩) hS (fun _ h => h.elim) (fun u => .ref (rS (rS (rS x0 1) 8) x1.toNatClampNeg) :: []) (fun _ => rfl) (fun u H9 locs hu hP9 hz9 hk9 hS => ?_)
    have e9 : H9 = _ := hP9
    rw [e9] at hS ⊢
    have k8 : tS (rS (rS (rS x0 1) 8) x1.toNatClampNeg) = 3 := hB.elt k6 (lt10 o7)
    refine x_cast X w_1435 rfl (hB.at (k := 3) k8 rfl) dX13_getLongitude_29 ?_
    refine g_getN X dX13_getLongitude_32 f_X13_134 (hB.one (k := 3) k8 rfl) 0 (v := .int (wS3 (rS (rS (rS x0 1) 8) x1.toNatClampNeg) 1)) rfl rfl ?_
    exact t_X13_getLongitude_35 X hr hT hA0  (wS3 (rS (rS (rS x0 1) 8) x1.toNatClampNeg) 1) wS3 _ _ _ hw hB  hS (lv_sub hl [] rfl)
  · have hw := hw.2 c4
    refine lv_iconst (v := (-1)) hx hb dX13_getLongitude_12 (by decide) ?_
    refine lv_goto (tgt := 35) hx hb dX13_getLongitude_13 (by decide) ?_
    exact t_X13_getLongitude_35 X hr hT hA0  (-1) wS3 _ _ _ hw hB  hS (lv_sub hl [] rfl)
abbrev rm_X13_getSize : Room := { frames := 4, cells := 0, slots := 0, locals := 88 }
def wp_X13_getSize_35 (post : Int32 → Dt → Prop) (tS : Nat → Nat) (nS : Nat → Nat) (rS : Nat → Nat → Nat)  (z0 : Int32) (wS : Dt) : Prop := post z0 wS
set_option maxHeartbeats 4000000 in
set_option maxRecDepth 100000 in
theorem t_X13_getSize_35 : ∀ {p : Program} {l : Launch} {e : Env} {s : State} {m : MethodId} {args : Array Value} {below : List Frame} {meth : Method} {c : Code} {D : va_G} {tc : Nat → ClassId} {h0 : Nat} {sa : Nat → Nat} {A : Nat → Prop} {post : Int32 → Dt → Prop} {tS : Nat → Nat} {nS : Nat → Nat} {rS : Nat → Nat → Nat}  (X : Cx p c s m meth cX13_getSize 2 RX13 D tc) (hr : meth.sig.returnType = (Option.some FieldType.int)) (hT : ST h0 sa s s.heap) (hA0 : ∀ q, A q → h0 ≤ q) , ∀ (z0 : Int32) (wS : Dt) (H : Heap) (locs : List Loc) (ls : Array Slot), wp_X13_getSize_35 post tS nS rS  z0 wS → SB D tc (sa 3) A tS nS rS wS H → va_S A s.heap H locs → lv_has ls 2 [] → W p l e rm_X13_getSize s m args below meth c H locs 0 0 (MQ below (QB (fun u : Int32 × Dt => post u.1 u.2) (fun (u : Int32 × Dt) (H1 : Heap) => SB D tc (sa 3) A tS nS rS u.2 H1) (fun u : Int32 × Dt => some (.int u.1)) A) args s rm_X13_getSize.cells rm_X13_getSize.slots A) (F0 m 35 ls [.int z0]) := by
  intro p l e s m args below meth c D tc h0 sa A post tS nS rS  X hr hT hA0   z0 wS H locs ls hw hB  hS hl
  have hx := X.1
  have hb := X.2.1
  have hown := X.2.2.2.1
  have hU := X.2.2.2.2.1.1
  unfold wp_X13_getSize_35 at hw
  exact e_i X hr dX13_getSize_35 hS (z0, wS) rfl hw hB ⟨Nat.le_of_ble_eq_true rfl, Nat.le_of_ble_eq_true rfl⟩
def wp_X13_getSize (post : Int32 → Dt → Prop) (tS : Nat → Nat) (nS : Nat → Nat) (rS : Nat → Nat → Nat) (wS : Dt) (x0 : Nat) (x1 : Int32) : Prop := wp_X13_begins (fun wS1 => wp_X13_isGone (fun r2 wS3 => (r2 = 0 → vp_in x1 (nS (rS (rS x0 1) 8)) ∧ (wp_X13_getSize_35 post tS nS rS  (wS3 (rS (rS (rS x0 1) 8) x1.toNatClampNeg) 2) wS3)) ∧ (¬ r2 = 0 → wp_X13_getSize_35 post tS nS rS  (-1) wS3)) tS nS rS wS1 x0 x1) tS nS rS wS x0
set_option maxHeartbeats 4000000 in
set_option maxRecDepth 100000 in
theorem c_X13_getSize (l : Launch) (D : va_G) (tc : Nat → ClassId) (h0 : Nat) (sa : Nat → Nat) (x0 : Nat) (x1 : Int32) {A : Nat → Prop} (H0 : Heap) {tS nS : Nat → Nat} {rS : Nat → Nat → Nat} {wS : Dt} (hB : SB D tc (sa 3) A tS nS rS wS H0) (hkx0 : tS x0 = 7) (hA0 : ∀ q, A q → h0 ≤ q) {post : Int32 → Dt → Prop} (hw : wp_X13_getSize post tS nS rS wS x0 x1) : MB l yX13_getSize cX13_getSize 2 (Option.some FieldType.int) rm_X13_getSize A [.ref x0, .int x1] D tc h0 sa H0 (fun u : Int32 × Dt => post u.1 u.2) (fun (u : Int32 × Dt) (H1 : Heap) => SB D tc (sa 3) A tS nS rS u.2 H1) (fun u : Int32 × Dt => some (.int u.1)) := by
  refine MB.of RX13 [(0, .ref x0), (1, .int x1)] (by decide +kernel) rfl (Nat.le_of_ble_eq_true rfl) rfl ?_
  intro p e s m below meth c ls X hr hin hT hH hS hl
  subst hH
  have hx := X.1
  have hb := X.2.1
  have hown := X.2.2.2.1
  have hU := X.2.2.2.2.1.1
  unfold wp_X13_getSize at hw
  refine lv_aload_n hx hb dX13_getSize_0 rfl (lv_at hl 0 rfl) ?_
  refine g_after (st0 := [.ref x0]) (rest := []) (g_V X m_X13_61 (c_X13_begins l D tc h0 sa x0 _ hB hkx0 hA0 hw) (recv1 X.2.2.2.2.1 rfl (hB.at (k := 7) hkx0 rfl)) hT hS hA0 dX13_getSize_1 hl.1 rfl rfl ⟨Nat.le_of_ble_eq_true rfl, Nat.le_of_ble_eq_true rfl⟩ (Nat.le_of_ble_eq_true rfl) ⟨Nat.le_of_ble_eq_true rfl, Nat.le_of_ble_eq_true rfl⟩) hS (fun _ h => h) (fun u => []) (fun _ => rfl) (fun u H locs hw hP9 hz9 hk9 hS => ?_)
  obtain ⟨wS1, rfl⟩ : ∃ z, z = u := ⟨_, rfl⟩
  try dsimp only at hw hP9
  have hB := hP9
  refine lv_aload_n hx hb dX13_getSize_4 rfl (lv_at hl 0 rfl) ?_
  refine lv_iload_n hx hb dX13_getSize_5 rfl (lv_at hl 1 rfl) ?_
  refine g_after (st0 := [.int x1, .ref x0]) (rest := []) (g_V X m_X13_186 (c_X13_isGone l D tc h0 sa x0 x1 _ hB hkx0 hA0 hw) (recv1 X.2.2.2.2.1 rfl (hB.at (k := 7) hkx0 rfl)) hT hS hA0 dX13_getSize_6 hl.1 rfl rfl ⟨Nat.le_of_ble_eq_true rfl, Nat.le_of_ble_eq_true rfl⟩ (Nat.le_of_ble_eq_true rfl) ⟨Nat.le_of_ble_eq_true rfl, Nat.le_of_ble_eq_true rfl⟩) hS (fun _ h => h) (fun u => .int u.1 :: []) (fun _ => rfl) (fun u H locs hw hP9 hz9 hk9 hS => ?_)
  obtain ⟨r2, wS3⟩ := u
  try dsimp only at hw hP9
  have hB := hP9
  refine lv_if_eq (tgt := 16) hx hb dX13_getSize_9 (by decide) (fun c4 => ?_) (fun c4 => ?_)
  · have hw := hw.1 c4
    refine lv_aload_n hx hb dX13_getSize_16 rfl (lv_at hl 0 rfl) ?_
    refine g_get X dX13_getSize_17 f_X13_34 (hB.one (k := 7) hkx0 rfl) 0 (v := .ref (rS x0 1)) rfl rfl ?_
    have k5 : tS (rS x0 1) = 4 := (hB.wtk hkx0).1
    refine g_getN X dX13_getSize_20 f_X13_139 (hB.one (k := 4) k5 rfl) 0 (v := .ref (rS (rS x0 1) 8)) rfl rfl ?_
    have k6 : tS (rS (rS x0 1) 8) = 8 := (hB.wtk k5).2.2.2.2.1
    refine lv_iload_n hx hb dX13_getSize_23 rfl (lv_at hl 1 rfl) ?_
    obtain ⟨fs9, hat9⟩ := hB.lat (isL_of k6)
    obtain ⟨o7, hw⟩ := hw
    refine g_after5 (st0 := [.int x1, .ref (rS (rS x0 1) 8)]) (rest := []) (g_F X mf_X13_163 (c_get l D tc h0 sa _ (rS (rS x0 1) 8) hB (isL_of k6) o7) rfl hat9 hT hS hA0 dX13_getSize_24 hl.1 rfl rfl ⟨Nat.le_of_ble_eq_true rfl, Nat.le_of_ble_eq_true rfl⟩ (Nat.le_of_ble_eq_true rfl) ⟨Nat.le_of_ble_eq_true rfl, Nat.le_of_ble_eq_true rfl⟩) hS (fun _ h => h.elim) (fun u => .ref (rS (rS (rS x0 1) 8) x1.toNatClampNeg) :: []) (fun _ => rfl) (fun u H9 locs hu hP9 hz9 hk9 hS => ?_)
    have e9 : H9 = _ := hP9
    rw [e9] at hS ⊢
    have k8 : tS (rS (rS (rS x0 1) 8) x1.toNatClampNeg) = 3 := hB.elt k6 (lt10 o7)
    refine x_cast X w_1435 rfl (hB.at (k := 3) k8 rfl) dX13_getSize_29 ?_
    refine g_getN X dX13_getSize_32 f_X13_137 (hB.one (k := 3) k8 rfl) 0 (v := .int (wS3 (rS (rS (rS x0 1) 8) x1.toNatClampNeg) 2)) rfl rfl ?_
    exact t_X13_getSize_35 X hr hT hA0  (wS3 (rS (rS (rS x0 1) 8) x1.toNatClampNeg) 2) wS3 _ _ _ hw hB  hS (lv_sub hl [] rfl)
  · have hw := hw.2 c4
    refine lv_iconst (v := (-1)) hx hb dX13_getSize_12 (by decide) ?_
    refine lv_goto (tgt := 35) hx hb dX13_getSize_13 (by decide) ?_
    exact t_X13_getSize_35 X hr hT hA0  (-1) wS3 _ _ _ hw hB  hS (lv_sub hl [] rfl)
abbrev rm_X13_getAge : Room := { frames := 3, cells := 0, slots := 0, locals := 67 }
def wp_X13_getAge_35 (post : Int32 → Dt → Prop) (tS : Nat → Nat) (nS : Nat → Nat) (rS : Nat → Nat → Nat)  (z0 : Int32) (wS : Dt) : Prop := post z0 wS
set_option maxHeartbeats 4000000 in
set_option maxRecDepth 100000 in
theorem t_X13_getAge_35 : ∀ {p : Program} {l : Launch} {e : Env} {s : State} {m : MethodId} {args : Array Value} {below : List Frame} {meth : Method} {c : Code} {D : va_G} {tc : Nat → ClassId} {h0 : Nat} {sa : Nat → Nat} {A : Nat → Prop} {post : Int32 → Dt → Prop} {tS : Nat → Nat} {nS : Nat → Nat} {rS : Nat → Nat → Nat}  (X : Cx p c s m meth cX13_getAge 2 RX13 D tc) (hr : meth.sig.returnType = (Option.some FieldType.int)) (hT : ST h0 sa s s.heap) (hA0 : ∀ q, A q → h0 ≤ q) , ∀ (z0 : Int32) (wS : Dt) (H : Heap) (locs : List Loc) (ls : Array Slot), wp_X13_getAge_35 post tS nS rS  z0 wS → SB D tc (sa 3) A tS nS rS wS H → va_S A s.heap H locs → lv_has ls 2 [] → W p l e rm_X13_getAge s m args below meth c H locs 0 0 (MQ below (QB (fun u : Int32 × Dt => post u.1 u.2) (fun (u : Int32 × Dt) (H1 : Heap) => SB D tc (sa 3) A tS nS rS u.2 H1) (fun u : Int32 × Dt => some (.int u.1)) A) args s rm_X13_getAge.cells rm_X13_getAge.slots A) (F0 m 35 ls [.int z0]) := by
  intro p l e s m args below meth c D tc h0 sa A post tS nS rS  X hr hT hA0   z0 wS H locs ls hw hB  hS hl
  have hx := X.1
  have hb := X.2.1
  have hown := X.2.2.2.1
  have hU := X.2.2.2.2.1.1
  unfold wp_X13_getAge_35 at hw
  exact e_i X hr dX13_getAge_35 hS (z0, wS) rfl hw hB ⟨Nat.le_of_ble_eq_true rfl, Nat.le_of_ble_eq_true rfl⟩
def wp_X13_getAge (post : Int32 → Dt → Prop) (tS : Nat → Nat) (nS : Nat → Nat) (rS : Nat → Nat → Nat) (wS : Dt) (x0 : Nat) (x1 : Int32) : Prop := wp_X13_begins (fun wS1 => wp_X13_noStorm (fun r2 wS3 => (r2 = 0 → vp_in x1 (nS (rS (rS x0 1) 8)) ∧ (wp_X13_getAge_35 post tS nS rS  (wS3 (rS (rS (rS x0 1) 8) x1.toNatClampNeg) 3) wS3)) ∧ (¬ r2 = 0 → wp_X13_getAge_35 post tS nS rS  (-1) wS3)) tS nS rS wS1 x0 x1) tS nS rS wS x0
set_option maxHeartbeats 4000000 in
set_option maxRecDepth 100000 in
theorem c_X13_getAge (l : Launch) (D : va_G) (tc : Nat → ClassId) (h0 : Nat) (sa : Nat → Nat) (x0 : Nat) (x1 : Int32) {A : Nat → Prop} (H0 : Heap) {tS nS : Nat → Nat} {rS : Nat → Nat → Nat} {wS : Dt} (hB : SB D tc (sa 3) A tS nS rS wS H0) (hkx0 : tS x0 = 7) (hA0 : ∀ q, A q → h0 ≤ q) {post : Int32 → Dt → Prop} (hw : wp_X13_getAge post tS nS rS wS x0 x1) : MB l yX13_getAge cX13_getAge 2 (Option.some FieldType.int) rm_X13_getAge A [.ref x0, .int x1] D tc h0 sa H0 (fun u : Int32 × Dt => post u.1 u.2) (fun (u : Int32 × Dt) (H1 : Heap) => SB D tc (sa 3) A tS nS rS u.2 H1) (fun u : Int32 × Dt => some (.int u.1)) := by
  refine MB.of RX13 [(0, .ref x0), (1, .int x1)] (by decide +kernel) rfl (Nat.le_of_ble_eq_true rfl) rfl ?_
  intro p e s m below meth c ls X hr hin hT hH hS hl
  subst hH
  have hx := X.1
  have hb := X.2.1
  have hown := X.2.2.2.1
  have hU := X.2.2.2.2.1.1
  unfold wp_X13_getAge at hw
  refine lv_aload_n hx hb dX13_getAge_0 rfl (lv_at hl 0 rfl) ?_
  refine g_after (st0 := [.ref x0]) (rest := []) (g_V X m_X13_61 (c_X13_begins l D tc h0 sa x0 _ hB hkx0 hA0 hw) (recv1 X.2.2.2.2.1 rfl (hB.at (k := 7) hkx0 rfl)) hT hS hA0 dX13_getAge_1 hl.1 rfl rfl ⟨Nat.le_of_ble_eq_true rfl, Nat.le_of_ble_eq_true rfl⟩ (Nat.le_of_ble_eq_true rfl) ⟨Nat.le_of_ble_eq_true rfl, Nat.le_of_ble_eq_true rfl⟩) hS (fun _ h => h) (fun u => []) (fun _ => rfl) (fun u H locs hw hP9 hz9 hk9 hS => ?_)
  obtain ⟨wS1, rfl⟩ : ∃ z, z = u := ⟨_, rfl⟩
  try dsimp only at hw hP9
  have hB := hP9
  refine lv_aload_n hx hb dX13_getAge_4 rfl (lv_at hl 0 rfl) ?_
  refine lv_iload_n hx hb dX13_getAge_5 rfl (lv_at hl 1 rfl) ?_
  refine g_after (st0 := [.int x1, .ref x0]) (rest := []) (g_V X m_X13_175 (c_X13_noStorm l D tc h0 sa x0 x1 _ hB hkx0 hA0 hw) (recv1 X.2.2.2.2.1 rfl (hB.at (k := 7) hkx0 rfl)) hT hS hA0 dX13_getAge_6 hl.1 rfl rfl ⟨Nat.le_of_ble_eq_true rfl, Nat.le_of_ble_eq_true rfl⟩ (Nat.le_of_ble_eq_true rfl) ⟨Nat.le_of_ble_eq_true rfl, Nat.le_of_ble_eq_true rfl⟩) hS (fun _ h => h) (fun u => .int u.1 :: []) (fun _ => rfl) (fun u H locs hw hP9 hz9 hk9 hS => ?_)
  obtain ⟨r2, wS3⟩ := u
  try dsimp only at hw hP9
  have hB := hP9
  refine lv_if_eq (tgt := 16) hx hb dX13_getAge_9 (by decide) (fun c4 => ?_) (fun c4 => ?_)
  · have hw := hw.1 c4
    refine lv_aload_n hx hb dX13_getAge_16 rfl (lv_at hl 0 rfl) ?_
    refine g_get X dX13_getAge_17 f_X13_34 (hB.one (k := 7) hkx0 rfl) 0 (v := .ref (rS x0 1)) rfl rfl ?_
    have k5 : tS (rS x0 1) = 4 := (hB.wtk hkx0).1
    refine g_getN X dX13_getAge_20 f_X13_139 (hB.one (k := 4) k5 rfl) 0 (v := .ref (rS (rS x0 1) 8)) rfl rfl ?_
    have k6 : tS (rS (rS x0 1) 8) = 8 := (hB.wtk k5).2.2.2.2.1
    refine lv_iload_n hx hb dX13_getAge_23 rfl (lv_at hl 1 rfl) ?_
    obtain ⟨fs9, hat9⟩ := hB.lat (isL_of k6)
    obtain ⟨o7, hw⟩ := hw
    refine g_after5 (st0 := [.int x1, .ref (rS (rS x0 1) 8)]) (rest := []) (g_F X mf_X13_163 (c_get l D tc h0 sa _ (rS (rS x0 1) 8) hB (isL_of k6) o7) rfl hat9 hT hS hA0 dX13_getAge_24 hl.1 rfl rfl ⟨Nat.le_of_ble_eq_true rfl, Nat.le_of_ble_eq_true rfl⟩ (Nat.le_of_ble_eq_true rfl) ⟨Nat.le_of_ble_eq_true rfl, Nat.le_of_ble_eq_true rfl⟩) hS (fun _ h => h.elim) (fun u => .ref (rS (rS (rS x0 1) 8) x1.toNatClampNeg) :: []) (fun _ => rfl) (fun u H9 locs hu hP9 hz9 hk9 hS => ?_)
    have e9 : H9 = _ := hP9
    rw [e9] at hS ⊢
    have k8 : tS (rS (rS (rS x0 1) 8) x1.toNatClampNeg) = 3 := hB.elt k6 (lt10 o7)
    refine x_cast X w_1435 rfl (hB.at (k := 3) k8 rfl) dX13_getAge_29 ?_
    refine g_getN X dX13_getAge_32 f_X13_189 (hB.one (k := 3) k8 rfl) 0 (v := .int (wS3 (rS (rS (rS x0 1) 8) x1.toNatClampNeg) 3)) rfl rfl ?_
    exact t_X13_getAge_35 X hr hT hA0  (wS3 (rS (rS (rS x0 1) 8) x1.toNatClampNeg) 3) wS3 _ _ _ hw hB  hS (lv_sub hl [] rfl)
  · have hw := hw.2 c4
    refine lv_iconst (v := (-1)) hx hb dX13_getAge_12 (by decide) ?_
    refine lv_goto (tgt := 35) hx hb dX13_getAge_13 (by decide) ?_
    exact t_X13_getAge_35 X hr hT hA0  (-1) wS3 _ _ _ hw hB  hS (lv_sub hl [] rfl)
abbrev rm_X13_isThere : Room := { frames := 3, cells := 0, slots := 0, locals := 67 }
def wp_X13_isThere_39 (post : Int32 → Dt → Prop) (tS : Nat → Nat) (nS : Nat → Nat) (rS : Nat → Nat → Nat)  (z0 : Int32) (wS : Dt) : Prop := narrow .boolean (.int z0) = .int z0 ∧ (post z0 wS)
set_option maxHeartbeats 4000000 in
set_option maxRecDepth 100000 in
theorem t_X13_isThere_39 : ∀ {p : Program} {l : Launch} {e : Env} {s : State} {m : MethodId} {args : Array Value} {below : List Frame} {meth : Method} {c : Code} {D : va_G} {tc : Nat → ClassId} {h0 : Nat} {sa : Nat → Nat} {A : Nat → Prop} {post : Int32 → Dt → Prop} {tS : Nat → Nat} {nS : Nat → Nat} {rS : Nat → Nat → Nat}  (X : Cx p c s m meth cX13_isThere 2 RX13 D tc) (hr : meth.sig.returnType = (Option.some FieldType.boolean)) (hT : ST h0 sa s s.heap) (hA0 : ∀ q, A q → h0 ≤ q) , ∀ (z0 : Int32) (wS : Dt) (H : Heap) (locs : List Loc) (ls : Array Slot), wp_X13_isThere_39 post tS nS rS  z0 wS → SB D tc (sa 3) A tS nS rS wS H → va_S A s.heap H locs → lv_has ls 2 [] → W p l e rm_X13_isThere s m args below meth c H locs 0 0 (MQ below (QB (fun u : Int32 × Dt => post u.1 u.2) (fun (u : Int32 × Dt) (H1 : Heap) => SB D tc (sa 3) A tS nS rS u.2 H1) (fun u : Int32 × Dt => some (.int u.1)) A) args s rm_X13_isThere.cells rm_X13_isThere.slots A) (F0 m 39 ls [.int z0]) := by
  intro p l e s m args below meth c D tc h0 sa A post tS nS rS  X hr hT hA0   z0 wS H locs ls hw hB  hS hl
  have hx := X.1
  have hb := X.2.1
  have hown := X.2.2.2.1
  have hU := X.2.2.2.2.1.1
  unfold wp_X13_isThere_39 at hw
  obtain ⟨o5, hw⟩ := hw
  exact e_z X hr o5 dX13_isThere_39 hS (z0, wS) rfl hw hB ⟨Nat.le_of_ble_eq_true rfl, Nat.le_of_ble_eq_true rfl⟩
def wp_X13_isThere_38 (post : Int32 → Dt → Prop) (tS : Nat → Nat) (nS : Nat → Nat) (rS : Nat → Nat → Nat)  (wS : Dt) : Prop := wp_X13_isThere_39 post tS nS rS  0 wS
set_option maxHeartbeats 4000000 in
set_option maxRecDepth 100000 in
theorem t_X13_isThere_38 : ∀ {p : Program} {l : Launch} {e : Env} {s : State} {m : MethodId} {args : Array Value} {below : List Frame} {meth : Method} {c : Code} {D : va_G} {tc : Nat → ClassId} {h0 : Nat} {sa : Nat → Nat} {A : Nat → Prop} {post : Int32 → Dt → Prop} {tS : Nat → Nat} {nS : Nat → Nat} {rS : Nat → Nat → Nat}  (X : Cx p c s m meth cX13_isThere 2 RX13 D tc) (hr : meth.sig.returnType = (Option.some FieldType.boolean)) (hT : ST h0 sa s s.heap) (hA0 : ∀ q, A q → h0 ≤ q) , ∀ (wS : Dt) (H : Heap) (locs : List Loc) (ls : Array Slot), wp_X13_isThere_38 post tS nS rS  wS → SB D tc (sa 3) A tS nS rS wS H → va_S A s.heap H locs → lv_has ls 2 [] → W p l e rm_X13_isThere s m args below meth c H locs 0 0 (MQ below (QB (fun u : Int32 × Dt => post u.1 u.2) (fun (u : Int32 × Dt) (H1 : Heap) => SB D tc (sa 3) A tS nS rS u.2 H1) (fun u : Int32 × Dt => some (.int u.1)) A) args s rm_X13_isThere.cells rm_X13_isThere.slots A) (F0 m 38 ls []) := by
  intro p l e s m args below meth c D tc h0 sa A post tS nS rS  X hr hT hA0   wS H locs ls hw hB  hS hl
  have hx := X.1
  have hb := X.2.1
  have hown := X.2.2.2.1
  have hU := X.2.2.2.2.1.1
  unfold wp_X13_isThere_38 at hw
  refine lv_iconst (v := 0) hx hb dX13_isThere_38 (by decide) ?_
  exact t_X13_isThere_39 X hr hT hA0  0 wS _ _ _ hw hB  hS (lv_sub hl [] rfl)
def wp_X13_isThere (post : Int32 → Dt → Prop) (tS : Nat → Nat) (nS : Nat → Nat) (rS : Nat → Nat → Nat) (wS : Dt) (x0 : Nat) (x1 : Int32) : Prop := wp_X13_begins (fun wS1 => wp_X13_noStorm (fun r2 wS3 => (¬ r2 = 0 → wp_X13_isThere_38 post tS nS rS  wS3) ∧ (r2 = 0 → vp_in x1 (nS (rS (rS x0 1) 8)) ∧ ((¬ (wS3 (rS (rS (rS x0 1) 8) x1.toNatClampNeg) 5) = 0 → wp_X13_isThere_38 post tS nS rS  wS3) ∧ ((wS3 (rS (rS (rS x0 1) 8) x1.toNatClampNeg) 5) = 0 → wp_X13_isThere_39 post tS nS rS  1 wS3)))) tS nS rS wS1 x0 x1) tS nS rS wS x0
set_option maxHeartbeats 4000000 in
set_option maxRecDepth 100000 in
theorem c_X13_isThere (l : Launch) (D : va_G) (tc : Nat → ClassId) (h0 : Nat) (sa : Nat → Nat) (x0 : Nat) (x1 : Int32) {A : Nat → Prop} (H0 : Heap) {tS nS : Nat → Nat} {rS : Nat → Nat → Nat} {wS : Dt} (hB : SB D tc (sa 3) A tS nS rS wS H0) (hkx0 : tS x0 = 7) (hA0 : ∀ q, A q → h0 ≤ q) {post : Int32 → Dt → Prop} (hw : wp_X13_isThere post tS nS rS wS x0 x1) : MB l yX13_isThere cX13_isThere 2 (Option.some FieldType.boolean) rm_X13_isThere A [.ref x0, .int x1] D tc h0 sa H0 (fun u : Int32 × Dt => post u.1 u.2) (fun (u : Int32 × Dt) (H1 : Heap) => SB D tc (sa 3) A tS nS rS u.2 H1) (fun u : Int32 × Dt => some (.int u.1)) := by
  refine MB.of RX13 [(0, .ref x0), (1, .int x1)] (by decide +kernel) rfl (Nat.le_of_ble_eq_true rfl) rfl ?_
  intro p e s m below meth c ls X hr hin hT hH hS hl
  subst hH
  have hx := X.1
  have hb := X.2.1
  have hown := X.2.2.2.1
  have hU := X.2.2.2.2.1.1
  unfold wp_X13_isThere at hw
  refine lv_aload_n hx hb dX13_isThere_0 rfl (lv_at hl 0 rfl) ?_
  refine g_after (st0 := [.ref x0]) (rest := []) (g_V X m_X13_61 (c_X13_begins l D tc h0 sa x0 _ hB hkx0 hA0 hw) (recv1 X.2.2.2.2.1 rfl (hB.at (k := 7) hkx0 rfl)) hT hS hA0 dX13_isThere_1 hl.1 rfl rfl ⟨Nat.le_of_ble_eq_true rfl, Nat.le_of_ble_eq_true rfl⟩ (Nat.le_of_ble_eq_true rfl) ⟨Nat.le_of_ble_eq_true rfl, Nat.le_of_ble_eq_true rfl⟩) hS (fun _ h => h) (fun u => []) (fun _ => rfl) (fun u H locs hw hP9 hz9 hk9 hS => ?_)
  obtain ⟨wS1, rfl⟩ : ∃ z, z = u := ⟨_, rfl⟩
  try dsimp only at hw hP9
  have hB := hP9
  refine lv_aload_n hx hb dX13_isThere_4 rfl (lv_at hl 0 rfl) ?_
  refine lv_iload_n hx hb dX13_isThere_5 rfl (lv_at hl 1 rfl) ?_
  refine g_after (st0 := [.int x1, .ref x0]) (rest := []) (g_V X m_X13_175 (c_X13_noStorm l D tc h0 sa x0 x1 _ hB hkx0 hA0 hw) (recv1 X.2.2.2.2.1 rfl (hB.at (k := 7) hkx0 rfl)) hT hS hA0 dX13_isThere_6 hl.1 rfl rfl ⟨Nat.le_of_ble_eq_true rfl, Nat.le_of_ble_eq_true rfl⟩ (Nat.le_of_ble_eq_true rfl) ⟨Nat.le_of_ble_eq_true rfl, Nat.le_of_ble_eq_true rfl⟩) hS (fun _ h => h) (fun u => .int u.1 :: []) (fun _ => rfl) (fun u H locs hw hP9 hz9 hk9 hS => ?_)
  obtain ⟨r2, wS3⟩ := u
  try dsimp only at hw hP9
  have hB := hP9
  refine lv_if_ne (tgt := 38) hx hb dX13_isThere_9 (by decide) (fun c4 => ?_) (fun c4 => ?_)
  · have hw := hw.1 c4
    exact t_X13_isThere_38 X hr hT hA0  wS3 _ _ _ hw hB  hS (lv_sub hl [] rfl)
  · have hw := hw.2 c4
    refine lv_aload_n hx hb dX13_isThere_12 rfl (lv_at hl 0 rfl) ?_
    refine g_get X dX13_isThere_13 f_X13_34 (hB.one (k := 7) hkx0 rfl) 0 (v := .ref (rS x0 1)) rfl rfl ?_
    have k6 : tS (rS x0 1) = 4 := (hB.wtk hkx0).1
    refine g_getN X dX13_isThere_16 f_X13_139 (hB.one (k := 4) k6 rfl) 0 (v := .ref (rS (rS x0 1) 8)) rfl rfl ?_
    have k7 : tS (rS (rS x0 1) 8) = 8 := (hB.wtk k6).2.2.2.2.1
    refine lv_iload_n hx hb dX13_isThere_19 rfl (lv_at hl 1 rfl) ?_
    obtain ⟨fs9, hat9⟩ := hB.lat (isL_of k7)
    obtain ⟨o8, hw⟩ := hw
    refine g_after5 (st0 := [.int x1, .ref (rS (rS x0 1) 8)]) (rest := []) (g_F X mf_X13_163 (c_get l D tc h0 sa _ (rS (rS x0 1) 8) hB (isL_of k7) o8) rfl hat9 hT hS hA0 dX13_isThere_20 hl.1 rfl rfl ⟨Nat.le_of_ble_eq_true rfl, Nat.le_of_ble_eq_true rfl⟩ (Nat.le_of_ble_eq_true rfl) ⟨Nat.le_of_ble_eq_true rfl, Nat.le_of_ble_eq_true rfl⟩) hS (fun _ h => h.elim) (fun u => .ref (rS (rS (rS x0 1) 8) x1.toNatClampNeg) :: []) (fun _ => rfl) (fun u H9 locs hu hP9 hz9 hk9 hS => ?_)
    have e9 : H9 = _ := hP9
    rw [e9] at hS ⊢
    have k9 : tS (rS (rS (rS x0 1) 8) x1.toNatClampNeg) = 3 := hB.elt k7 (lt10 o8)
    refine x_cast X w_1435 rfl (hB.at (k := 3) k9 rfl) dX13_isThere_25 ?_
    refine g_getN X dX13_isThere_28 f_X13_167 (hB.one (k := 3) k9 rfl) 0 (v := .int (wS3 (rS (rS (rS x0 1) 8) x1.toNatClampNeg) 5)) rfl rfl ?_
    refine lv_if_ne (tgt := 38) hx hb dX13_isThere_31 (by decide) (fun c10 => ?_) (fun c10 => ?_)
    · have hw := hw.1 c10
      exact t_X13_isThere_38 X hr hT hA0  wS3 _ _ _ hw hB  hS (lv_sub hl [] rfl)
    · have hw := hw.2 c10
      refine lv_iconst (v := 1) hx hb dX13_isThere_34 (by decide) ?_
      refine lv_goto (tgt := 39) hx hb dX13_isThere_35 (by decide) ?_
      exact t_X13_isThere_39 X hr hT hA0  1 wS3 _ _ _ hw hB  hS (lv_sub hl [] rfl)
abbrev rm_X13_livesIn : Room := { frames := 3, cells := 0, slots := 0, locals := 67 }
def wp_X13_livesIn_89 (post : Int32 → Dt → Prop) (tS : Nat → Nat) (nS : Nat → Nat) (rS : Nat → Nat → Nat)  (z0 : Int32) (wS : Dt) : Prop := post z0 wS
set_option maxHeartbeats 4000000 in
set_option maxRecDepth 100000 in
theorem t_X13_livesIn_89 : ∀ {p : Program} {l : Launch} {e : Env} {s : State} {m : MethodId} {args : Array Value} {below : List Frame} {meth : Method} {c : Code} {D : va_G} {tc : Nat → ClassId} {h0 : Nat} {sa : Nat → Nat} {A : Nat → Prop} {post : Int32 → Dt → Prop} {tS : Nat → Nat} {nS : Nat → Nat} {rS : Nat → Nat → Nat}  (X : Cx p c s m meth cX13_livesIn 3 RX13 D tc) (hr : meth.sig.returnType = (Option.some FieldType.int)) (hT : ST h0 sa s s.heap) (hA0 : ∀ q, A q → h0 ≤ q) , ∀ (z0 : Int32) (wS : Dt) (H : Heap) (locs : List Loc) (ls : Array Slot), wp_X13_livesIn_89 post tS nS rS  z0 wS → SB D tc (sa 3) A tS nS rS wS H → va_S A s.heap H locs → lv_has ls 3 [] → W p l e rm_X13_livesIn s m args below meth c H locs 0 0 (MQ below (QB (fun u : Int32 × Dt => post u.1 u.2) (fun (u : Int32 × Dt) (H1 : Heap) => SB D tc (sa 3) A tS nS rS u.2 H1) (fun u : Int32 × Dt => some (.int u.1)) A) args s rm_X13_livesIn.cells rm_X13_livesIn.slots A) (F0 m 89 ls [.int z0]) := by
  intro p l e s m args below meth c D tc h0 sa A post tS nS rS  X hr hT hA0   z0 wS H locs ls hw hB  hS hl
  have hx := X.1
  have hb := X.2.1
  have hown := X.2.2.2.1
  have hU := X.2.2.2.2.1.1
  unfold wp_X13_livesIn_89 at hw
  exact e_i X hr dX13_livesIn_89 hS (z0, wS) rfl hw hB ⟨Nat.le_of_ble_eq_true rfl, Nat.le_of_ble_eq_true rfl⟩
def wp_X13_livesIn_77 (post : Int32 → Dt → Prop) (tS : Nat → Nat) (nS : Nat → Nat) (rS : Nat → Nat → Nat)  (y2 : Int32) (z0 : Int32) (z1 : Nat) (wS : Dt) : Prop := wp_X13_fails (fun r7 wS8 => (r7 = 0 → wp_X13_livesIn_89 post tS nS rS  y2 wS8) ∧ (¬ r7 = 0 → wp_X13_livesIn_89 post tS nS rS  (-1) wS8)) tS nS rS wS z1 z0 2
set_option maxHeartbeats 4000000 in
set_option maxRecDepth 100000 in
theorem t_X13_livesIn_77 : ∀ {p : Program} {l : Launch} {e : Env} {s : State} {m : MethodId} {args : Array Value} {below : List Frame} {meth : Method} {c : Code} {D : va_G} {tc : Nat → ClassId} {h0 : Nat} {sa : Nat → Nat} {A : Nat → Prop} {post : Int32 → Dt → Prop} {tS : Nat → Nat} {nS : Nat → Nat} {rS : Nat → Nat → Nat}  (X : Cx p c s m meth cX13_livesIn 3 RX13 D tc) (hr : meth.sig.returnType = (Option.some FieldType.int)) (hT : ST h0 sa s s.heap) (hA0 : ∀ q, A q → h0 ≤ q) , ∀ (y2 : Int32) (z0 : Int32) (z1 : Nat) (wS : Dt) (H : Heap) (locs : List Loc) (ls : Array Slot), wp_X13_livesIn_77 post tS nS rS  y2 z0 z1 wS → SB D tc (sa 3) A tS nS rS wS H → (tS z1 = 7) → va_S A s.heap H locs → lv_has ls 3 [(2, .int y2)] → W p l e rm_X13_livesIn s m args below meth c H locs 0 0 (MQ below (QB (fun u : Int32 × Dt => post u.1 u.2) (fun (u : Int32 × Dt) (H1 : Heap) => SB D tc (sa 3) A tS nS rS u.2 H1) (fun u : Int32 × Dt => some (.int u.1)) A) args s rm_X13_livesIn.cells rm_X13_livesIn.slots A) (F0 m 77 ls [.int z0, .ref z1]) := by
  intro p l e s m args below meth c D tc h0 sa A post tS nS rS  X hr hT hA0   y2 z0 z1 wS H locs ls hw hB hkz1 hS hl
  have hx := X.1
  have hb := X.2.1
  have hown := X.2.2.2.1
  have hU := X.2.2.2.2.1.1
  unfold wp_X13_livesIn_77 at hw
  refine lv_iconst (v := 2) hx hb dX13_livesIn_77 (by decide) ?_
  refine g_after (st0 := [.int 2, .int z0, .ref z1]) (rest := []) (g_V X m_X13_57 (c_X13_fails l D tc h0 sa z1 z0 2 _ hB hkz1 hA0 hw) (recv1 X.2.2.2.2.1 rfl (hB.at (k := 7) hkz1 rfl)) hT hS hA0 dX13_livesIn_78 hl.1 rfl rfl ⟨Nat.le_of_ble_eq_true rfl, Nat.le_of_ble_eq_true rfl⟩ (Nat.le_of_ble_eq_true rfl) ⟨Nat.le_of_ble_eq_true rfl, Nat.le_of_ble_eq_true rfl⟩) hS (fun _ h => h) (fun u => .int u.1 :: []) (fun _ => rfl) (fun u H locs hw hP9 hz9 hk9 hS => ?_)
  obtain ⟨r7, wS8⟩ := u
  try dsimp only at hw hP9
  have hB := hP9
  refine lv_if_eq (tgt := 88) hx hb dX13_livesIn_81 (by decide) (fun c9 => ?_) (fun c9 => ?_)
  · have hw := hw.1 c9
    refine lv_iload_n hx hb dX13_livesIn_88 rfl (lv_at hl 0 rfl) ?_
    exact t_X13_livesIn_89 X hr hT hA0  y2 wS8 _ _ _ hw hB  hS (lv_sub hl [] rfl)
  · have hw := hw.2 c9
    refine lv_iconst (v := (-1)) hx hb dX13_livesIn_84 (by decide) ?_
    refine lv_goto (tgt := 89) hx hb dX13_livesIn_85 (by decide) ?_
    exact t_X13_livesIn_89 X hr hT hA0  (-1) wS8 _ _ _ hw hB  hS (lv_sub hl [] rfl)
def wp_X13_livesIn_66 (post : Int32 → Dt → Prop) (tS : Nat → Nat) (nS : Nat → Nat) (rS : Nat → Nat → Nat)  (y0 : Nat) (y2 : Int32) (wS : Dt) : Prop := (¬ y2 = (-1) → wp_X13_livesIn_77 post tS nS rS  y2 0 y0 wS) ∧ (y2 = (-1) → wp_X13_livesIn_77 post tS nS rS  y2 1 y0 wS)
set_option maxHeartbeats 4000000 in
set_option maxRecDepth 100000 in
theorem t_X13_livesIn_66 : ∀ {p : Program} {l : Launch} {e : Env} {s : State} {m : MethodId} {args : Array Value} {below : List Frame} {meth : Method} {c : Code} {D : va_G} {tc : Nat → ClassId} {h0 : Nat} {sa : Nat → Nat} {A : Nat → Prop} {post : Int32 → Dt → Prop} {tS : Nat → Nat} {nS : Nat → Nat} {rS : Nat → Nat → Nat}  (X : Cx p c s m meth cX13_livesIn 3 RX13 D tc) (hr : meth.sig.returnType = (Option.some FieldType.int)) (hT : ST h0 sa s s.heap) (hA0 : ∀ q, A q → h0 ≤ q) , ∀ (y0 : Nat) (y2 : Int32) (wS : Dt) (H : Heap) (locs : List Loc) (ls : Array Slot), wp_X13_livesIn_66 post tS nS rS  y0 y2 wS → SB D tc (sa 3) A tS nS rS wS H → (tS y0 = 7) → va_S A s.heap H locs → lv_has ls 3 [(0, .ref y0), (2, .int y2)] → W p l e rm_X13_livesIn s m args below meth c H locs 0 0 (MQ below (QB (fun u : Int32 × Dt => post u.1 u.2) (fun (u : Int32 × Dt) (H1 : Heap) => SB D tc (sa 3) A tS nS rS u.2 H1) (fun u : Int32 × Dt => some (.int u.1)) A) args s rm_X13_livesIn.cells rm_X13_livesIn.slots A) (F0 m 66 ls []) := by
  intro p l e s m args below meth c D tc h0 sa A post tS nS rS  X hr hT hA0   y0 y2 wS H locs ls hw hB hky0 hS hl
  have hx := X.1
  have hb := X.2.1
  have hown := X.2.2.2.1
  have hU := X.2.2.2.2.1.1
  unfold wp_X13_livesIn_66 at hw
  refine lv_aload_n hx hb dX13_livesIn_66 rfl (lv_at hl 0 rfl) ?_
  refine lv_iload_n hx hb dX13_livesIn_67 rfl (lv_at hl 1 rfl) ?_
  refine lv_iconst (v := (-1)) hx hb dX13_livesIn_68 (by decide) ?_
  refine lv_icmp_ne (tgt := 76) hx hb dX13_livesIn_69 (by decide) (fun c6 => ?_) (fun c6 => ?_)
  · have hw := hw.1 c6
    refine lv_iconst (v := 0) hx hb dX13_livesIn_76 (by decide) ?_
    exact t_X13_livesIn_77 X hr hT hA0  y2 0 y0 wS _ _ _ hw hB hky0 hS (lv_sub hl [1] rfl)
  · have hw := hw.2 c6
    refine lv_iconst (v := 1) hx hb dX13_livesIn_72 (by decide) ?_
    refine lv_goto (tgt := 77) hx hb dX13_livesIn_73 (by decide) ?_
    exact t_X13_livesIn_77 X hr hT hA0  y2 1 y0 wS _ _ _ hw hB hky0 hS (lv_sub hl [1] rfl)
def wp_X13_livesIn_16 (post : Int32 → Dt → Prop) (tS : Nat → Nat) (nS : Nat → Nat) (rS : Nat → Nat → Nat)  : Nat → (Nat) → (Int32) → (Dt) → Prop
  | 0, _, _, _ => False
  | n9 + 1, y0, y2, wS => (y2 = (-1) → wp_X13_livesIn_66 post tS nS rS  y0 y2 wS) ∧ (¬ y2 = (-1) → vp_in y2 (nS (rS (rS y0 1) 8)) ∧ (((wS (rS (rS (rS y0 1) 8) y2.toNatClampNeg) 5) = 0 → wp_X13_livesIn_66 post tS nS rS  y0 y2 wS) ∧ (¬ (wS (rS (rS (rS y0 1) 8) y2.toNatClampNeg) 5) = 0 → ∀ v18 : Int32, v18 = (wS (rS (rS (rS y0 1) 8) y2.toNatClampNeg) 6) → (wp_X13_livesIn_16 post tS nS rS  n9 y0 v18 wS))))
set_option maxHeartbeats 4000000 in
set_option maxRecDepth 100000 in
theorem t_X13_livesIn_16 : ∀ {p : Program} {l : Launch} {e : Env} {s : State} {m : MethodId} {args : Array Value} {below : List Frame} {meth : Method} {c : Code} {D : va_G} {tc : Nat → ClassId} {h0 : Nat} {sa : Nat → Nat} {A : Nat → Prop} {post : Int32 → Dt → Prop} {tS : Nat → Nat} {nS : Nat → Nat} {rS : Nat → Nat → Nat}  (X : Cx p c s m meth cX13_livesIn 3 RX13 D tc) (hr : meth.sig.returnType = (Option.some FieldType.int)) (hT : ST h0 sa s s.heap) (hA0 : ∀ q, A q → h0 ≤ q)  (n9 : Nat), ∀ (y0 : Nat) (y2 : Int32) (wS : Dt) (H : Heap) (locs : List Loc) (ls : Array Slot), wp_X13_livesIn_16 post tS nS rS  n9 y0 y2 wS → SB D tc (sa 3) A tS nS rS wS H → (tS y0 = 7) → va_S A s.heap H locs → lv_has ls 3 [(0, .ref y0), (2, .int y2)] → W p l e rm_X13_livesIn s m args below meth c H locs 0 0 (MQ below (QB (fun u : Int32 × Dt => post u.1 u.2) (fun (u : Int32 × Dt) (H1 : Heap) => SB D tc (sa 3) A tS nS rS u.2 H1) (fun u : Int32 × Dt => some (.int u.1)) A) args s rm_X13_livesIn.cells rm_X13_livesIn.slots A) (F0 m 16 ls []) := by
  intro p l e s m args below meth c D tc h0 sa A post tS nS rS  X hr hT hA0  n9
  have hx := X.1
  have hb := X.2.1
  have hown := X.2.2.2.1
  have hU := X.2.2.2.2.1.1
  induction n9 with
  | zero =>
    intro  y0 y2 wS H locs ls hw
    exact hw.elim
  | succ n9 ih =>
    intro  y0 y2 wS H locs ls hw hB hky0 hS hl
    unfold wp_X13_livesIn_16 at hw
    refine lv_iload_n hx hb dX13_livesIn_16 rfl (lv_at hl 1 rfl) ?_
    refine lv_iconst (v := (-1)) hx hb dX13_livesIn_17 (by decide) ?_
    refine lv_icmp_eq (tgt := 66) hx hb dX13_livesIn_18 (by decide) (fun c5 => ?_) (fun c5 => ?_)
    · have hw := hw.1 c5
      exact t_X13_livesIn_66 X hr hT hA0  y0 y2 wS _ _ _ hw hB hky0 hS (lv_sub hl [0, 1] rfl)
    · have hw := hw.2 c5
      refine lv_aload_n hx hb dX13_livesIn_21 rfl (lv_at hl 0 rfl) ?_
      refine g_get X dX13_livesIn_22 f_X13_34 (hB.one (k := 7) hky0 rfl) 0 (v := .ref (rS y0 1)) rfl rfl ?_
      have k10 : tS (rS y0 1) = 4 := (hB.wtk hky0).1
      refine g_getN X dX13_livesIn_25 f_X13_139 (hB.one (k := 4) k10 rfl) 0 (v := .ref (rS (rS y0 1) 8)) rfl rfl ?_
      have k11 : tS (rS (rS y0 1) 8) = 8 := (hB.wtk k10).2.2.2.2.1
      refine lv_iload_n hx hb dX13_livesIn_28 rfl (lv_at hl 1 rfl) ?_
      obtain ⟨fs9, hat9⟩ := hB.lat (isL_of k11)
      obtain ⟨o12, hw⟩ := hw
      refine g_after5 (st0 := [.int y2, .ref (rS (rS y0 1) 8)]) (rest := []) (g_F X mf_X13_163 (c_get l D tc h0 sa _ (rS (rS y0 1) 8) hB (isL_of k11) o12) rfl hat9 hT hS hA0 dX13_livesIn_29 hl.1 rfl rfl ⟨Nat.le_of_ble_eq_true rfl, Nat.le_of_ble_eq_true rfl⟩ (Nat.le_of_ble_eq_true rfl) ⟨Nat.le_of_ble_eq_true rfl, Nat.le_of_ble_eq_true rfl⟩) hS (fun _ h => h.elim) (fun u => .ref (rS (rS (rS y0 1) 8) y2.toNatClampNeg) :: []) (fun _ => rfl) (fun u H9 locs hu hP9 hz9 hk9 hS => ?_)
      have e9 : H9 = _ := hP9
      rw [e9] at hS ⊢
      have k13 : tS (rS (rS (rS y0 1) 8) y2.toNatClampNeg) = 3 := hB.elt k11 (lt10 o12)
      refine x_cast X w_1435 rfl (hB.at (k := 3) k13 rfl) dX13_livesIn_34 ?_
      refine g_getN X dX13_livesIn_37 f_X13_167 (hB.one (k := 3) k13 rfl) 0 (v := .int (wS (rS (rS (rS y0 1) 8) y2.toNatClampNeg) 5)) rfl rfl ?_
      refine lv_if_eq (tgt := 66) hx hb dX13_livesIn_40 (by decide) (fun c14 => ?_) (fun c14 => ?_)
      · have hw := hw.1 c14
        exact t_X13_livesIn_66 X hr hT hA0  y0 y2 wS _ _ _ hw hB hky0 hS (lv_sub hl [0, 1] rfl)
      · have hw := hw.2 c14
        refine lv_aload_n hx hb dX13_livesIn_43 rfl (lv_at hl 0 rfl) ?_
        refine g_get X dX13_livesIn_44 f_X13_34 (hB.one (k := 7) hky0 rfl) 0 (v := .ref (rS y0 1)) rfl rfl ?_
        have k15 : tS (rS y0 1) = 4 := (hB.wtk hky0).1
        refine g_getN X dX13_livesIn_47 f_X13_139 (hB.one (k := 4) k15 rfl) 0 (v := .ref (rS (rS y0 1) 8)) rfl rfl ?_
        have k16 : tS (rS (rS y0 1) 8) = 8 := (hB.wtk k15).2.2.2.2.1
        refine lv_iload_n hx hb dX13_livesIn_50 rfl (lv_at hl 1 rfl) ?_
        obtain ⟨fs9, hat9⟩ := hB.lat (isL_of k16)
        refine g_after5 (st0 := [.int y2, .ref (rS (rS y0 1) 8)]) (rest := []) (g_F X mf_X13_163 (c_get l D tc h0 sa _ (rS (rS y0 1) 8) hB (isL_of k16) o12) rfl hat9 hT hS hA0 dX13_livesIn_51 hl.1 rfl rfl ⟨Nat.le_of_ble_eq_true rfl, Nat.le_of_ble_eq_true rfl⟩ (Nat.le_of_ble_eq_true rfl) ⟨Nat.le_of_ble_eq_true rfl, Nat.le_of_ble_eq_true rfl⟩) hS (fun _ h => h.elim) (fun u => .ref (rS (rS (rS y0 1) 8) y2.toNatClampNeg) :: []) (fun _ => rfl) (fun u H9 locs hu hP9 hz9 hk9 hS => ?_)
        have e9 : H9 = _ := hP9
        rw [e9] at hS ⊢
        have k17 : tS (rS (rS (rS y0 1) 8) y2.toNatClampNeg) = 3 := hB.elt k16 (lt10 o12)
        refine x_cast X w_1435 rfl (hB.at (k := 3) k17 rfl) dX13_livesIn_56 ?_
        refine g_getN X dX13_livesIn_59 f_X13_192 (hB.one (k := 3) k17 rfl) 0 (v := .int (wS (rS (rS (rS y0 1) 8) y2.toNatClampNeg) 6)) rfl rfl ?_
        refine lv_topi (fun v18 ev18 => ?_)
        have hw := hw v18 ev18
        refine lv_istore_n (lv' := [(2, .int v18), (0, .ref y0)]) hx hb dX13_livesIn_62 rfl hl (by decide) rfl (fun ls hl => ?_)
        refine lv_goto (tgt := 16) hx hb dX13_livesIn_63 (by decide) ?_
        exact ih y0 v18 wS _ _ _ hw hB hky0 hS (lv_sub hl [1, 0] rfl)
def wp_X13_livesIn (post : Int32 → Dt → Prop) (tS : Nat → Nat) (nS : Nat → Nat) (rS : Nat → Nat → Nat) (wS : Dt) (x0 : Nat) (x1 : Int32) : Prop := wp_X13_begins (fun wS1 => wp_X13_noStorm (fun r2 wS3 => (r2 = 0 → ∃ k9 : Nat, wp_X13_livesIn_16 post tS nS rS  k9 x0 x1 wS3) ∧ (¬ r2 = 0 → post (-1) wS3)) tS nS rS wS1 x0 x1) tS nS rS wS x0
set_option maxHeartbeats 4000000 in
set_option maxRecDepth 100000 in
theorem c_X13_livesIn (l : Launch) (D : va_G) (tc : Nat → ClassId) (h0 : Nat) (sa : Nat → Nat) (x0 : Nat) (x1 : Int32) {A : Nat → Prop} (H0 : Heap) {tS nS : Nat → Nat} {rS : Nat → Nat → Nat} {wS : Dt} (hB : SB D tc (sa 3) A tS nS rS wS H0) (hkx0 : tS x0 = 7) (hA0 : ∀ q, A q → h0 ≤ q) {post : Int32 → Dt → Prop} (hw : wp_X13_livesIn post tS nS rS wS x0 x1) : MB l yX13_livesIn cX13_livesIn 3 (Option.some FieldType.int) rm_X13_livesIn A [.ref x0, .int x1] D tc h0 sa H0 (fun u : Int32 × Dt => post u.1 u.2) (fun (u : Int32 × Dt) (H1 : Heap) => SB D tc (sa 3) A tS nS rS u.2 H1) (fun u : Int32 × Dt => some (.int u.1)) := by
  refine MB.of RX13 [(0, .ref x0), (1, .int x1)] (by decide +kernel) rfl (Nat.le_of_ble_eq_true rfl) rfl ?_
  intro p e s m below meth c ls X hr hin hT hH hS hl
  subst hH
  have hx := X.1
  have hb := X.2.1
  have hown := X.2.2.2.1
  have hU := X.2.2.2.2.1.1
  unfold wp_X13_livesIn at hw
  refine lv_aload_n hx hb dX13_livesIn_0 rfl (lv_at hl 0 rfl) ?_
  refine g_after (st0 := [.ref x0]) (rest := []) (g_V X m_X13_61 (c_X13_begins l D tc h0 sa x0 _ hB hkx0 hA0 hw) (recv1 X.2.2.2.2.1 rfl (hB.at (k := 7) hkx0 rfl)) hT hS hA0 dX13_livesIn_1 hl.1 rfl rfl ⟨Nat.le_of_ble_eq_true rfl, Nat.le_of_ble_eq_true rfl⟩ (Nat.le_of_ble_eq_true rfl) ⟨Nat.le_of_ble_eq_true rfl, Nat.le_of_ble_eq_true rfl⟩) hS (fun _ h => h) (fun u => []) (fun _ => rfl) (fun u H locs hw hP9 hz9 hk9 hS => ?_)
  obtain ⟨wS1, rfl⟩ : ∃ z, z = u := ⟨_, rfl⟩
  try dsimp only at hw hP9
  have hB := hP9
  refine lv_aload_n hx hb dX13_livesIn_4 rfl (lv_at hl 0 rfl) ?_
  refine lv_iload_n hx hb dX13_livesIn_5 rfl (lv_at hl 1 rfl) ?_
  refine g_after (st0 := [.int x1, .ref x0]) (rest := []) (g_V X m_X13_175 (c_X13_noStorm l D tc h0 sa x0 x1 _ hB hkx0 hA0 hw) (recv1 X.2.2.2.2.1 rfl (hB.at (k := 7) hkx0 rfl)) hT hS hA0 dX13_livesIn_6 hl.1 rfl rfl ⟨Nat.le_of_ble_eq_true rfl, Nat.le_of_ble_eq_true rfl⟩ (Nat.le_of_ble_eq_true rfl) ⟨Nat.le_of_ble_eq_true rfl, Nat.le_of_ble_eq_true rfl⟩) hS (fun _ h => h) (fun u => .int u.1 :: []) (fun _ => rfl) (fun u H locs hw hP9 hz9 hk9 hS => ?_)
  obtain ⟨r2, wS3⟩ := u
  try dsimp only at hw hP9
  have hB := hP9
  refine lv_if_eq (tgt := 14) hx hb dX13_livesIn_9 (by decide) (fun c4 => ?_) (fun c4 => ?_)
  · have hw := hw.1 c4
    refine lv_iload_n hx hb dX13_livesIn_14 rfl (lv_at hl 1 rfl) ?_
    refine lv_istore_n (lv' := [(2, .int x1), (0, .ref x0), (1, .int x1)]) hx hb dX13_livesIn_15 rfl hl (by decide) rfl (fun ls hl => ?_)
    obtain ⟨k9, hw⟩ := hw
    exact t_X13_livesIn_16 X hr hT hA0  k9 x0 x1 wS3 _ _ _ hw hB hkx0 hS (lv_sub hl [1, 0] rfl)
  · have hw := hw.2 c4
    refine lv_iconst (v := (-1)) hx hb dX13_livesIn_12 (by decide) ?_
    exact e_i X hr dX13_livesIn_13 hS ((-1), wS3) rfl hw hB ⟨Nat.le_of_ble_eq_true rfl, Nat.le_of_ble_eq_true rfl⟩
abbrev rm_X13_getWidth : Room := { frames := 3, cells := 0, slots := 0, locals := 67 }
def wp_X13_getWidth_34 (post : Int32 → Dt → Prop) (tS : Nat → Nat) (nS : Nat → Nat) (rS : Nat → Nat → Nat)  (z0 : Int32) (wS : Dt) : Prop := post z0 wS
set_option maxHeartbeats 4000000 in
set_option maxRecDepth 100000 in
theorem t_X13_getWidth_34 : ∀ {p : Program} {l : Launch} {e : Env} {s : State} {m : MethodId} {args : Array Value} {below : List Frame} {meth : Method} {c : Code} {D : va_G} {tc : Nat → ClassId} {h0 : Nat} {sa : Nat → Nat} {A : Nat → Prop} {post : Int32 → Dt → Prop} {tS : Nat → Nat} {nS : Nat → Nat} {rS : Nat → Nat → Nat}  (X : Cx p c s m meth cX13_getWidth 2 RX13 D tc) (hr : meth.sig.returnType = (Option.some FieldType.int)) (hT : ST h0 sa s s.heap) (hA0 : ∀ q, A q → h0 ≤ q) , ∀ (z0 : Int32) (wS : Dt) (H : Heap) (locs : List Loc) (ls : Array Slot), wp_X13_getWidth_34 post tS nS rS  z0 wS → SB D tc (sa 3) A tS nS rS wS H → va_S A s.heap H locs → lv_has ls 2 [] → W p l e rm_X13_getWidth s m args below meth c H locs 0 0 (MQ below (QB (fun u : Int32 × Dt => post u.1 u.2) (fun (u : Int32 × Dt) (H1 : Heap) => SB D tc (sa 3) A tS nS rS u.2 H1) (fun u : Int32 × Dt => some (.int u.1)) A) args s rm_X13_getWidth.cells rm_X13_getWidth.slots A) (F0 m 34 ls [.int z0]) := by
  intro p l e s m args below meth c D tc h0 sa A post tS nS rS  X hr hT hA0   z0 wS H locs ls hw hB  hS hl
  have hx := X.1
  have hb := X.2.1
  have hown := X.2.2.2.1
  have hU := X.2.2.2.2.1.1
  unfold wp_X13_getWidth_34 at hw
  exact e_i X hr dX13_getWidth_34 hS (z0, wS) rfl hw hB ⟨Nat.le_of_ble_eq_true rfl, Nat.le_of_ble_eq_true rfl⟩
def wp_X13_getWidth (post : Int32 → Dt → Prop) (tS : Nat → Nat) (nS : Nat → Nat) (rS : Nat → Nat → Nat) (wS : Dt) (x0 : Nat) (x1 : Int32) : Prop := wp_X13_begins (fun wS1 => wp_X13_noScar (fun r2 wS3 => (r2 = 0 → vp_in x1 (nS (rS (rS x0 1) 9)) ∧ (wp_X13_getWidth_34 post tS nS rS  (wS3 (rS (rS (rS x0 1) 9) x1.toNatClampNeg) 2) wS3)) ∧ (¬ r2 = 0 → wp_X13_getWidth_34 post tS nS rS  (-1) wS3)) tS nS rS wS1 x0 x1) tS nS rS wS x0
set_option maxHeartbeats 4000000 in
set_option maxRecDepth 100000 in
theorem c_X13_getWidth (l : Launch) (D : va_G) (tc : Nat → ClassId) (h0 : Nat) (sa : Nat → Nat) (x0 : Nat) (x1 : Int32) {A : Nat → Prop} (H0 : Heap) {tS nS : Nat → Nat} {rS : Nat → Nat → Nat} {wS : Dt} (hB : SB D tc (sa 3) A tS nS rS wS H0) (hkx0 : tS x0 = 7) (hA0 : ∀ q, A q → h0 ≤ q) {post : Int32 → Dt → Prop} (hw : wp_X13_getWidth post tS nS rS wS x0 x1) : MB l yX13_getWidth cX13_getWidth 2 (Option.some FieldType.int) rm_X13_getWidth A [.ref x0, .int x1] D tc h0 sa H0 (fun u : Int32 × Dt => post u.1 u.2) (fun (u : Int32 × Dt) (H1 : Heap) => SB D tc (sa 3) A tS nS rS u.2 H1) (fun u : Int32 × Dt => some (.int u.1)) := by
  refine MB.of RX13 [(0, .ref x0), (1, .int x1)] (by decide +kernel) rfl (Nat.le_of_ble_eq_true rfl) rfl ?_
  intro p e s m below meth c ls X hr hin hT hH hS hl
  subst hH
  have hx := X.1
  have hb := X.2.1
  have hown := X.2.2.2.1
  have hU := X.2.2.2.2.1.1
  unfold wp_X13_getWidth at hw
  refine lv_aload_n hx hb dX13_getWidth_0 rfl (lv_at hl 0 rfl) ?_
  refine g_after (st0 := [.ref x0]) (rest := []) (g_V X m_X13_61 (c_X13_begins l D tc h0 sa x0 _ hB hkx0 hA0 hw) (recv1 X.2.2.2.2.1 rfl (hB.at (k := 7) hkx0 rfl)) hT hS hA0 dX13_getWidth_1 hl.1 rfl rfl ⟨Nat.le_of_ble_eq_true rfl, Nat.le_of_ble_eq_true rfl⟩ (Nat.le_of_ble_eq_true rfl) ⟨Nat.le_of_ble_eq_true rfl, Nat.le_of_ble_eq_true rfl⟩) hS (fun _ h => h) (fun u => []) (fun _ => rfl) (fun u H locs hw hP9 hz9 hk9 hS => ?_)
  obtain ⟨wS1, rfl⟩ : ∃ z, z = u := ⟨_, rfl⟩
  try dsimp only at hw hP9
  have hB := hP9
  refine lv_aload_n hx hb dX13_getWidth_4 rfl (lv_at hl 0 rfl) ?_
  refine lv_iload_n hx hb dX13_getWidth_5 rfl (lv_at hl 1 rfl) ?_
  refine g_after (st0 := [.int x1, .ref x0]) (rest := []) (g_V X m_X13_204 (c_X13_noScar l D tc h0 sa x0 x1 _ hB hkx0 hA0 hw) (recv1 X.2.2.2.2.1 rfl (hB.at (k := 7) hkx0 rfl)) hT hS hA0 dX13_getWidth_6 hl.1 rfl rfl ⟨Nat.le_of_ble_eq_true rfl, Nat.le_of_ble_eq_true rfl⟩ (Nat.le_of_ble_eq_true rfl) ⟨Nat.le_of_ble_eq_true rfl, Nat.le_of_ble_eq_true rfl⟩) hS (fun _ h => h) (fun u => .int u.1 :: []) (fun _ => rfl) (fun u H locs hw hP9 hz9 hk9 hS => ?_)
  obtain ⟨r2, wS3⟩ := u
  try dsimp only at hw hP9
  have hB := hP9
  refine lv_if_eq (tgt := 16) hx hb dX13_getWidth_9 (by decide) (fun c4 => ?_) (fun c4 => ?_)
  · have hw := hw.1 c4
    refine lv_aload_n hx hb dX13_getWidth_16 rfl (lv_at hl 0 rfl) ?_
    refine g_get X dX13_getWidth_17 f_X13_34 (hB.one (k := 7) hkx0 rfl) 0 (v := .ref (rS x0 1)) rfl rfl ?_
    have k5 : tS (rS x0 1) = 4 := (hB.wtk hkx0).1
    refine g_getN X dX13_getWidth_20 f_X13_201 (hB.one (k := 4) k5 rfl) 0 (v := .ref (rS (rS x0 1) 9)) rfl rfl ?_
    have k6 : tS (rS (rS x0 1) 9) = 9 := (hB.wtk k5).2.2.2.2.2.1
    refine lv_iload_n hx hb dX13_getWidth_23 rfl (lv_at hl 1 rfl) ?_
    obtain ⟨fs9, hat9⟩ := hB.lat (isL_of k6)
    obtain ⟨o7, hw⟩ := hw
    refine g_after5 (st0 := [.int x1, .ref (rS (rS x0 1) 9)]) (rest := []) (g_F X mf_X13_163 (c_get l D tc h0 sa _ (rS (rS x0 1) 9) hB (isL_of k6) o7) rfl hat9 hT hS hA0 dX13_getWidth_24 hl.1 rfl rfl ⟨Nat.le_of_ble_eq_true rfl, Nat.le_of_ble_eq_true rfl⟩ (Nat.le_of_ble_eq_true rfl) ⟨Nat.le_of_ble_eq_true rfl, Nat.le_of_ble_eq_true rfl⟩) hS (fun _ h => h.elim) (fun u => .ref (rS (rS (rS x0 1) 9) x1.toNatClampNeg) :: []) (fun _ => rfl) (fun u H9 locs hu hP9 hz9 hk9 hS => ?_)
    have e9 : H9 = _ := hP9
    rw [e9] at hS ⊢
    have k8 : tS (rS (rS (rS x0 1) 9) x1.toNatClampNeg) = 23 := hB.elt k6 (lt10 o7)
    refine x_casta X w_1636 (hB.at (k := 23) k8 rfl) dX13_getWidth_29 ?_
    refine lv_iconst (v := 2) hx hb dX13_getWidth_32 (by decide) ?_
    refine g_iald X dX13_getWidth_33 (hB.one (k := 23) k8 rfl) 0 rfl (by unfold vp_in; decide) (k := 2) (by decide) ?_
    exact t_X13_getWidth_34 X hr hT hA0  (wS3 (rS (rS (rS x0 1) 9) x1.toNatClampNeg) 2) wS3 _ _ _ hw hB  hS (lv_sub hl [] rfl)
  · have hw := hw.2 c4
    refine lv_iconst (v := (-1)) hx hb dX13_getWidth_12 (by decide) ?_
    refine lv_goto (tgt := 34) hx hb dX13_getWidth_13 (by decide) ?_
    exact t_X13_getWidth_34 X hr hT hA0  (-1) wS3 _ _ _ hw hB  hS (lv_sub hl [] rfl)
abbrev rm_X13_scarTurns : Room := { frames := 7, cells := 0, slots := 0, locals := 147 }
def wp_X13_scarTurns (post : Int32 → Dt → Prop) (tS : Nat → Nat) (nS : Nat → Nat) (rS : Nat → Nat → Nat) (wS : Dt) (x0 : Nat) (x1 : Int32) : Prop := wp_X13_begins (fun wS1 => wp_X13_noScar (fun r2 wS3 => (r2 = 0 → vp_in x1 (nS (rS (rS x0 1) 9)) ∧ (wp_X12_shear (fun r10 => ¬ (1 + (r10 / 20)) = 0 ∧ (post (((wS3 (rS (rS (rS x0 1) 9) x1.toNatClampNeg) 2) - (wS3 (rS (rS (rS x0 1) 9) x1.toNatClampNeg) 1)) / (1 + (r10 / 20))) wS3)) tS nS rS wS3 (rS x0 1) (wS3 (rS (rS (rS x0 1) 9) x1.toNatClampNeg) 0))) ∧ (¬ r2 = 0 → post (-1) wS3)) tS nS rS wS1 x0 x1) tS nS rS wS x0
set_option maxHeartbeats 4000000 in
set_option maxRecDepth 100000 in
theorem c_X13_scarTurns (l : Launch) (D : va_G) (tc : Nat → ClassId) (h0 : Nat) (sa : Nat → Nat) (x0 : Nat) (x1 : Int32) {A : Nat → Prop} (H0 : Heap) {tS nS : Nat → Nat} {rS : Nat → Nat → Nat} {wS : Dt} (hB : SB D tc (sa 3) A tS nS rS wS H0) (hkx0 : tS x0 = 7) (hA0 : ∀ q, A q → h0 ≤ q) {post : Int32 → Dt → Prop} (hw : wp_X13_scarTurns post tS nS rS wS x0 x1) : MB l yX13_scarTurns cX13_scarTurns 3 (Option.some FieldType.int) rm_X13_scarTurns A [.ref x0, .int x1] D tc h0 sa H0 (fun u : Int32 × Dt => post u.1 u.2) (fun (u : Int32 × Dt) (H1 : Heap) => SB D tc (sa 3) A tS nS rS u.2 H1) (fun u : Int32 × Dt => some (.int u.1)) := by
  refine MB.of RX13 [(0, .ref x0), (1, .int x1)] (by decide +kernel) rfl (Nat.le_of_ble_eq_true rfl) rfl ?_
  intro p e s m below meth c ls X hr hin hT hH hS hl
  subst hH
  have hx := X.1
  have hb := X.2.1
  have hown := X.2.2.2.1
  have hU := X.2.2.2.2.1.1
  unfold wp_X13_scarTurns at hw
  refine lv_aload_n hx hb dX13_scarTurns_0 rfl (lv_at hl 0 rfl) ?_
  refine g_after (st0 := [.ref x0]) (rest := []) (g_V X m_X13_61 (c_X13_begins l D tc h0 sa x0 _ hB hkx0 hA0 hw) (recv1 X.2.2.2.2.1 rfl (hB.at (k := 7) hkx0 rfl)) hT hS hA0 dX13_scarTurns_1 hl.1 rfl rfl ⟨Nat.le_of_ble_eq_true rfl, Nat.le_of_ble_eq_true rfl⟩ (Nat.le_of_ble_eq_true rfl) ⟨Nat.le_of_ble_eq_true rfl, Nat.le_of_ble_eq_true rfl⟩) hS (fun _ h => h) (fun u => []) (fun _ => rfl) (fun u H locs hw hP9 hz9 hk9 hS => ?_)
  obtain ⟨wS1, rfl⟩ : ∃ z, z = u := ⟨_, rfl⟩
  try dsimp only at hw hP9
  have hB := hP9
  refine lv_aload_n hx hb dX13_scarTurns_4 rfl (lv_at hl 0 rfl) ?_
  refine lv_iload_n hx hb dX13_scarTurns_5 rfl (lv_at hl 1 rfl) ?_
  refine g_after (st0 := [.int x1, .ref x0]) (rest := []) (g_V X m_X13_204 (c_X13_noScar l D tc h0 sa x0 x1 _ hB hkx0 hA0 hw) (recv1 X.2.2.2.2.1 rfl (hB.at (k := 7) hkx0 rfl)) hT hS hA0 dX13_scarTurns_6 hl.1 rfl rfl ⟨Nat.le_of_ble_eq_true rfl, Nat.le_of_ble_eq_true rfl⟩ (Nat.le_of_ble_eq_true rfl) ⟨Nat.le_of_ble_eq_true rfl, Nat.le_of_ble_eq_true rfl⟩) hS (fun _ h => h) (fun u => .int u.1 :: []) (fun _ => rfl) (fun u H locs hw hP9 hz9 hk9 hS => ?_)
  obtain ⟨r2, wS3⟩ := u
  try dsimp only at hw hP9
  have hB := hP9
  refine lv_if_eq (tgt := 14) hx hb dX13_scarTurns_9 (by decide) (fun c4 => ?_) (fun c4 => ?_)
  · have hw := hw.1 c4
    refine lv_aload_n hx hb dX13_scarTurns_14 rfl (lv_at hl 0 rfl) ?_
    refine g_get X dX13_scarTurns_15 f_X13_34 (hB.one (k := 7) hkx0 rfl) 0 (v := .ref (rS x0 1)) rfl rfl ?_
    have k5 : tS (rS x0 1) = 4 := (hB.wtk hkx0).1
    refine g_getN X dX13_scarTurns_18 f_X13_201 (hB.one (k := 4) k5 rfl) 0 (v := .ref (rS (rS x0 1) 9)) rfl rfl ?_
    have k6 : tS (rS (rS x0 1) 9) = 9 := (hB.wtk k5).2.2.2.2.2.1
    refine lv_iload_n hx hb dX13_scarTurns_21 rfl (lv_at hl 1 rfl) ?_
    obtain ⟨fs9, hat9⟩ := hB.lat (isL_of k6)
    obtain ⟨o7, hw⟩ := hw
    refine g_after5 (st0 := [.int x1, .ref (rS (rS x0 1) 9)]) (rest := []) (g_F X mf_X13_163 (c_get l D tc h0 sa _ (rS (rS x0 1) 9) hB (isL_of k6) o7) rfl hat9 hT hS hA0 dX13_scarTurns_22 hl.1 rfl rfl ⟨Nat.le_of_ble_eq_true rfl, Nat.le_of_ble_eq_true rfl⟩ (Nat.le_of_ble_eq_true rfl) ⟨Nat.le_of_ble_eq_true rfl, Nat.le_of_ble_eq_true rfl⟩) hS (fun _ h => h.elim) (fun u => .ref (rS (rS (rS x0 1) 9) x1.toNatClampNeg) :: []) (fun _ => rfl) (fun u H9 locs hu hP9 hz9 hk9 hS => ?_)
    have e9 : H9 = _ := hP9
    rw [e9] at hS ⊢
    have k8 : tS (rS (rS (rS x0 1) 9) x1.toNatClampNeg) = 23 := hB.elt k6 (lt10 o7)
    refine x_casta X w_1636 (hB.at (k := 23) k8 rfl) dX13_scarTurns_27 ?_
    refine lv_astore_n (lv' := [(2, .ref (rS (rS (rS x0 1) 9) x1.toNatClampNeg)), (0, .ref x0), (1, .int x1)]) hx hb dX13_scarTurns_30 rfl hl (by decide) rfl (fun ls hl => ?_)
    refine lv_aload_n hx hb dX13_scarTurns_31 rfl (lv_at hl 0 rfl) ?_
    refine lv_iconst (v := 2) hx hb dX13_scarTurns_32 (by decide) ?_
    refine g_iald X dX13_scarTurns_33 (hB.one (k := 23) k8 rfl) 0 rfl (by unfold vp_in; decide) (k := 2) (by decide) ?_
    refine lv_aload_n hx hb dX13_scarTurns_34 rfl (lv_at hl 0 rfl) ?_
    refine lv_iconst (v := 1) hx hb dX13_scarTurns_35 (by decide) ?_
    refine g_iald X dX13_scarTurns_36 (hB.one (k := 23) k8 rfl) 0 rfl (by unfold vp_in; decide) (k := 1) (by decide) ?_
    refine lv_isub hx hb dX13_scarTurns_37 ?_
    refine lv_iconst (v := 1) hx hb dX13_scarTurns_38 (by decide) ?_
    refine lv_aload_n hx hb dX13_scarTurns_39 rfl (lv_at hl 1 rfl) ?_
    refine g_get X dX13_scarTurns_40 f_X13_34 (hB.one (k := 7) hkx0 rfl) 0 (v := .ref (rS x0 1)) rfl rfl ?_
    have k9 : tS (rS x0 1) = 4 := (hB.wtk hkx0).1
    refine lv_aload_n hx hb dX13_scarTurns_43 rfl (lv_at hl 0 rfl) ?_
    refine lv_iconst (v := 0) hx hb dX13_scarTurns_44 (by decide) ?_
    refine g_iald X dX13_scarTurns_45 (hB.one (k := 23) k8 rfl) 0 rfl (by unfold vp_in; decide) (k := 0) (by decide) ?_
    refine g_after (st0 := [.int (wS3 (rS (rS (rS x0 1) 9) x1.toNatClampNeg) 0), .ref (rS x0 1), .int 1, .int ((wS3 (rS (rS (rS x0 1) 9) x1.toNatClampNeg) 2) - (wS3 (rS (rS (rS x0 1) 9) x1.toNatClampNeg) 1))]) (rest := [.int 1, .int ((wS3 (rS (rS (rS x0 1) 9) x1.toNatClampNeg) 2) - (wS3 (rS (rS (rS x0 1) 9) x1.toNatClampNeg) 1))]) (g_V X m_X13_116 (c_X12_shear l D tc h0 sa (rS x0 1) (wS3 (rS (rS (rS x0 1) 9) x1.toNatClampNeg) 0) _ hB k9 hw) (recv1 X.2.2.2.2.1 rfl (hB.at (k := 4) k9 rfl)) hT hS hA0 dX13_scarTurns_46 hl.1 rfl rfl ⟨Nat.le_of_ble_eq_true rfl, Nat.le_of_ble_eq_true rfl⟩ (Nat.le_of_ble_eq_true rfl) ⟨Nat.le_of_ble_eq_true rfl, Nat.le_of_ble_eq_true rfl⟩) hS (fun _ h => h.elim) (fun u => .int u :: [.int 1, .int ((wS3 (rS (rS (rS x0 1) 9) x1.toNatClampNeg) 2) - (wS3 (rS (rS (rS x0 1) 9) x1.toNatClampNeg) 1))]) (fun _ => rfl) (fun u H9 locs hw hP9 hz9 hk9 hS => ?_)
    obtain ⟨r10, rfl⟩ : ∃ z, z = u := ⟨_, rfl⟩
    try dsimp only at hw hP9
    have e9 : H9 = _ := hP9
    rw [e9] at hS ⊢
    refine lv_bipush (v := 20) hx hb dX13_scarTurns_49 (by decide) ?_
    refine lv_idiv hx hb dX13_scarTurns_51 (by decide) ?_
    refine lv_iadd hx hb dX13_scarTurns_52 ?_
    obtain ⟨o11, hw⟩ := hw
    refine lv_idiv hx hb dX13_scarTurns_53 o11 ?_
    exact e_i X hr dX13_scarTurns_54 hS ((((wS3 (rS (rS (rS x0 1) 9) x1.toNatClampNeg) 2) - (wS3 (rS (rS (rS x0 1) 9) x1.toNatClampNeg) 1)) / (1 + (r10 / 20))), wS3) rfl hw hB ⟨Nat.le_of_ble_eq_true rfl, Nat.le_of_ble_eq_true rfl⟩
  · have hw := hw.2 c4
    refine lv_iconst (v := (-1)) hx hb dX13_scarTurns_12 (by decide) ?_
    exact e_i X hr dX13_scarTurns_13 hS ((-1), wS3) rfl hw hB ⟨Nat.le_of_ble_eq_true rfl, Nat.le_of_ble_eq_true rfl⟩
abbrev rm_X13_happenings : Room := { frames := 1, cells := 0, slots := 0, locals := 20 }
def wp_X13_happenings (post : Int32 → Dt → Prop) (tS : Nat → Nat) (nS : Nat → Nat) (rS : Nat → Nat → Nat) (wS : Dt) (x0 : Nat) : Prop := wp_X13_begins (fun wS1 => post (nI (nS (rS (rS x0 1) 10))) wS1) tS nS rS wS x0
set_option maxHeartbeats 4000000 in
set_option maxRecDepth 100000 in
theorem c_X13_happenings (l : Launch) (D : va_G) (tc : Nat → ClassId) (h0 : Nat) (sa : Nat → Nat) (x0 : Nat) {A : Nat → Prop} (H0 : Heap) {tS nS : Nat → Nat} {rS : Nat → Nat → Nat} {wS : Dt} (hB : SB D tc (sa 3) A tS nS rS wS H0) (hkx0 : tS x0 = 7) (hA0 : ∀ q, A q → h0 ≤ q) {post : Int32 → Dt → Prop} (hw : wp_X13_happenings post tS nS rS wS x0) : MB l yX13_happenings cX13_happenings 1 (Option.some FieldType.int) rm_X13_happenings A [.ref x0] D tc h0 sa H0 (fun u : Int32 × Dt => post u.1 u.2) (fun (u : Int32 × Dt) (H1 : Heap) => SB D tc (sa 3) A tS nS rS u.2 H1) (fun u : Int32 × Dt => some (.int u.1)) := by
  refine MB.of RX13 [(0, .ref x0)] (by decide +kernel) rfl (Nat.le_of_ble_eq_true rfl) rfl ?_
  intro p e s m below meth c ls X hr hin hT hH hS hl
  subst hH
  have hx := X.1
  have hb := X.2.1
  have hown := X.2.2.2.1
  have hU := X.2.2.2.2.1.1
  unfold wp_X13_happenings at hw
  refine lv_aload_n hx hb dX13_happenings_0 rfl (lv_at hl 0 rfl) ?_
  refine g_after (st0 := [.ref x0]) (rest := []) (g_V X m_X13_61 (c_X13_begins l D tc h0 sa x0 _ hB hkx0 hA0 hw) (recv1 X.2.2.2.2.1 rfl (hB.at (k := 7) hkx0 rfl)) hT hS hA0 dX13_happenings_1 hl.1 rfl rfl ⟨Nat.le_of_ble_eq_true rfl, Nat.le_of_ble_eq_true rfl⟩ (Nat.le_of_ble_eq_true rfl) ⟨Nat.le_of_ble_eq_true rfl, Nat.le_of_ble_eq_true rfl⟩) hS (fun _ h => h) (fun u => []) (fun _ => rfl) (fun u H locs hw hP9 hz9 hk9 hS => ?_)
  obtain ⟨wS1, rfl⟩ : ∃ z, z = u := ⟨_, rfl⟩
  try dsimp only at hw hP9
  have hB := hP9
  refine lv_aload_n hx hb dX13_happenings_4 rfl (lv_at hl 0 rfl) ?_
  refine g_get X dX13_happenings_5 f_X13_34 (hB.one (k := 7) hkx0 rfl) 0 (v := .ref (rS x0 1)) rfl rfl ?_
  have k2 : tS (rS x0 1) = 4 := (hB.wtk hkx0).1
  refine g_getN X dX13_happenings_8 f_X13_314 (hB.one (k := 4) k2 rfl) 0 (v := .ref (rS (rS x0 1) 10)) rfl rfl ?_
  have k3 : tS (rS (rS x0 1) 10) = 15 := (hB.wtk k2).2.2.2.2.2.2
  obtain ⟨fs9, hat9⟩ := hB.lat (isL_of k3)
  refine g_after5 (st0 := [.ref (rS (rS x0 1) 10)]) (rest := []) (g_F X mf_X13_7 (c_size l D tc h0 sa _ (rS (rS x0 1) 10) hB (isL_of k3)) rfl hat9 hT hS hA0 dX13_happenings_11 hl.1 rfl rfl ⟨Nat.le_of_ble_eq_true rfl, Nat.le_of_ble_eq_true rfl⟩ (Nat.le_of_ble_eq_true rfl) ⟨Nat.le_of_ble_eq_true rfl, Nat.le_of_ble_eq_true rfl⟩) hS (fun _ h => h.elim) (fun u => .int (nI (nS (rS (rS x0 1) 10))) :: []) (fun _ => rfl) (fun u H9 locs hu hP9 hz9 hk9 hS => ?_)
  have e9 : H9 = _ := hP9
  rw [e9] at hS ⊢
  exact e_i X hr dX13_happenings_16 hS ((nI (nS (rS (rS x0 1) 10))), wS1) rfl hw hB ⟨Nat.le_of_ble_eq_true rfl, Nat.le_of_ble_eq_true rfl⟩
abbrev rm_X13_happening : Room := { frames := 3, cells := 0, slots := 0, locals := 64 }
def wp_X13_happening_55 (post : Int32 → Dt → Prop) (tS : Nat → Nat) (nS : Nat → Nat) (rS : Nat → Nat → Nat)  (z0 : Int32) (wS : Dt) : Prop := narrow .char (.int z0) = .int z0 ∧ (post z0 wS)
set_option maxHeartbeats 4000000 in
set_option maxRecDepth 100000 in
theorem t_X13_happening_55 : ∀ {p : Program} {l : Launch} {e : Env} {s : State} {m : MethodId} {args : Array Value} {below : List Frame} {meth : Method} {c : Code} {D : va_G} {tc : Nat → ClassId} {h0 : Nat} {sa : Nat → Nat} {A : Nat → Prop} {post : Int32 → Dt → Prop} {tS : Nat → Nat} {nS : Nat → Nat} {rS : Nat → Nat → Nat}  (X : Cx p c s m meth cX13_happening 2 RX13 D tc) (hr : meth.sig.returnType = (Option.some FieldType.char)) (hT : ST h0 sa s s.heap) (hA0 : ∀ q, A q → h0 ≤ q) , ∀ (z0 : Int32) (wS : Dt) (H : Heap) (locs : List Loc) (ls : Array Slot), wp_X13_happening_55 post tS nS rS  z0 wS → SB D tc (sa 3) A tS nS rS wS H → va_S A s.heap H locs → lv_has ls 2 [] → W p l e rm_X13_happening s m args below meth c H locs 0 0 (MQ below (QB (fun u : Int32 × Dt => post u.1 u.2) (fun (u : Int32 × Dt) (H1 : Heap) => SB D tc (sa 3) A tS nS rS u.2 H1) (fun u : Int32 × Dt => some (.int u.1)) A) args s rm_X13_happening.cells rm_X13_happening.slots A) (F0 m 55 ls [.int z0]) := by
  intro p l e s m args below meth c D tc h0 sa A post tS nS rS  X hr hT hA0   z0 wS H locs ls hw hB  hS hl
  have hx := X.1
  have hb := X.2.1
  have hown := X.2.2.2.1
  have hU := X.2.2.2.2.1.1
  unfold wp_X13_happening_55 at hw
  obtain ⟨o13, hw⟩ := hw
  exact e_z X hr o13 dX13_happening_55 hS (z0, wS) rfl hw hB ⟨Nat.le_of_ble_eq_true rfl, Nat.le_of_ble_eq_true rfl⟩
def wp_X13_happening_24 (post : Int32 → Dt → Prop) (tS : Nat → Nat) (nS : Nat → Nat) (rS : Nat → Nat → Nat)  (y0 : Nat) (y1 : Int32) (z0 : Int32) (z1 : Nat) (wS : Dt) : Prop := wp_X13_fails (fun r6 wS7 => (r6 = 0 → vp_in y1 (nS (rS (rS y0 1) 10)) ∧ (wp_X13_happening_55 post tS nS rS  (((wS7 (rS (rS (rS y0 1) 10) y1.toNatClampNeg) 0).toUInt32 % 65536).toInt32) wS7)) ∧ (¬ r6 = 0 → wp_X13_happening_55 post tS nS rS  32 wS7)) tS nS rS wS z1 z0 1
set_option maxHeartbeats 4000000 in
set_option maxRecDepth 100000 in
theorem t_X13_happening_24 : ∀ {p : Program} {l : Launch} {e : Env} {s : State} {m : MethodId} {args : Array Value} {below : List Frame} {meth : Method} {c : Code} {D : va_G} {tc : Nat → ClassId} {h0 : Nat} {sa : Nat → Nat} {A : Nat → Prop} {post : Int32 → Dt → Prop} {tS : Nat → Nat} {nS : Nat → Nat} {rS : Nat → Nat → Nat}  (X : Cx p c s m meth cX13_happening 2 RX13 D tc) (hr : meth.sig.returnType = (Option.some FieldType.char)) (hT : ST h0 sa s s.heap) (hA0 : ∀ q, A q → h0 ≤ q) , ∀ (y0 : Nat) (y1 : Int32) (z0 : Int32) (z1 : Nat) (wS : Dt) (H : Heap) (locs : List Loc) (ls : Array Slot), wp_X13_happening_24 post tS nS rS  y0 y1 z0 z1 wS → SB D tc (sa 3) A tS nS rS wS H → (tS y0 = 7) → (tS z1 = 7) → va_S A s.heap H locs → lv_has ls 2 [(0, .ref y0), (1, .int y1)] → W p l e rm_X13_happening s m args below meth c H locs 0 0 (MQ below (QB (fun u : Int32 × Dt => post u.1 u.2) (fun (u : Int32 × Dt) (H1 : Heap) => SB D tc (sa 3) A tS nS rS u.2 H1) (fun u : Int32 × Dt => some (.int u.1)) A) args s rm_X13_happening.cells rm_X13_happening.slots A) (F0 m 24 ls [.int z0, .ref z1]) := by
  intro p l e s m args below meth c D tc h0 sa A post tS nS rS  X hr hT hA0   y0 y1 z0 z1 wS H locs ls hw hB hky0 hkz1 hS hl
  have hx := X.1
  have hb := X.2.1
  have hown := X.2.2.2.1
  have hU := X.2.2.2.2.1.1
  unfold wp_X13_happening_24 at hw
  refine lv_iconst (v := 1) hx hb dX13_happening_24 (by decide) ?_
  refine g_after (st0 := [.int 1, .int z0, .ref z1]) (rest := []) (g_V X m_X13_57 (c_X13_fails l D tc h0 sa z1 z0 1 _ hB hkz1 hA0 hw) (recv1 X.2.2.2.2.1 rfl (hB.at (k := 7) hkz1 rfl)) hT hS hA0 dX13_happening_25 hl.1 rfl rfl ⟨Nat.le_of_ble_eq_true rfl, Nat.le_of_ble_eq_true rfl⟩ (Nat.le_of_ble_eq_true rfl) ⟨Nat.le_of_ble_eq_true rfl, Nat.le_of_ble_eq_true rfl⟩) hS (fun _ h => h) (fun u => .int u.1 :: []) (fun _ => rfl) (fun u H locs hw hP9 hz9 hk9 hS => ?_)
  obtain ⟨r6, wS7⟩ := u
  try dsimp only at hw hP9
  have hB := hP9
  refine lv_if_eq (tgt := 36) hx hb dX13_happening_28 (by decide) (fun c8 => ?_) (fun c8 => ?_)
  · have hw := hw.1 c8
    refine lv_aload_n hx hb dX13_happening_36 rfl (lv_at hl 0 rfl) ?_
    refine g_get X dX13_happening_37 f_X13_34 (hB.one (k := 7) hky0 rfl) 0 (v := .ref (rS y0 1)) rfl rfl ?_
    have k9 : tS (rS y0 1) = 4 := (hB.wtk hky0).1
    refine g_getN X dX13_happening_40 f_X13_314 (hB.one (k := 4) k9 rfl) 0 (v := .ref (rS (rS y0 1) 10)) rfl rfl ?_
    have k10 : tS (rS (rS y0 1) 10) = 15 := (hB.wtk k9).2.2.2.2.2.2
    refine lv_iload_n hx hb dX13_happening_43 rfl (lv_at hl 1 rfl) ?_
    obtain ⟨fs9, hat9⟩ := hB.lat (isL_of k10)
    obtain ⟨o11, hw⟩ := hw
    refine g_after5 (st0 := [.int y1, .ref (rS (rS y0 1) 10)]) (rest := []) (g_F X mf_X13_163 (c_get l D tc h0 sa _ (rS (rS y0 1) 10) hB (isL_of k10) o11) rfl hat9 hT hS hA0 dX13_happening_44 hl.1 rfl rfl ⟨Nat.le_of_ble_eq_true rfl, Nat.le_of_ble_eq_true rfl⟩ (Nat.le_of_ble_eq_true rfl) ⟨Nat.le_of_ble_eq_true rfl, Nat.le_of_ble_eq_true rfl⟩) hS (fun _ h => h.elim) (fun u => .ref (rS (rS (rS y0 1) 10) y1.toNatClampNeg) :: []) (fun _ => rfl) (fun u H9 locs hu hP9 hz9 hk9 hS => ?_)
    have e9 : H9 = _ := hP9
    rw [e9] at hS ⊢
    have k12 : tS (rS (rS (rS y0 1) 10) y1.toNatClampNeg) = 24 := hB.elt k10 (lt10 o11)
    refine x_casta X w_1636 (hB.at (k := 24) k12 rfl) dX13_happening_49 ?_
    refine lv_iconst (v := 0) hx hb dX13_happening_52 (by decide) ?_
    refine g_iald X dX13_happening_53 (hB.one (k := 24) k12 rfl) 0 rfl (by unfold vp_in; decide) (k := 0) (by decide) ?_
    refine lv_i2c (v := ((wS7 (rS (rS (rS y0 1) 10) y1.toNatClampNeg) 0).toUInt32 % 65536).toInt32) hx hb dX13_happening_54 rfl ?_
    exact t_X13_happening_55 X hr hT hA0  (((wS7 (rS (rS (rS y0 1) 10) y1.toNatClampNeg) 0).toUInt32 % 65536).toInt32) wS7 _ _ _ hw hB  hS (lv_sub hl [] rfl)
  · have hw := hw.2 c8
    refine lv_bipush (v := 32) hx hb dX13_happening_31 (by decide) ?_
    refine lv_goto (tgt := 55) hx hb dX13_happening_33 (by decide) ?_
    exact t_X13_happening_55 X hr hT hA0  32 wS7 _ _ _ hw hB  hS (lv_sub hl [] rfl)
def wp_X13_happening (post : Int32 → Dt → Prop) (tS : Nat → Nat) (nS : Nat → Nat) (rS : Nat → Nat → Nat) (wS : Dt) (x0 : Nat) (x1 : Int32) : Prop := wp_X13_begins (fun wS1 => wp_X13_isOf (fun r4 => (¬ r4 = 0 → wp_X13_happening_24 post tS nS rS  x0 x1 0 x0 wS1) ∧ (r4 = 0 → wp_X13_happening_24 post tS nS rS  x0 x1 1 x0 wS1)) tS nS rS wS1 (rS (rS x0 1) 10) x1) tS nS rS wS x0
set_option maxHeartbeats 4000000 in
set_option maxRecDepth 100000 in
theorem c_X13_happening (l : Launch) (D : va_G) (tc : Nat → ClassId) (h0 : Nat) (sa : Nat → Nat) (x0 : Nat) (x1 : Int32) {A : Nat → Prop} (H0 : Heap) {tS nS : Nat → Nat} {rS : Nat → Nat → Nat} {wS : Dt} (hB : SB D tc (sa 3) A tS nS rS wS H0) (hkx0 : tS x0 = 7) (hA0 : ∀ q, A q → h0 ≤ q) {post : Int32 → Dt → Prop} (hw : wp_X13_happening post tS nS rS wS x0 x1) : MB l yX13_happening cX13_happening 2 (Option.some FieldType.char) rm_X13_happening A [.ref x0, .int x1] D tc h0 sa H0 (fun u : Int32 × Dt => post u.1 u.2) (fun (u : Int32 × Dt) (H1 : Heap) => SB D tc (sa 3) A tS nS rS u.2 H1) (fun u : Int32 × Dt => some (.int u.1)) := by
  refine MB.of RX13 [(0, .ref x0), (1, .int x1)] (by decide +kernel) rfl (Nat.le_of_ble_eq_true rfl) rfl ?_
  intro p e s m below meth c ls X hr hin hT hH hS hl
  subst hH
  have hx := X.1
  have hb := X.2.1
  have hown := X.2.2.2.1
  have hU := X.2.2.2.2.1.1
  unfold wp_X13_happening at hw
  refine lv_aload_n hx hb dX13_happening_0 rfl (lv_at hl 0 rfl) ?_
  refine g_after (st0 := [.ref x0]) (rest := []) (g_V X m_X13_61 (c_X13_begins l D tc h0 sa x0 _ hB hkx0 hA0 hw) (recv1 X.2.2.2.2.1 rfl (hB.at (k := 7) hkx0 rfl)) hT hS hA0 dX13_happening_1 hl.1 rfl rfl ⟨Nat.le_of_ble_eq_true rfl, Nat.le_of_ble_eq_true rfl⟩ (Nat.le_of_ble_eq_true rfl) ⟨Nat.le_of_ble_eq_true rfl, Nat.le_of_ble_eq_true rfl⟩) hS (fun _ h => h) (fun u => []) (fun _ => rfl) (fun u H locs hw hP9 hz9 hk9 hS => ?_)
  obtain ⟨wS1, rfl⟩ : ∃ z, z = u := ⟨_, rfl⟩
  try dsimp only at hw hP9
  have hB := hP9
  refine lv_aload_n hx hb dX13_happening_4 rfl (lv_at hl 0 rfl) ?_
  refine lv_aload_n hx hb dX13_happening_5 rfl (lv_at hl 0 rfl) ?_
  refine g_get X dX13_happening_6 f_X13_34 (hB.one (k := 7) hkx0 rfl) 0 (v := .ref (rS x0 1)) rfl rfl ?_
  have k2 : tS (rS x0 1) = 4 := (hB.wtk hkx0).1
  refine g_getN X dX13_happening_9 f_X13_314 (hB.one (k := 4) k2 rfl) 0 (v := .ref (rS (rS x0 1) 10)) rfl rfl ?_
  have k3 : tS (rS (rS x0 1) 10) = 15 := (hB.wtk k2).2.2.2.2.2.2
  refine lv_iload_n hx hb dX13_happening_12 rfl (lv_at hl 1 rfl) ?_
  refine g_after (st0 := [.int x1, .ref (rS (rS x0 1) 10), .ref x0]) (rest := [.ref x0]) (g_S X m_X13_159 (c_X13_isOf l D tc h0 sa (rS (rS x0 1) 10) x1 _ hB (isL_of k3) hw) hT hS hA0 dX13_happening_13 hl.1 rfl rfl ⟨Nat.le_of_ble_eq_true rfl, Nat.le_of_ble_eq_true rfl⟩ (Nat.le_of_ble_eq_true rfl) ⟨Nat.le_of_ble_eq_true rfl, Nat.le_of_ble_eq_true rfl⟩) hS (fun _ h => h.elim) (fun u => .int u :: [.ref x0]) (fun _ => rfl) (fun u H9 locs hw hP9 hz9 hk9 hS => ?_)
  obtain ⟨r4, rfl⟩ : ∃ z, z = u := ⟨_, rfl⟩
  try dsimp only at hw hP9
  have e9 : H9 = _ := hP9
  rw [e9] at hS ⊢
  refine lv_if_ne (tgt := 23) hx hb dX13_happening_16 (by decide) (fun c5 => ?_) (fun c5 => ?_)
  · have hw := hw.1 c5
    refine lv_iconst (v := 0) hx hb dX13_happening_23 (by decide) ?_
    exact t_X13_happening_24 X hr hT hA0  x0 x1 0 x0 wS1 _ _ _ hw hB hkx0 hkx0 hS (lv_sub hl [0, 1] rfl)
  · have hw := hw.2 c5
    refine lv_iconst (v := 1) hx hb dX13_happening_19 (by decide) ?_
    refine lv_goto (tgt := 24) hx hb dX13_happening_20 (by decide) ?_
    exact t_X13_happening_24 X hr hT hA0  x0 x1 1 x0 wS1 _ _ _ hw hB hkx0 hkx0 hS (lv_sub hl [0, 1] rfl)
abbrev rm_X13_happenedTo : Room := { frames := 3, cells := 0, slots := 0, locals := 64 }
def wp_X13_happenedTo_53 (post : Int32 → Dt → Prop) (tS : Nat → Nat) (nS : Nat → Nat) (rS : Nat → Nat → Nat)  (z0 : Int32) (wS : Dt) : Prop := post z0 wS
set_option maxHeartbeats 4000000 in
set_option maxRecDepth 100000 in
theorem t_X13_happenedTo_53 : ∀ {p : Program} {l : Launch} {e : Env} {s : State} {m : MethodId} {args : Array Value} {below : List Frame} {meth : Method} {c : Code} {D : va_G} {tc : Nat → ClassId} {h0 : Nat} {sa : Nat → Nat} {A : Nat → Prop} {post : Int32 → Dt → Prop} {tS : Nat → Nat} {nS : Nat → Nat} {rS : Nat → Nat → Nat}  (X : Cx p c s m meth cX13_happenedTo 2 RX13 D tc) (hr : meth.sig.returnType = (Option.some FieldType.int)) (hT : ST h0 sa s s.heap) (hA0 : ∀ q, A q → h0 ≤ q) , ∀ (z0 : Int32) (wS : Dt) (H : Heap) (locs : List Loc) (ls : Array Slot), wp_X13_happenedTo_53 post tS nS rS  z0 wS → SB D tc (sa 3) A tS nS rS wS H → va_S A s.heap H locs → lv_has ls 2 [] → W p l e rm_X13_happenedTo s m args below meth c H locs 0 0 (MQ below (QB (fun u : Int32 × Dt => post u.1 u.2) (fun (u : Int32 × Dt) (H1 : Heap) => SB D tc (sa 3) A tS nS rS u.2 H1) (fun u : Int32 × Dt => some (.int u.1)) A) args s rm_X13_happenedTo.cells rm_X13_happenedTo.slots A) (F0 m 53 ls [.int z0]) := by
  intro p l e s m args below meth c D tc h0 sa A post tS nS rS  X hr hT hA0   z0 wS H locs ls hw hB  hS hl
  have hx := X.1
  have hb := X.2.1
  have hown := X.2.2.2.1
  have hU := X.2.2.2.2.1.1
  unfold wp_X13_happenedTo_53 at hw
  exact e_i X hr dX13_happenedTo_53 hS (z0, wS) rfl hw hB ⟨Nat.le_of_ble_eq_true rfl, Nat.le_of_ble_eq_true rfl⟩
def wp_X13_happenedTo_24 (post : Int32 → Dt → Prop) (tS : Nat → Nat) (nS : Nat → Nat) (rS : Nat → Nat → Nat)  (y0 : Nat) (y1 : Int32) (z0 : Int32) (z1 : Nat) (wS : Dt) : Prop := wp_X13_fails (fun r6 wS7 => (r6 = 0 → vp_in y1 (nS (rS (rS y0 1) 10)) ∧ (wp_X13_happenedTo_53 post tS nS rS  (wS7 (rS (rS (rS y0 1) 10) y1.toNatClampNeg) 1) wS7)) ∧ (¬ r6 = 0 → wp_X13_happenedTo_53 post tS nS rS  (-1) wS7)) tS nS rS wS z1 z0 1
set_option maxHeartbeats 4000000 in
set_option maxRecDepth 100000 in
theorem t_X13_happenedTo_24 : ∀ {p : Program} {l : Launch} {e : Env} {s : State} {m : MethodId} {args : Array Value} {below : List Frame} {meth : Method} {c : Code} {D : va_G} {tc : Nat → ClassId} {h0 : Nat} {sa : Nat → Nat} {A : Nat → Prop} {post : Int32 → Dt → Prop} {tS : Nat → Nat} {nS : Nat → Nat} {rS : Nat → Nat → Nat}  (X : Cx p c s m meth cX13_happenedTo 2 RX13 D tc) (hr : meth.sig.returnType = (Option.some FieldType.int)) (hT : ST h0 sa s s.heap) (hA0 : ∀ q, A q → h0 ≤ q) , ∀ (y0 : Nat) (y1 : Int32) (z0 : Int32) (z1 : Nat) (wS : Dt) (H : Heap) (locs : List Loc) (ls : Array Slot), wp_X13_happenedTo_24 post tS nS rS  y0 y1 z0 z1 wS → SB D tc (sa 3) A tS nS rS wS H → (tS y0 = 7) → (tS z1 = 7) → va_S A s.heap H locs → lv_has ls 2 [(0, .ref y0), (1, .int y1)] → W p l e rm_X13_happenedTo s m args below meth c H locs 0 0 (MQ below (QB (fun u : Int32 × Dt => post u.1 u.2) (fun (u : Int32 × Dt) (H1 : Heap) => SB D tc (sa 3) A tS nS rS u.2 H1) (fun u : Int32 × Dt => some (.int u.1)) A) args s rm_X13_happenedTo.cells rm_X13_happenedTo.slots A) (F0 m 24 ls [.int z0, .ref z1]) := by
  intro p l e s m args below meth c D tc h0 sa A post tS nS rS  X hr hT hA0   y0 y1 z0 z1 wS H locs ls hw hB hky0 hkz1 hS hl
  have hx := X.1
  have hb := X.2.1
  have hown := X.2.2.2.1
  have hU := X.2.2.2.2.1.1
  unfold wp_X13_happenedTo_24 at hw
  refine lv_iconst (v := 1) hx hb dX13_happenedTo_24 (by decide) ?_
  refine g_after (st0 := [.int 1, .int z0, .ref z1]) (rest := []) (g_V X m_X13_57 (c_X13_fails l D tc h0 sa z1 z0 1 _ hB hkz1 hA0 hw) (recv1 X.2.2.2.2.1 rfl (hB.at (k := 7) hkz1 rfl)) hT hS hA0 dX13_happenedTo_25 hl.1 rfl rfl ⟨Nat.le_of_ble_eq_true rfl, Nat.le_of_ble_eq_true rfl⟩ (Nat.le_of_ble_eq_true rfl) ⟨Nat.le_of_ble_eq_true rfl, Nat.le_of_ble_eq_true rfl⟩) hS (fun _ h => h) (fun u => .int u.1 :: []) (fun _ => rfl) (fun u H locs hw hP9 hz9 hk9 hS => ?_)
  obtain ⟨r6, wS7⟩ := u
  try dsimp only at hw hP9
  have hB := hP9
  refine lv_if_eq (tgt := 35) hx hb dX13_happenedTo_28 (by decide) (fun c8 => ?_) (fun c8 => ?_)
  · have hw := hw.1 c8
    refine lv_aload_n hx hb dX13_happenedTo_35 rfl (lv_at hl 0 rfl) ?_
    refine g_get X dX13_happenedTo_36 f_X13_34 (hB.one (k := 7) hky0 rfl) 0 (v := .ref (rS y0 1)) rfl rfl ?_
    have k9 : tS (rS y0 1) = 4 := (hB.wtk hky0).1
    refine g_getN X dX13_happenedTo_39 f_X13_314 (hB.one (k := 4) k9 rfl) 0 (v := .ref (rS (rS y0 1) 10)) rfl rfl ?_
    have k10 : tS (rS (rS y0 1) 10) = 15 := (hB.wtk k9).2.2.2.2.2.2
    refine lv_iload_n hx hb dX13_happenedTo_42 rfl (lv_at hl 1 rfl) ?_
    obtain ⟨fs9, hat9⟩ := hB.lat (isL_of k10)
    obtain ⟨o11, hw⟩ := hw
    refine g_after5 (st0 := [.int y1, .ref (rS (rS y0 1) 10)]) (rest := []) (g_F X mf_X13_163 (c_get l D tc h0 sa _ (rS (rS y0 1) 10) hB (isL_of k10) o11) rfl hat9 hT hS hA0 dX13_happenedTo_43 hl.1 rfl rfl ⟨Nat.le_of_ble_eq_true rfl, Nat.le_of_ble_eq_true rfl⟩ (Nat.le_of_ble_eq_true rfl) ⟨Nat.le_of_ble_eq_true rfl, Nat.le_of_ble_eq_true rfl⟩) hS (fun _ h => h.elim) (fun u => .ref (rS (rS (rS y0 1) 10) y1.toNatClampNeg) :: []) (fun _ => rfl) (fun u H9 locs hu hP9 hz9 hk9 hS => ?_)
    have e9 : H9 = _ := hP9
    rw [e9] at hS ⊢
    have k12 : tS (rS (rS (rS y0 1) 10) y1.toNatClampNeg) = 24 := hB.elt k10 (lt10 o11)
    refine x_casta X w_1636 (hB.at (k := 24) k12 rfl) dX13_happenedTo_48 ?_
    refine lv_iconst (v := 1) hx hb dX13_happenedTo_51 (by decide) ?_
    refine g_iald X dX13_happenedTo_52 (hB.one (k := 24) k12 rfl) 0 rfl (by unfold vp_in; decide) (k := 1) (by decide) ?_
    exact t_X13_happenedTo_53 X hr hT hA0  (wS7 (rS (rS (rS y0 1) 10) y1.toNatClampNeg) 1) wS7 _ _ _ hw hB  hS (lv_sub hl [] rfl)
  · have hw := hw.2 c8
    refine lv_iconst (v := (-1)) hx hb dX13_happenedTo_31 (by decide) ?_
    refine lv_goto (tgt := 53) hx hb dX13_happenedTo_32 (by decide) ?_
    exact t_X13_happenedTo_53 X hr hT hA0  (-1) wS7 _ _ _ hw hB  hS (lv_sub hl [] rfl)
def wp_X13_happenedTo (post : Int32 → Dt → Prop) (tS : Nat → Nat) (nS : Nat → Nat) (rS : Nat → Nat → Nat) (wS : Dt) (x0 : Nat) (x1 : Int32) : Prop := wp_X13_begins (fun wS1 => wp_X13_isOf (fun r4 => (¬ r4 = 0 → wp_X13_happenedTo_24 post tS nS rS  x0 x1 0 x0 wS1) ∧ (r4 = 0 → wp_X13_happenedTo_24 post tS nS rS  x0 x1 1 x0 wS1)) tS nS rS wS1 (rS (rS x0 1) 10) x1) tS nS rS wS x0
set_option maxHeartbeats 4000000 in
set_option maxRecDepth 100000 in
theorem c_X13_happenedTo (l : Launch) (D : va_G) (tc : Nat → ClassId) (h0 : Nat) (sa : Nat → Nat) (x0 : Nat) (x1 : Int32) {A : Nat → Prop} (H0 : Heap) {tS nS : Nat → Nat} {rS : Nat → Nat → Nat} {wS : Dt} (hB : SB D tc (sa 3) A tS nS rS wS H0) (hkx0 : tS x0 = 7) (hA0 : ∀ q, A q → h0 ≤ q) {post : Int32 → Dt → Prop} (hw : wp_X13_happenedTo post tS nS rS wS x0 x1) : MB l yX13_happenedTo cX13_happenedTo 2 (Option.some FieldType.int) rm_X13_happenedTo A [.ref x0, .int x1] D tc h0 sa H0 (fun u : Int32 × Dt => post u.1 u.2) (fun (u : Int32 × Dt) (H1 : Heap) => SB D tc (sa 3) A tS nS rS u.2 H1) (fun u : Int32 × Dt => some (.int u.1)) := by
  refine MB.of RX13 [(0, .ref x0), (1, .int x1)] (by decide +kernel) rfl (Nat.le_of_ble_eq_true rfl) rfl ?_
  intro p e s m below meth c ls X hr hin hT hH hS hl
  subst hH
  have hx := X.1
  have hb := X.2.1
  have hown := X.2.2.2.1
  have hU := X.2.2.2.2.1.1
  unfold wp_X13_happenedTo at hw
  refine lv_aload_n hx hb dX13_happenedTo_0 rfl (lv_at hl 0 rfl) ?_
  refine g_after (st0 := [.ref x0]) (rest := []) (g_V X m_X13_61 (c_X13_begins l D tc h0 sa x0 _ hB hkx0 hA0 hw) (recv1 X.2.2.2.2.1 rfl (hB.at (k := 7) hkx0 rfl)) hT hS hA0 dX13_happenedTo_1 hl.1 rfl rfl ⟨Nat.le_of_ble_eq_true rfl, Nat.le_of_ble_eq_true rfl⟩ (Nat.le_of_ble_eq_true rfl) ⟨Nat.le_of_ble_eq_true rfl, Nat.le_of_ble_eq_true rfl⟩) hS (fun _ h => h) (fun u => []) (fun _ => rfl) (fun u H locs hw hP9 hz9 hk9 hS => ?_)
  obtain ⟨wS1, rfl⟩ : ∃ z, z = u := ⟨_, rfl⟩
  try dsimp only at hw hP9
  have hB := hP9
  refine lv_aload_n hx hb dX13_happenedTo_4 rfl (lv_at hl 0 rfl) ?_
  refine lv_aload_n hx hb dX13_happenedTo_5 rfl (lv_at hl 0 rfl) ?_
  refine g_get X dX13_happenedTo_6 f_X13_34 (hB.one (k := 7) hkx0 rfl) 0 (v := .ref (rS x0 1)) rfl rfl ?_
  have k2 : tS (rS x0 1) = 4 := (hB.wtk hkx0).1
  refine g_getN X dX13_happenedTo_9 f_X13_314 (hB.one (k := 4) k2 rfl) 0 (v := .ref (rS (rS x0 1) 10)) rfl rfl ?_
  have k3 : tS (rS (rS x0 1) 10) = 15 := (hB.wtk k2).2.2.2.2.2.2
  refine lv_iload_n hx hb dX13_happenedTo_12 rfl (lv_at hl 1 rfl) ?_
  refine g_after (st0 := [.int x1, .ref (rS (rS x0 1) 10), .ref x0]) (rest := [.ref x0]) (g_S X m_X13_159 (c_X13_isOf l D tc h0 sa (rS (rS x0 1) 10) x1 _ hB (isL_of k3) hw) hT hS hA0 dX13_happenedTo_13 hl.1 rfl rfl ⟨Nat.le_of_ble_eq_true rfl, Nat.le_of_ble_eq_true rfl⟩ (Nat.le_of_ble_eq_true rfl) ⟨Nat.le_of_ble_eq_true rfl, Nat.le_of_ble_eq_true rfl⟩) hS (fun _ h => h.elim) (fun u => .int u :: [.ref x0]) (fun _ => rfl) (fun u H9 locs hw hP9 hz9 hk9 hS => ?_)
  obtain ⟨r4, rfl⟩ : ∃ z, z = u := ⟨_, rfl⟩
  try dsimp only at hw hP9
  have e9 : H9 = _ := hP9
  rw [e9] at hS ⊢
  refine lv_if_ne (tgt := 23) hx hb dX13_happenedTo_16 (by decide) (fun c5 => ?_) (fun c5 => ?_)
  · have hw := hw.1 c5
    refine lv_iconst (v := 0) hx hb dX13_happenedTo_23 (by decide) ?_
    exact t_X13_happenedTo_24 X hr hT hA0  x0 x1 0 x0 wS1 _ _ _ hw hB hkx0 hkx0 hS (lv_sub hl [0, 1] rfl)
  · have hw := hw.2 c5
    refine lv_iconst (v := 1) hx hb dX13_happenedTo_19 (by decide) ?_
    refine lv_goto (tgt := 24) hx hb dX13_happenedTo_20 (by decide) ?_
    exact t_X13_happenedTo_24 X hr hT hA0  x0 x1 1 x0 wS1 _ _ _ hw hB hkx0 hkx0 hS (lv_sub hl [0, 1] rfl)
abbrev rm_X13_meanWind : Room := { frames := 6, cells := 0, slots := 0, locals := 126 }
def wp_X13_meanWind_8 (post : UInt64 → Dt → Prop) (tS : Nat → Nat) (nS : Nat → Nat) (rS : Nat → Nat → Nat)  : Nat → (Nat) → (Int32) → (Int32) → (Dt) → Prop
  | 0, _, _, _, _ => False
  | n9 + 1, y0, y1, y2, wS => (12 ≤ y2 → vf_n64 (FP.ddiv (FP.i2d y1) 4622945017495814144) ∧ (post (FP.ddiv (FP.i2d y1) 4622945017495814144) wS)) ∧ (¬ 12 ≤ y2 → wp_X12_wind (fun r5 => wp_X13_meanWind_8 post tS nS rS  n9 y0 (y1 + r5) (y2 + 1) wS) tS nS rS wS (rS y0 1) y2)
set_option maxHeartbeats 4000000 in
set_option maxRecDepth 100000 in
theorem t_X13_meanWind_8 : ∀ {p : Program} {l : Launch} {e : Env} {s : State} {m : MethodId} {args : Array Value} {below : List Frame} {meth : Method} {c : Code} {D : va_G} {tc : Nat → ClassId} {h0 : Nat} {sa : Nat → Nat} {A : Nat → Prop} {post : UInt64 → Dt → Prop} {tS : Nat → Nat} {nS : Nat → Nat} {rS : Nat → Nat → Nat}  (X : Cx p c s m meth cX13_meanWind 3 RX13 D tc) (hr : meth.sig.returnType = (Option.some FieldType.double)) (hT : ST h0 sa s s.heap) (hA0 : ∀ q, A q → h0 ≤ q)  (n9 : Nat), ∀ (y0 : Nat) (y1 : Int32) (y2 : Int32) (wS : Dt) (H : Heap) (locs : List Loc) (ls : Array Slot), wp_X13_meanWind_8 post tS nS rS  n9 y0 y1 y2 wS → SB D tc (sa 3) A tS nS rS wS H → (tS y0 = 7) → va_S A s.heap H locs → lv_has ls 3 [(0, .ref y0), (1, .int y1), (2, .int y2)] → W p l e rm_X13_meanWind s m args below meth c H locs 0 0 (MQ below (QB (fun u : UInt64 × Dt => post u.1 u.2) (fun (u : UInt64 × Dt) (H1 : Heap) => SB D tc (sa 3) A tS nS rS u.2 H1) (fun u : UInt64 × Dt => some (.double u.1)) A) args s rm_X13_meanWind.cells rm_X13_meanWind.slots A) (F0 m 8 ls []) := by
  intro p l e s m args below meth c D tc h0 sa A post tS nS rS  X hr hT hA0  n9
  have hx := X.1
  have hb := X.2.1
  have hown := X.2.2.2.1
  have hU := X.2.2.2.2.1.1
  induction n9 with
  | zero =>
    intro  y0 y1 y2 wS H locs ls hw
    exact hw.elim
  | succ n9 ih =>
    intro  y0 y1 y2 wS H locs ls hw hB hky0 hS hl
    unfold wp_X13_meanWind_8 at hw
    refine lv_iload_n hx hb dX13_meanWind_8 rfl (lv_at hl 2 rfl) ?_
    refine lv_bipush (v := 12) hx hb dX13_meanWind_9 (by decide) ?_
    refine lv_icmp_ge (tgt := 31) hx hb dX13_meanWind_11 (by decide) (fun c2 => ?_) (fun c2 => ?_)
    · have hw := hw.1 c2
      refine lv_iload_n hx hb dX13_meanWind_31 rfl (lv_at hl 1 rfl) ?_
      refine lv_i2d hx hb dX13_meanWind_32 ?_
      refine lv_ldc2d (v := 4622945017495814144) hx hb hown (hU.use w_2033) dX13_meanWind_33 ?_
      obtain ⟨o3, hw⟩ := hw
      refine lv_ddiv hx hb dX13_meanWind_36 o3 ?_
      exact e_d X hr dX13_meanWind_37 hS ((FP.ddiv (FP.i2d y1) 4622945017495814144), wS) rfl hw hB ⟨Nat.le_of_ble_eq_true rfl, Nat.le_of_ble_eq_true rfl⟩
    · have hw := hw.2 c2
      refine lv_iload_n hx hb dX13_meanWind_14 rfl (lv_at hl 1 rfl) ?_
      refine lv_aload_n hx hb dX13_meanWind_15 rfl (lv_at hl 0 rfl) ?_
      refine g_get X dX13_meanWind_16 f_X13_34 (hB.one (k := 7) hky0 rfl) 0 (v := .ref (rS y0 1)) rfl rfl ?_
      have k4 : tS (rS y0 1) = 4 := (hB.wtk hky0).1
      refine lv_iload_n hx hb dX13_meanWind_19 rfl (lv_at hl 2 rfl) ?_
      refine g_after (st0 := [.int y2, .ref (rS y0 1), .int y1]) (rest := [.int y1]) (g_V X m_X13_112 (c_X12_wind l D tc h0 sa (rS y0 1) y2 _ hB k4 hw) (recv1 X.2.2.2.2.1 rfl (hB.at (k := 4) k4 rfl)) hT hS hA0 dX13_meanWind_20 hl.1 rfl rfl ⟨Nat.le_of_ble_eq_true rfl, Nat.le_of_ble_eq_true rfl⟩ (Nat.le_of_ble_eq_true rfl) ⟨Nat.le_of_ble_eq_true rfl, Nat.le_of_ble_eq_true rfl⟩) hS (fun _ h => h.elim) (fun u => .int u :: [.int y1]) (fun _ => rfl) (fun u H9 locs hw hP9 hz9 hk9 hS => ?_)
      obtain ⟨r5, rfl⟩ : ∃ z, z = u := ⟨_, rfl⟩
      try dsimp only at hw hP9
      have e9 : H9 = _ := hP9
      rw [e9] at hS ⊢
      refine lv_iadd hx hb dX13_meanWind_23 ?_
      refine lv_istore_n (lv' := [(1, .int (y1 + r5)), (0, .ref y0), (2, .int y2)]) hx hb dX13_meanWind_24 rfl hl (by decide) rfl (fun ls hl => ?_)
      refine lv_iinc (lv' := [(2, .int (y2 + 1)), (1, .int (y1 + r5)), (0, .ref y0)]) hx hb dX13_meanWind_25 hl (k := 2) rfl (by rfl) (by decide) rfl (fun ls hl => ?_)
      refine lv_goto (tgt := 8) hx hb dX13_meanWind_28 (by decide) ?_
      exact ih y0 (y1 + r5) (y2 + 1) wS _ _ _ hw hB hky0 hS (lv_sub hl [2, 1, 0] rfl)
def wp_X13_meanWind (post : UInt64 → Dt → Prop) (tS : Nat → Nat) (nS : Nat → Nat) (rS : Nat → Nat → Nat) (wS : Dt) (x0 : Nat) : Prop := wp_X13_begins (fun wS1 => ∃ k9 : Nat, wp_X13_meanWind_8 post tS nS rS  k9 x0 0 0 wS1) tS nS rS wS x0
set_option maxHeartbeats 4000000 in
set_option maxRecDepth 100000 in
theorem c_X13_meanWind (l : Launch) (D : va_G) (tc : Nat → ClassId) (h0 : Nat) (sa : Nat → Nat) (x0 : Nat) {A : Nat → Prop} (H0 : Heap) {tS nS : Nat → Nat} {rS : Nat → Nat → Nat} {wS : Dt} (hB : SB D tc (sa 3) A tS nS rS wS H0) (hkx0 : tS x0 = 7) (hA0 : ∀ q, A q → h0 ≤ q) {post : UInt64 → Dt → Prop} (hw : wp_X13_meanWind post tS nS rS wS x0) : MB l yX13_meanWind cX13_meanWind 3 (Option.some FieldType.double) rm_X13_meanWind A [.ref x0] D tc h0 sa H0 (fun u : UInt64 × Dt => post u.1 u.2) (fun (u : UInt64 × Dt) (H1 : Heap) => SB D tc (sa 3) A tS nS rS u.2 H1) (fun u : UInt64 × Dt => some (.double u.1)) := by
  refine MB.of RX13 [(0, .ref x0)] (by decide +kernel) rfl (Nat.le_of_ble_eq_true rfl) rfl ?_
  intro p e s m below meth c ls X hr hin hT hH hS hl
  subst hH
  have hx := X.1
  have hb := X.2.1
  have hown := X.2.2.2.1
  have hU := X.2.2.2.2.1.1
  unfold wp_X13_meanWind at hw
  refine lv_aload_n hx hb dX13_meanWind_0 rfl (lv_at hl 0 rfl) ?_
  refine g_after (st0 := [.ref x0]) (rest := []) (g_V X m_X13_61 (c_X13_begins l D tc h0 sa x0 _ hB hkx0 hA0 hw) (recv1 X.2.2.2.2.1 rfl (hB.at (k := 7) hkx0 rfl)) hT hS hA0 dX13_meanWind_1 hl.1 rfl rfl ⟨Nat.le_of_ble_eq_true rfl, Nat.le_of_ble_eq_true rfl⟩ (Nat.le_of_ble_eq_true rfl) ⟨Nat.le_of_ble_eq_true rfl, Nat.le_of_ble_eq_true rfl⟩) hS (fun _ h => h) (fun u => []) (fun _ => rfl) (fun u H locs hw hP9 hz9 hk9 hS => ?_)
  obtain ⟨wS1, rfl⟩ : ∃ z, z = u := ⟨_, rfl⟩
  try dsimp only at hw hP9
  have hB := hP9
  refine lv_iconst (v := 0) hx hb dX13_meanWind_4 (by decide) ?_
  refine lv_istore_n (lv' := [(1, .int 0), (0, .ref x0)]) hx hb dX13_meanWind_5 rfl hl (by decide) rfl (fun ls hl => ?_)
  refine lv_iconst (v := 0) hx hb dX13_meanWind_6 (by decide) ?_
  refine lv_istore_n (lv' := [(2, .int 0), (1, .int 0), (0, .ref x0)]) hx hb dX13_meanWind_7 rfl hl (by decide) rfl (fun ls hl => ?_)
  obtain ⟨k9, hw⟩ := hw
  exact t_X13_meanWind_8 X hr hT hA0  k9 x0 0 0 wS1 _ _ _ hw hB hkx0 hS (lv_sub hl [2, 1, 0] rfl)
abbrev rm_X13_isSound : Room := { frames := 1, cells := 0, slots := 0, locals := 20 }
def wp_X13_isSound (post : Int32 → Dt → Prop) (tS : Nat → Nat) (nS : Nat → Nat) (rS : Nat → Nat → Nat) (wS : Dt) (x0 : Nat) : Prop := wp_X13_begins (fun wS1 => post 1 wS1) tS nS rS wS x0
set_option maxHeartbeats 4000000 in
set_option maxRecDepth 100000 in
theorem c_X13_isSound (l : Launch) (D : va_G) (tc : Nat → ClassId) (h0 : Nat) (sa : Nat → Nat) (x0 : Nat) {A : Nat → Prop} (H0 : Heap) {tS nS : Nat → Nat} {rS : Nat → Nat → Nat} {wS : Dt} (hB : SB D tc (sa 3) A tS nS rS wS H0) (hkx0 : tS x0 = 7) (hA0 : ∀ q, A q → h0 ≤ q) {post : Int32 → Dt → Prop} (hw : wp_X13_isSound post tS nS rS wS x0) : MB l yX13_isSound cX13_isSound 1 (Option.some FieldType.boolean) rm_X13_isSound A [.ref x0] D tc h0 sa H0 (fun u : Int32 × Dt => post u.1 u.2) (fun (u : Int32 × Dt) (H1 : Heap) => SB D tc (sa 3) A tS nS rS u.2 H1) (fun u : Int32 × Dt => some (.int u.1)) := by
  refine MB.of RX13 [(0, .ref x0)] (by decide +kernel) rfl (Nat.le_of_ble_eq_true rfl) rfl ?_
  intro p e s m below meth c ls X hr hin hT hH hS hl
  subst hH
  have hx := X.1
  have hb := X.2.1
  have hown := X.2.2.2.1
  have hU := X.2.2.2.2.1.1
  unfold wp_X13_isSound at hw
  refine lv_aload_n hx hb dX13_isSound_0 rfl (lv_at hl 0 rfl) ?_
  refine g_after (st0 := [.ref x0]) (rest := []) (g_V X m_X13_61 (c_X13_begins l D tc h0 sa x0 _ hB hkx0 hA0 hw) (recv1 X.2.2.2.2.1 rfl (hB.at (k := 7) hkx0 rfl)) hT hS hA0 dX13_isSound_1 hl.1 rfl rfl ⟨Nat.le_of_ble_eq_true rfl, Nat.le_of_ble_eq_true rfl⟩ (Nat.le_of_ble_eq_true rfl) ⟨Nat.le_of_ble_eq_true rfl, Nat.le_of_ble_eq_true rfl⟩) hS (fun _ h => h) (fun u => []) (fun _ => rfl) (fun u H locs hw hP9 hz9 hk9 hS => ?_)
  obtain ⟨wS1, rfl⟩ : ∃ z, z = u := ⟨_, rfl⟩
  try dsimp only at hw hP9
  have hB := hP9
  refine lv_iconst (v := 1) hx hb dX13_isSound_4 (by decide) ?_
  exact e_z X hr rfl dX13_isSound_5 hS (1, wS1) rfl hw hB ⟨Nat.le_of_ble_eq_true rfl, Nat.le_of_ble_eq_true rfl⟩
abbrev rm_X13_addStorm (b0 s0 : Nat) : Room := { frames := 8, cells := b0, slots := s0, locals := 215 }
def wp_X13_addStorm_76 (post : Int32 → (Nat → Nat) → (Nat → Nat) → (Nat → Nat → Nat) → Dt → Prop)   (tS : Nat → Nat) (nS : Nat → Nat) (rS : Nat → Nat → Nat) (wS : Dt) (bS : Nat) (sS : Nat) : Prop := post (-1) tS nS rS wS
set_option maxHeartbeats 4000000 in
set_option maxRecDepth 100000 in
theorem t_X13_addStorm_76 : ∀ {p : Program} {l : Launch} {e : Env} {s : State} {m : MethodId} {args : Array Value} {below : List Frame} {meth : Method} {c : Code} {D : va_G} {tc : Nat → ClassId} {h0 : Nat} {sa : Nat → Nat} {Am : Nat → Prop} {b0 s0 : Nat} {t0 : Nat → Nat} {post : Int32 → (Nat → Nat) → (Nat → Nat) → (Nat → Nat → Nat) → Dt → Prop}   (X : Cx p c s m meth cX13_addStorm 4 RX13 D tc) (hr : meth.sig.returnType = (Option.some FieldType.int)) (hT : ST h0 sa s s.heap) (hA0 : ∀ q, Am q → h0 ≤ q) (hAm9 : ∀ x, s.heap.size ≤ x → Am x) , ∀ (tS : Nat → Nat) (nS : Nat → Nat) (rS : Nat → Nat → Nat) (wS : Dt) (bS : Nat) (sS : Nat) (H : Heap) (locs : List Loc) (ls : Array Slot) (AS : Nat → Prop) (cells slots : Nat), wp_X13_addStorm_76 post   tS nS rS wS bS sS → SB D tc (sa 3) AS tS nS rS wS H → (∀ x, AS x → Am x) → (∀ x, H.size ≤ x → AS x) → Ext t0 tS → cells + bS ≤ b0 → slots + sS ≤ s0 → va_S Am s.heap H locs → lv_has ls 4 [] → W p l e (rm_X13_addStorm b0 s0) s m args below meth c H locs cells slots (MQ below (QB (fun u : Int32 × (Nat → Nat) × (Nat → Nat) × (Nat → Nat → Nat) × Dt => post u.1 u.2.1 u.2.2.1 u.2.2.2.1 u.2.2.2.2) (fun (u : Int32 × (Nat → Nat) × (Nat → Nat) × (Nat → Nat → Nat) × Dt) (H1 : Heap) => SB D tc (sa 3) Am u.2.1 u.2.2.1 u.2.2.2.1 u.2.2.2.2 H1 ∧ Ext t0 u.2.1) (fun u : Int32 × (Nat → Nat) × (Nat → Nat) × (Nat → Nat → Nat) × Dt => some (.int u.1)) Am) args s (rm_X13_addStorm b0 s0).cells (rm_X13_addStorm b0 s0).slots Am) (F0 m 76 ls []) := by
  intro p l e s m args below meth c D tc h0 sa Am b0 s0 t0 post   X hr hT hA0 hAm9   tS nS rS wS bS sS H locs ls AS cells slots hw hB  hAS hAF hX hc hs hS hl
  have hx := X.1
  have hb := X.2.1
  have hown := X.2.2.2.1
  have hU := X.2.2.2.2.1.1
  unfold wp_X13_addStorm_76 at hw
  refine lv_iconst (v := (-1)) hx hb dX13_addStorm_76 (by decide) ?_
  exact e_i X hr dX13_addStorm_77 hS ((-1), tS, nS, rS, wS) rfl hw ⟨hB.regs hAS, hX⟩ ⟨show cells ≤ b0 by omega, show slots ≤ s0 by omega⟩
def wp_X13_addStorm_69 (post : Int32 → (Nat → Nat) → (Nat → Nat) → (Nat → Nat → Nat) → Dt → Prop)   (y0 : Nat) (y1 : Int32) (y2 : Int32) (y3 : Int32) (z0 : Int32) (z1 : Nat) (tS : Nat → Nat) (nS : Nat → Nat) (rS : Nat → Nat → Nat) (wS : Dt) (bS : Nat) (sS : Nat) : Prop := wp_X13_fails (fun r13 wS14 => (r13 = 0 → ∃ b16 s17 : Nat, b16 ≤ bS ∧ s17 ≤ sS ∧ (wp_X13_adds (fun r20 tS21 nS22 rS23 wS24 => post r20 tS21 nS22 rS23 wS24) tS nS rS wS14 b16 s17 y0 y1 y2 y3)) ∧ (¬ r13 = 0 → wp_X13_addStorm_76 post   tS nS rS wS14 bS sS)) tS nS rS wS z1 z0 3
set_option maxHeartbeats 4000000 in
set_option maxRecDepth 100000 in
theorem t_X13_addStorm_69 : ∀ {p : Program} {l : Launch} {e : Env} {s : State} {m : MethodId} {args : Array Value} {below : List Frame} {meth : Method} {c : Code} {D : va_G} {tc : Nat → ClassId} {h0 : Nat} {sa : Nat → Nat} {Am : Nat → Prop} {b0 s0 : Nat} {t0 : Nat → Nat} {post : Int32 → (Nat → Nat) → (Nat → Nat) → (Nat → Nat → Nat) → Dt → Prop}   (X : Cx p c s m meth cX13_addStorm 4 RX13 D tc) (hr : meth.sig.returnType = (Option.some FieldType.int)) (hT : ST h0 sa s s.heap) (hA0 : ∀ q, Am q → h0 ≤ q) (hAm9 : ∀ x, s.heap.size ≤ x → Am x) , ∀ (y0 : Nat) (y1 : Int32) (y2 : Int32) (y3 : Int32) (z0 : Int32) (z1 : Nat) (tS : Nat → Nat) (nS : Nat → Nat) (rS : Nat → Nat → Nat) (wS : Dt) (bS : Nat) (sS : Nat) (H : Heap) (locs : List Loc) (ls : Array Slot) (AS : Nat → Prop) (cells slots : Nat), wp_X13_addStorm_69 post   y0 y1 y2 y3 z0 z1 tS nS rS wS bS sS → SB D tc (sa 3) AS tS nS rS wS H → (tS y0 = 7) → (tS z1 = 7) → (∀ x, AS x → Am x) → (∀ x, H.size ≤ x → AS x) → Ext t0 tS → cells + bS ≤ b0 → slots + sS ≤ s0 → va_S Am s.heap H locs → lv_has ls 4 [(0, .ref y0), (1, .int y1), (2, .int y2), (3, .int y3)] → W p l e (rm_X13_addStorm b0 s0) s m args below meth c H locs cells slots (MQ below (QB (fun u : Int32 × (Nat → Nat) × (Nat → Nat) × (Nat → Nat → Nat) × Dt => post u.1 u.2.1 u.2.2.1 u.2.2.2.1 u.2.2.2.2) (fun (u : Int32 × (Nat → Nat) × (Nat → Nat) × (Nat → Nat → Nat) × Dt) (H1 : Heap) => SB D tc (sa 3) Am u.2.1 u.2.2.1 u.2.2.2.1 u.2.2.2.2 H1 ∧ Ext t0 u.2.1) (fun u : Int32 × (Nat → Nat) × (Nat → Nat) × (Nat → Nat → Nat) × Dt => some (.int u.1)) Am) args s (rm_X13_addStorm b0 s0).cells (rm_X13_addStorm b0 s0).slots Am) (F0 m 69 ls [.int z0, .ref z1]) := by
  intro p l e s m args below meth c D tc h0 sa Am b0 s0 t0 post   X hr hT hA0 hAm9   y0 y1 y2 y3 z0 z1 tS nS rS wS bS sS H locs ls AS cells slots hw hB hky0 hkz1 hAS hAF hX hc hs hS hl
  have hx := X.1
  have hb := X.2.1
  have hown := X.2.2.2.1
  have hU := X.2.2.2.2.1.1
  unfold wp_X13_addStorm_69 at hw
  refine lv_iconst (v := 3) hx hb dX13_addStorm_69 (by decide) ?_
  refine g_after (st0 := [.int 3, .int z0, .ref z1]) (rest := []) (g_V X m_X13_57 (c_X13_fails l D tc h0 sa z1 z0 3 _ hB hkz1 (fun x h => hA0 x (hAS x h)) hw) (recv1 X.2.2.2.2.1 rfl (hB.at (k := 7) hkz1 rfl)) hT hS hA0 dX13_addStorm_70 hl.1 rfl rfl ⟨Nat.le_of_ble_eq_true rfl, Nat.le_of_ble_eq_true rfl⟩ (Nat.le_of_ble_eq_true rfl) ⟨show cells + 0 ≤ b0 by omega, show slots + 0 ≤ s0 by omega⟩) hS hAS (fun u => .int u.1 :: []) (fun _ => rfl) (fun u H locs hw hP9 hz9 hk9 hS => ?_)
  obtain ⟨r13, wS14⟩ := u
  try dsimp only at hw hP9
  have hB := hP9
  have hAF : ∀ x, H.size ≤ x → AS x := fun x h => hAF x (by omega)
  refine W.widen (k := cells) (n := slots) (Nat.le_refl _) (Nat.le_refl _) ?_
  refine lv_if_eq (tgt := 78) hx hb dX13_addStorm_73 (by decide) (fun c15 => ?_) (fun c15 => ?_)
  · have hw := hw.1 c15
    refine lv_aload_n hx hb dX13_addStorm_78 rfl (lv_at hl 0 rfl) ?_
    refine lv_iload_n hx hb dX13_addStorm_79 rfl (lv_at hl 1 rfl) ?_
    refine lv_iload_n hx hb dX13_addStorm_80 rfl (lv_at hl 2 rfl) ?_
    refine lv_iload_n hx hb dX13_addStorm_81 rfl (lv_at hl 3 rfl) ?_
    obtain ⟨b16, s17, o18, o19, hw⟩ := hw
    refine g_after (st0 := [.int y3, .int y2, .int y1, .ref y0]) (rest := []) (g_V X m_X13_155 (c_X13_adds l D tc h0 sa y0 y1 y2 y3 b16 s17 _ hB hky0 (fun x h => hA0 x (hAS x h)) hAF hw) (recv1 X.2.2.2.2.1 rfl (hB.at (k := 7) hky0 rfl)) hT hS hA0 dX13_addStorm_82 hl.1 rfl rfl ⟨Nat.le_of_ble_eq_true rfl, Nat.le_of_ble_eq_true rfl⟩ (Nat.le_of_ble_eq_true rfl) ⟨show cells + b16 ≤ b0 by omega, show slots + s17 ≤ s0 by omega⟩) hS hAS (fun u => .int u.1 :: []) (fun _ => rfl) (fun u H locs hw hP9 hz9 hk9 hS => ?_)
    obtain ⟨r20, tS21, nS22, rS23, wS24⟩ := u
    try dsimp only at hw hP9
    obtain ⟨hB, hX9⟩ := hP9
    have hAF : ∀ x, H.size ≤ x → AS x := fun x h => hAF x (by omega)
    have hX := hX.trans hX9
    refine W_bud (b := (bS - b16)) (s1 := (sS - s17)) (B := b0) (S := s0) (show (cells + b16) + (bS - b16) ≤ b0 by omega) (show (slots + s17) + (sS - s17) ≤ s0 by omega) (fun cells slots hc hs => ?_)
    have k25 : tS21 y0 = 7 := hX9.to hky0
    exact e_i X hr dX13_addStorm_85 hS (r20, tS21, nS22, rS23, wS24) rfl hw ⟨hB.regs hAS, hX⟩ ⟨show cells ≤ b0 by omega, show slots ≤ s0 by omega⟩
  · have hw := hw.2 c15
    exact t_X13_addStorm_76 X hr hT hA0 hAm9  tS nS rS wS14 bS sS _ _ _ _ _ _ hw hB  hAS hAF hX hc hs hS (lv_sub hl [] rfl)
def wp_X13_addStorm_39 (post : Int32 → (Nat → Nat) → (Nat → Nat) → (Nat → Nat → Nat) → Dt → Prop)   (y0 : Nat) (y1 : Int32) (y2 : Int32) (y3 : Int32) (z0 : Int32) (z1 : Nat) (tS : Nat → Nat) (nS : Nat → Nat) (rS : Nat → Nat → Nat) (wS : Dt) (bS : Nat) (sS : Nat) : Prop := wp_X13_fails (fun r7 wS8 => (¬ r7 = 0 → wp_X13_addStorm_76 post   tS nS rS wS8 bS sS) ∧ (r7 = 0 → (¬ (nI (nS (rS (rS y0 1) 8))) = 12 → wp_X13_addStorm_69 post   y0 y1 y2 y3 0 y0 tS nS rS wS8 bS sS) ∧ ((nI (nS (rS (rS y0 1) 8))) = 12 → wp_X13_addStorm_69 post   y0 y1 y2 y3 1 y0 tS nS rS wS8 bS sS))) tS nS rS wS z1 z0 2
set_option maxHeartbeats 4000000 in
set_option maxRecDepth 100000 in
theorem t_X13_addStorm_39 : ∀ {p : Program} {l : Launch} {e : Env} {s : State} {m : MethodId} {args : Array Value} {below : List Frame} {meth : Method} {c : Code} {D : va_G} {tc : Nat → ClassId} {h0 : Nat} {sa : Nat → Nat} {Am : Nat → Prop} {b0 s0 : Nat} {t0 : Nat → Nat} {post : Int32 → (Nat → Nat) → (Nat → Nat) → (Nat → Nat → Nat) → Dt → Prop}   (X : Cx p c s m meth cX13_addStorm 4 RX13 D tc) (hr : meth.sig.returnType = (Option.some FieldType.int)) (hT : ST h0 sa s s.heap) (hA0 : ∀ q, Am q → h0 ≤ q) (hAm9 : ∀ x, s.heap.size ≤ x → Am x) , ∀ (y0 : Nat) (y1 : Int32) (y2 : Int32) (y3 : Int32) (z0 : Int32) (z1 : Nat) (tS : Nat → Nat) (nS : Nat → Nat) (rS : Nat → Nat → Nat) (wS : Dt) (bS : Nat) (sS : Nat) (H : Heap) (locs : List Loc) (ls : Array Slot) (AS : Nat → Prop) (cells slots : Nat), wp_X13_addStorm_39 post   y0 y1 y2 y3 z0 z1 tS nS rS wS bS sS → SB D tc (sa 3) AS tS nS rS wS H → (tS y0 = 7) → (tS z1 = 7) → (∀ x, AS x → Am x) → (∀ x, H.size ≤ x → AS x) → Ext t0 tS → cells + bS ≤ b0 → slots + sS ≤ s0 → va_S Am s.heap H locs → lv_has ls 4 [(0, .ref y0), (1, .int y1), (2, .int y2), (3, .int y3)] → W p l e (rm_X13_addStorm b0 s0) s m args below meth c H locs cells slots (MQ below (QB (fun u : Int32 × (Nat → Nat) × (Nat → Nat) × (Nat → Nat → Nat) × Dt => post u.1 u.2.1 u.2.2.1 u.2.2.2.1 u.2.2.2.2) (fun (u : Int32 × (Nat → Nat) × (Nat → Nat) × (Nat → Nat → Nat) × Dt) (H1 : Heap) => SB D tc (sa 3) Am u.2.1 u.2.2.1 u.2.2.2.1 u.2.2.2.2 H1 ∧ Ext t0 u.2.1) (fun u : Int32 × (Nat → Nat) × (Nat → Nat) × (Nat → Nat → Nat) × Dt => some (.int u.1)) Am) args s (rm_X13_addStorm b0 s0).cells (rm_X13_addStorm b0 s0).slots Am) (F0 m 39 ls [.int z0, .ref z1]) := by
  intro p l e s m args below meth c D tc h0 sa Am b0 s0 t0 post   X hr hT hA0 hAm9   y0 y1 y2 y3 z0 z1 tS nS rS wS bS sS H locs ls AS cells slots hw hB hky0 hkz1 hAS hAF hX hc hs hS hl
  have hx := X.1
  have hb := X.2.1
  have hown := X.2.2.2.1
  have hU := X.2.2.2.2.1.1
  unfold wp_X13_addStorm_39 at hw
  refine lv_iconst (v := 2) hx hb dX13_addStorm_39 (by decide) ?_
  refine g_after (st0 := [.int 2, .int z0, .ref z1]) (rest := []) (g_V X m_X13_57 (c_X13_fails l D tc h0 sa z1 z0 2 _ hB hkz1 (fun x h => hA0 x (hAS x h)) hw) (recv1 X.2.2.2.2.1 rfl (hB.at (k := 7) hkz1 rfl)) hT hS hA0 dX13_addStorm_40 hl.1 rfl rfl ⟨Nat.le_of_ble_eq_true rfl, Nat.le_of_ble_eq_true rfl⟩ (Nat.le_of_ble_eq_true rfl) ⟨show cells + 0 ≤ b0 by omega, show slots + 0 ≤ s0 by omega⟩) hS hAS (fun u => .int u.1 :: []) (fun _ => rfl) (fun u H locs hw hP9 hz9 hk9 hS => ?_)
  obtain ⟨r7, wS8⟩ := u
  try dsimp only at hw hP9
  have hB := hP9
  have hAF : ∀ x, H.size ≤ x → AS x := fun x h => hAF x (by omega)
  refine W.widen (k := cells) (n := slots) (Nat.le_refl _) (Nat.le_refl _) ?_
  refine lv_if_ne (tgt := 76) hx hb dX13_addStorm_43 (by decide) (fun c9 => ?_) (fun c9 => ?_)
  · have hw := hw.1 c9
    exact t_X13_addStorm_76 X hr hT hA0 hAm9  tS nS rS wS8 bS sS _ _ _ _ _ _ hw hB  hAS hAF hX hc hs hS (lv_sub hl [] rfl)
  · have hw := hw.2 c9
    refine lv_aload_n hx hb dX13_addStorm_46 rfl (lv_at hl 0 rfl) ?_
    refine lv_aload_n hx hb dX13_addStorm_47 rfl (lv_at hl 0 rfl) ?_
    refine g_get X dX13_addStorm_48 f_X13_34 (hB.one (k := 7) hky0 rfl) 0 (v := .ref (rS y0 1)) rfl rfl ?_
    have k10 : tS (rS y0 1) = 4 := (hB.wtk hky0).1
    refine g_getN X dX13_addStorm_51 f_X13_139 (hB.one (k := 4) k10 rfl) 0 (v := .ref (rS (rS y0 1) 8)) rfl rfl ?_
    have k11 : tS (rS (rS y0 1) 8) = 8 := (hB.wtk k10).2.2.2.2.1
    obtain ⟨fs9, hat9⟩ := hB.lat (isL_of k11)
    refine g_after5 (st0 := [.ref (rS (rS y0 1) 8), .ref y0]) (rest := [.ref y0]) (g_F X mf_X13_7 (c_size l D tc h0 sa _ (rS (rS y0 1) 8) hB (isL_of k11)) rfl hat9 hT hS hA0 dX13_addStorm_54 hl.1 rfl rfl ⟨Nat.le_of_ble_eq_true rfl, Nat.le_of_ble_eq_true rfl⟩ (Nat.le_of_ble_eq_true rfl) ⟨show cells + 0 ≤ b0 by omega, show slots + 0 ≤ s0 by omega⟩) hS (fun _ h => h.elim) (fun u => .int (nI (nS (rS (rS y0 1) 8))) :: [.ref y0]) (fun _ => rfl) (fun u H9 locs hu hP9 hz9 hk9 hS => ?_)
    have e9 : H9 = _ := hP9
    rw [e9] at hS ⊢
    refine W.widen (k := cells) (n := slots) (Nat.le_refl _) (Nat.le_refl _) ?_
    refine lv_bipush (v := 12) hx hb dX13_addStorm_59 (by decide) ?_
    refine lv_icmp_ne (tgt := 68) hx hb dX13_addStorm_61 (by decide) (fun c12 => ?_) (fun c12 => ?_)
    · have hw := hw.1 c12
      refine lv_iconst (v := 0) hx hb dX13_addStorm_68 (by decide) ?_
      exact t_X13_addStorm_69 X hr hT hA0 hAm9  y0 y1 y2 y3 0 y0 tS nS rS wS8 bS sS _ _ _ _ _ _ hw hB hky0 hky0 hAS hAF hX hc hs hS (lv_sub hl [0, 1, 2, 3] rfl)
    · have hw := hw.2 c12
      refine lv_iconst (v := 1) hx hb dX13_addStorm_64 (by decide) ?_
      refine lv_goto (tgt := 69) hx hb dX13_addStorm_65 (by decide) ?_
      exact t_X13_addStorm_69 X hr hT hA0 hAm9  y0 y1 y2 y3 1 y0 tS nS rS wS8 bS sS _ _ _ _ _ _ hw hB hky0 hky0 hAS hAF hX hc hs hS (lv_sub hl [0, 1, 2, 3] rfl)
def wp_X13_addStorm_34 (post : Int32 → (Nat → Nat) → (Nat → Nat) → (Nat → Nat → Nat) → Dt → Prop)   (y0 : Nat) (y1 : Int32) (y2 : Int32) (y3 : Int32) (z0 : Nat) (tS : Nat → Nat) (nS : Nat → Nat) (rS : Nat → Nat → Nat) (wS : Dt) (bS : Nat) (sS : Nat) : Prop := wp_X13_addStorm_39 post   y0 y1 y2 y3 1 z0 tS nS rS wS bS sS
set_option maxHeartbeats 4000000 in
set_option maxRecDepth 100000 in
theorem t_X13_addStorm_34 : ∀ {p : Program} {l : Launch} {e : Env} {s : State} {m : MethodId} {args : Array Value} {below : List Frame} {meth : Method} {c : Code} {D : va_G} {tc : Nat → ClassId} {h0 : Nat} {sa : Nat → Nat} {Am : Nat → Prop} {b0 s0 : Nat} {t0 : Nat → Nat} {post : Int32 → (Nat → Nat) → (Nat → Nat) → (Nat → Nat → Nat) → Dt → Prop}   (X : Cx p c s m meth cX13_addStorm 4 RX13 D tc) (hr : meth.sig.returnType = (Option.some FieldType.int)) (hT : ST h0 sa s s.heap) (hA0 : ∀ q, Am q → h0 ≤ q) (hAm9 : ∀ x, s.heap.size ≤ x → Am x) , ∀ (y0 : Nat) (y1 : Int32) (y2 : Int32) (y3 : Int32) (z0 : Nat) (tS : Nat → Nat) (nS : Nat → Nat) (rS : Nat → Nat → Nat) (wS : Dt) (bS : Nat) (sS : Nat) (H : Heap) (locs : List Loc) (ls : Array Slot) (AS : Nat → Prop) (cells slots : Nat), wp_X13_addStorm_34 post   y0 y1 y2 y3 z0 tS nS rS wS bS sS → SB D tc (sa 3) AS tS nS rS wS H → (tS y0 = 7) → (tS z0 = 7) → (∀ x, AS x → Am x) → (∀ x, H.size ≤ x → AS x) → Ext t0 tS → cells + bS ≤ b0 → slots + sS ≤ s0 → va_S Am s.heap H locs → lv_has ls 4 [(0, .ref y0), (1, .int y1), (2, .int y2), (3, .int y3)] → W p l e (rm_X13_addStorm b0 s0) s m args below meth c H locs cells slots (MQ below (QB (fun u : Int32 × (Nat → Nat) × (Nat → Nat) × (Nat → Nat → Nat) × Dt => post u.1 u.2.1 u.2.2.1 u.2.2.2.1 u.2.2.2.2) (fun (u : Int32 × (Nat → Nat) × (Nat → Nat) × (Nat → Nat → Nat) × Dt) (H1 : Heap) => SB D tc (sa 3) Am u.2.1 u.2.2.1 u.2.2.2.1 u.2.2.2.2 H1 ∧ Ext t0 u.2.1) (fun u : Int32 × (Nat → Nat) × (Nat → Nat) × (Nat → Nat → Nat) × Dt => some (.int u.1)) Am) args s (rm_X13_addStorm b0 s0).cells (rm_X13_addStorm b0 s0).slots Am) (F0 m 34 ls [.ref z0]) := by
  intro p l e s m args below meth c D tc h0 sa Am b0 s0 t0 post   X hr hT hA0 hAm9   y0 y1 y2 y3 z0 tS nS rS wS bS sS H locs ls AS cells slots hw hB hky0 hkz0 hAS hAF hX hc hs hS hl
  have hx := X.1
  have hb := X.2.1
  have hown := X.2.2.2.1
  have hU := X.2.2.2.2.1.1
  unfold wp_X13_addStorm_34 at hw
  refine lv_iconst (v := 1) hx hb dX13_addStorm_34 (by decide) ?_
  refine lv_goto (tgt := 39) hx hb dX13_addStorm_35 (by decide) ?_
  exact t_X13_addStorm_39 X hr hT hA0 hAm9  y0 y1 y2 y3 1 z0 tS nS rS wS bS sS _ _ _ _ _ _ hw hB hky0 hkz0 hAS hAF hX hc hs hS (lv_sub hl [0, 1, 2, 3] rfl)
def wp_X13_addStorm (post : Int32 → (Nat → Nat) → (Nat → Nat) → (Nat → Nat → Nat) → Dt → Prop)  (tS : Nat → Nat) (nS : Nat → Nat) (rS : Nat → Nat → Nat) (wS : Dt) (bS : Nat) (sS : Nat) (x0 : Nat) (x1 : Int32) (x2 : Int32) (x3 : Int32) : Prop := wp_X13_begins (fun wS1 => wp_X13_noBelt (fun r2 wS3 => (¬ r2 = 0 → wp_X13_addStorm_76 post   tS nS rS wS3 bS sS) ∧ (r2 = 0 → wp_X13_isPlace (fun r5 => (r5 = 0 → wp_X13_addStorm_34 post   x0 x1 x2 x3 x0 tS nS rS wS3 bS sS) ∧ (¬ r5 = 0 → wp_X13_in (fun r26 => (¬ r26 = 0 → wp_X13_addStorm_39 post   x0 x1 x2 x3 0 x0 tS nS rS wS3 bS sS) ∧ (r26 = 0 → wp_X13_addStorm_34 post   x0 x1 x2 x3 x0 tS nS rS wS3 bS sS)) tS nS rS wS3 x3.toInt64 10 400)) tS nS rS wS3 x2)) tS nS rS wS1 x0 x1) tS nS rS wS x0
set_option maxHeartbeats 4000000 in
set_option maxRecDepth 100000 in
theorem c_X13_addStorm (l : Launch) (D : va_G) (tc : Nat → ClassId) (h0 : Nat) (sa : Nat → Nat) (x0 : Nat) (x1 : Int32) (x2 : Int32) (x3 : Int32) (b0 s0 : Nat) {Am : Nat → Prop} (H0 : Heap) {tS nS : Nat → Nat} {rS : Nat → Nat → Nat} {wS : Dt} (hB : SB D tc (sa 3) Am tS nS rS wS H0) (hkx0 : tS x0 = 7) (hA0 : ∀ q, Am q → h0 ≤ q) (hAF : ∀ x, H0.size ≤ x → Am x) {post : Int32 → (Nat → Nat) → (Nat → Nat) → (Nat → Nat → Nat) → Dt → Prop} (hw : wp_X13_addStorm post  tS nS rS wS b0 s0 x0 x1 x2 x3) : MB l yX13_addStorm cX13_addStorm 4 (Option.some FieldType.int) (rm_X13_addStorm b0 s0) Am [.ref x0, .int x1, .int x2, .int x3] D tc h0 sa H0 (fun u : Int32 × (Nat → Nat) × (Nat → Nat) × (Nat → Nat → Nat) × Dt => post u.1 u.2.1 u.2.2.1 u.2.2.2.1 u.2.2.2.2) (fun (u : Int32 × (Nat → Nat) × (Nat → Nat) × (Nat → Nat → Nat) × Dt) (H1 : Heap) => SB D tc (sa 3) Am u.2.1 u.2.2.1 u.2.2.2.1 u.2.2.2.2 H1 ∧ Ext tS u.2.1) (fun u : Int32 × (Nat → Nat) × (Nat → Nat) × (Nat → Nat → Nat) × Dt => some (.int u.1)) := by
  refine MB.of RX13 [(0, .ref x0), (1, .int x1), (2, .int x2), (3, .int x3)] (by decide +kernel) rfl (Nat.le_of_ble_eq_true rfl) rfl ?_
  intro p e s m below meth c ls X hr hin hT hH hS hl
  subst hH
  have hx := X.1
  have hb := X.2.1
  have hown := X.2.2.2.1
  have hU := X.2.2.2.2.1.1
  unfold wp_X13_addStorm at hw
  obtain ⟨A, eA⟩ : ∃ z, z = Am := ⟨_, rfl⟩
  have hB : SB D tc (sa 3) A tS nS rS wS s.heap := by rw [eA]; exact hB
  have hAm9 := hAF
  have hAF : ∀ x, s.heap.size ≤ x → A x := by rw [eA]; exact hAF
  have hAS : ∀ x, A x → Am x := by rw [eA]; exact fun _ h => h
  have hX : Ext tS tS := Ext.rf
  obtain ⟨bS, ebS⟩ : ∃ z, z = b0 := ⟨_, rfl⟩
  obtain ⟨sS, esS⟩ : ∃ z, z = s0 := ⟨_, rfl⟩
  rw [← ebS, ← esS] at hw
  refine W_bud (b := bS) (s1 := sS) (B := b0) (S := s0) (show 0 + bS ≤ b0 by omega) (show 0 + sS ≤ s0 by omega) (fun cells slots hc hs => ?_)
  refine lv_aload_n hx hb dX13_addStorm_0 rfl (lv_at hl 0 rfl) ?_
  refine g_after (st0 := [.ref x0]) (rest := []) (g_V X m_X13_61 (c_X13_begins l D tc h0 sa x0 _ hB hkx0 (fun x h => hA0 x (hAS x h)) hw) (recv1 X.2.2.2.2.1 rfl (hB.at (k := 7) hkx0 rfl)) hT hS hA0 dX13_addStorm_1 hl.1 rfl rfl ⟨Nat.le_of_ble_eq_true rfl, Nat.le_of_ble_eq_true rfl⟩ (Nat.le_of_ble_eq_true rfl) ⟨show cells + 0 ≤ b0 by omega, show slots + 0 ≤ s0 by omega⟩) hS hAS (fun u => []) (fun _ => rfl) (fun u H locs hw hP9 hz9 hk9 hS => ?_)
  obtain ⟨wS1, rfl⟩ : ∃ z, z = u := ⟨_, rfl⟩
  try dsimp only at hw hP9
  have hB := hP9
  have hAF : ∀ x, H.size ≤ x → A x := fun x h => hAF x (by omega)
  refine W.widen (k := cells) (n := slots) (Nat.le_refl _) (Nat.le_refl _) ?_
  refine lv_aload_n hx hb dX13_addStorm_4 rfl (lv_at hl 0 rfl) ?_
  refine lv_iload_n hx hb dX13_addStorm_5 rfl (lv_at hl 1 rfl) ?_
  refine g_after (st0 := [.int x1, .ref x0]) (rest := []) (g_V X m_X13_102 (c_X13_noBelt l D tc h0 sa x0 x1 _ hB hkx0 (fun x h => hA0 x (hAS x h)) hw) (recv1 X.2.2.2.2.1 rfl (hB.at (k := 7) hkx0 rfl)) hT hS hA0 dX13_addStorm_6 hl.1 rfl rfl ⟨Nat.le_of_ble_eq_true rfl, Nat.le_of_ble_eq_true rfl⟩ (Nat.le_of_ble_eq_true rfl) ⟨show cells + 0 ≤ b0 by omega, show slots + 0 ≤ s0 by omega⟩) hS hAS (fun u => .int u.1 :: []) (fun _ => rfl) (fun u H locs hw hP9 hz9 hk9 hS => ?_)
  obtain ⟨r2, wS3⟩ := u
  try dsimp only at hw hP9
  have hB := hP9
  have hAF : ∀ x, H.size ≤ x → A x := fun x h => hAF x (by omega)
  refine W.widen (k := cells) (n := slots) (Nat.le_refl _) (Nat.le_refl _) ?_
  refine lv_if_ne (tgt := 76) hx hb dX13_addStorm_9 (by decide) (fun c4 => ?_) (fun c4 => ?_)
  · have hw := hw.1 c4
    exact t_X13_addStorm_76 X hr hT hA0 hAm9  tS nS rS wS3 bS sS _ _ _ _ _ _ hw hB  hAS hAF hX hc hs hS (lv_sub hl [] rfl)
  · have hw := hw.2 c4
    refine lv_aload_n hx hb dX13_addStorm_12 rfl (lv_at hl 0 rfl) ?_
    refine lv_iload_n hx hb dX13_addStorm_13 rfl (lv_at hl 2 rfl) ?_
    refine g_after (st0 := [.int x2, .ref x0]) (rest := [.ref x0]) (g_S X m_X13_148 (c_X13_isPlace l D tc h0 sa x2 _ hB  hw) hT hS hA0 dX13_addStorm_14 hl.1 rfl rfl ⟨Nat.le_of_ble_eq_true rfl, Nat.le_of_ble_eq_true rfl⟩ (Nat.le_of_ble_eq_true rfl) ⟨show cells + 0 ≤ b0 by omega, show slots + 0 ≤ s0 by omega⟩) hS (fun _ h => h.elim) (fun u => .int u :: [.ref x0]) (fun _ => rfl) (fun u H9 locs hw hP9 hz9 hk9 hS => ?_)
    obtain ⟨r5, rfl⟩ : ∃ z, z = u := ⟨_, rfl⟩
    try dsimp only at hw hP9
    have e9 : H9 = _ := hP9
    rw [e9] at hS ⊢
    refine W.widen (k := cells) (n := slots) (Nat.le_refl _) (Nat.le_refl _) ?_
    refine lv_if_eq (tgt := 34) hx hb dX13_addStorm_17 (by decide) (fun c6 => ?_) (fun c6 => ?_)
    · have hw := hw.1 c6
      exact t_X13_addStorm_34 X hr hT hA0 hAm9  x0 x1 x2 x3 x0 tS nS rS wS3 bS sS _ _ _ _ _ _ hw hB hkx0 hkx0 hAS hAF hX hc hs hS (lv_sub hl [0, 1, 2, 3] rfl)
    · have hw := hw.2 c6
      refine lv_iload_n hx hb dX13_addStorm_20 rfl (lv_at hl 3 rfl) ?_
      refine lv_i2l (v := x3.toInt64) hx hb dX13_addStorm_21 rfl ?_
      refine lv_ldc2 (v := 10) hx hb hown (hU.use w_1419) dX13_addStorm_22 ?_
      refine lv_ldc2 (v := 400) hx hb hown (hU.use w_1420) dX13_addStorm_25 ?_
      refine g_after (st0 := [.long 400, .long 10, .long x3.toInt64, .ref x0]) (rest := [.ref x0]) (g_S X m_X13_13 (c_X13_in l D tc h0 sa x3.toInt64 10 400 _ hB  hw) hT hS hA0 dX13_addStorm_28 hl.1 rfl rfl ⟨Nat.le_of_ble_eq_true rfl, Nat.le_of_ble_eq_true rfl⟩ (Nat.le_of_ble_eq_true rfl) ⟨show cells + 0 ≤ b0 by omega, show slots + 0 ≤ s0 by omega⟩) hS (fun _ h => h.elim) (fun u => .int u :: [.ref x0]) (fun _ => rfl) (fun u H9 locs hw hP9 hz9 hk9 hS => ?_)
      obtain ⟨r26, rfl⟩ : ∃ z, z = u := ⟨_, rfl⟩
      try dsimp only at hw hP9
      have e9 : H9 = _ := hP9
      rw [e9] at hS ⊢
      refine W.widen (k := cells) (n := slots) (Nat.le_refl _) (Nat.le_refl _) ?_
      refine lv_if_ne (tgt := 38) hx hb dX13_addStorm_31 (by decide) (fun c27 => ?_) (fun c27 => ?_)
      · have hw := hw.1 c27
        refine lv_iconst (v := 0) hx hb dX13_addStorm_38 (by decide) ?_
        exact t_X13_addStorm_39 X hr hT hA0 hAm9  x0 x1 x2 x3 0 x0 tS nS rS wS3 bS sS _ _ _ _ _ _ hw hB hkx0 hkx0 hAS hAF hX hc hs hS (lv_sub hl [0, 1, 2, 3] rfl)
      · have hw := hw.2 c27
        exact t_X13_addStorm_34 X hr hT hA0 hAm9  x0 x1 x2 x3 x0 tS nS rS wS3 bS sS _ _ _ _ _ _ hw hB hkx0 hkx0 hAS hAF hX hc hs hS (lv_sub hl [0, 1, 2, 3] rfl)
abbrev rm_X13_burst (b0 s0 : Nat) : Room := { frames := 8, cells := b0, slots := s0, locals := 215 }
def wp_X13_burst_111 (post : Int32 → (Nat → Nat) → (Nat → Nat) → (Nat → Nat → Nat) → Dt → Prop)   (tS : Nat → Nat) (nS : Nat → Nat) (rS : Nat → Nat → Nat) (wS : Dt) (bS : Nat) (sS : Nat) : Prop := post (-1) tS nS rS wS
set_option maxHeartbeats 4000000 in
set_option maxRecDepth 100000 in
theorem t_X13_burst_111 : ∀ {p : Program} {l : Launch} {e : Env} {s : State} {m : MethodId} {args : Array Value} {below : List Frame} {meth : Method} {c : Code} {D : va_G} {tc : Nat → ClassId} {h0 : Nat} {sa : Nat → Nat} {Am : Nat → Prop} {b0 s0 : Nat} {t0 : Nat → Nat} {post : Int32 → (Nat → Nat) → (Nat → Nat) → (Nat → Nat → Nat) → Dt → Prop}   (X : Cx p c s m meth cX13_burst 6 RX13 D tc) (hr : meth.sig.returnType = (Option.some FieldType.int)) (hT : ST h0 sa s s.heap) (hA0 : ∀ q, Am q → h0 ≤ q) (hAm9 : ∀ x, s.heap.size ≤ x → Am x) , ∀ (tS : Nat → Nat) (nS : Nat → Nat) (rS : Nat → Nat → Nat) (wS : Dt) (bS : Nat) (sS : Nat) (H : Heap) (locs : List Loc) (ls : Array Slot) (AS : Nat → Prop) (cells slots : Nat), wp_X13_burst_111 post   tS nS rS wS bS sS → SB D tc (sa 3) AS tS nS rS wS H → (∀ x, AS x → Am x) → (∀ x, H.size ≤ x → AS x) → Ext t0 tS → cells + bS ≤ b0 → slots + sS ≤ s0 → va_S Am s.heap H locs → lv_has ls 6 [] → W p l e (rm_X13_burst b0 s0) s m args below meth c H locs cells slots (MQ below (QB (fun u : Int32 × (Nat → Nat) × (Nat → Nat) × (Nat → Nat → Nat) × Dt => post u.1 u.2.1 u.2.2.1 u.2.2.2.1 u.2.2.2.2) (fun (u : Int32 × (Nat → Nat) × (Nat → Nat) × (Nat → Nat → Nat) × Dt) (H1 : Heap) => SB D tc (sa 3) Am u.2.1 u.2.2.1 u.2.2.2.1 u.2.2.2.2 H1 ∧ Ext t0 u.2.1) (fun u : Int32 × (Nat → Nat) × (Nat → Nat) × (Nat → Nat → Nat) × Dt => some (.int u.1)) Am) args s (rm_X13_burst b0 s0).cells (rm_X13_burst b0 s0).slots Am) (F0 m 111 ls []) := by
  intro p l e s m args below meth c D tc h0 sa Am b0 s0 t0 post   X hr hT hA0 hAm9   tS nS rS wS bS sS H locs ls AS cells slots hw hB  hAS hAF hX hc hs hS hl
  have hx := X.1
  have hb := X.2.1
  have hown := X.2.2.2.1
  have hU := X.2.2.2.2.1.1
  unfold wp_X13_burst_111 at hw
  refine lv_iconst (v := (-1)) hx hb dX13_burst_111 (by decide) ?_
  exact e_i X hr dX13_burst_112 hS ((-1), tS, nS, rS, wS) rfl hw ⟨hB.regs hAS, hX⟩ ⟨show cells ≤ b0 by omega, show slots ≤ s0 by omega⟩
def wp_X13_burst_116 (post : Int32 → (Nat → Nat) → (Nat → Nat) → (Nat → Nat → Nat) → Dt → Prop)   : Nat → (Nat) → (Int32) → (Int32) → (Int32) → (Nat → Nat) → (Nat → Nat) → (Nat → Nat → Nat) → (Dt) → (Nat) → (Nat) → Prop
  | 0, _, _, _, _, _, _, _, _, _, _ => False
  | n9 + 1, y0, y1, y2, y4, tS, nS, rS, wS, bS, sS => (3 ≤ y4 → ∃ b26 s27 : Nat, b26 ≤ bS ∧ s27 ≤ sS ∧ (wp_X13_adds (fun r30 tS31 nS32 rS33 wS34 => ∃ b37 s38 : Nat, b37 ≤ (bS - b26) ∧ s38 ≤ (sS - s27) ∧ (wp_X12_notes (fun tS41 nS42 rS43 wS44 => post r30 tS41 nS42 rS43 wS44) tS31 nS32 rS33 wS34 b37 s38 (rS33 y0 1) 112 r30)) tS nS rS wS b26 s27 y0 y1 y2 60)) ∧ (¬ 3 ≤ y4 → vp_in y4 3 ∧ (∀ v50 : Int32, v50 = ((wS (rS (rS (rS y0 1) 1) (9 : Int32).toNatClampNeg) y4.toNatClampNeg) / 2) → (∀ wS54 : Dt, wS54 = up2 wS (rS (rS (rS y0 1) 1) (9 : Int32).toNatClampNeg) y4.toNatClampNeg ((wS (rS (rS (rS y0 1) 1) (9 : Int32).toNatClampNeg) y4.toNatClampNeg) - v50) → (∀ wS58 : Dt, wS58 = up2 wS54 (rS (rS (rS y0 1) 1) (3 : Int32).toNatClampNeg) y4.toNatClampNeg ((wS54 (rS (rS (rS y0 1) 1) (3 : Int32).toNatClampNeg) y4.toNatClampNeg) + v50) → (wp_X13_burst_116 post   n9 y0 y1 y2 (y4 + 1) tS nS rS wS58 bS sS)))))
set_option maxHeartbeats 4000000 in
set_option maxRecDepth 100000 in
theorem t_X13_burst_116 : ∀ {p : Program} {l : Launch} {e : Env} {s : State} {m : MethodId} {args : Array Value} {below : List Frame} {meth : Method} {c : Code} {D : va_G} {tc : Nat → ClassId} {h0 : Nat} {sa : Nat → Nat} {Am : Nat → Prop} {b0 s0 : Nat} {t0 : Nat → Nat} {post : Int32 → (Nat → Nat) → (Nat → Nat) → (Nat → Nat → Nat) → Dt → Prop}   (X : Cx p c s m meth cX13_burst 6 RX13 D tc) (hr : meth.sig.returnType = (Option.some FieldType.int)) (hT : ST h0 sa s s.heap) (hA0 : ∀ q, Am q → h0 ≤ q) (hAm9 : ∀ x, s.heap.size ≤ x → Am x)  (n9 : Nat), ∀ (y0 : Nat) (y1 : Int32) (y2 : Int32) (y4 : Int32) (tS : Nat → Nat) (nS : Nat → Nat) (rS : Nat → Nat → Nat) (wS : Dt) (bS : Nat) (sS : Nat) (H : Heap) (locs : List Loc) (ls : Array Slot) (AS : Nat → Prop) (cells slots : Nat), wp_X13_burst_116 post   n9 y0 y1 y2 y4 tS nS rS wS bS sS → SB D tc (sa 3) AS tS nS rS wS H → (tS y0 = 7) → (∀ x, AS x → Am x) → (∀ x, H.size ≤ x → AS x) → Ext t0 tS → cells + bS ≤ b0 → slots + sS ≤ s0 → va_S Am s.heap H locs → lv_has ls 6 [(0, .ref y0), (1, .int y1), (2, .int y2), (4, .int y4)] → W p l e (rm_X13_burst b0 s0) s m args below meth c H locs cells slots (MQ below (QB (fun u : Int32 × (Nat → Nat) × (Nat → Nat) × (Nat → Nat → Nat) × Dt => post u.1 u.2.1 u.2.2.1 u.2.2.2.1 u.2.2.2.2) (fun (u : Int32 × (Nat → Nat) × (Nat → Nat) × (Nat → Nat → Nat) × Dt) (H1 : Heap) => SB D tc (sa 3) Am u.2.1 u.2.2.1 u.2.2.2.1 u.2.2.2.2 H1 ∧ Ext t0 u.2.1) (fun u : Int32 × (Nat → Nat) × (Nat → Nat) × (Nat → Nat → Nat) × Dt => some (.int u.1)) Am) args s (rm_X13_burst b0 s0).cells (rm_X13_burst b0 s0).slots Am) (F0 m 116 ls []) := by
  intro p l e s m args below meth c D tc h0 sa Am b0 s0 t0 post   X hr hT hA0 hAm9  n9
  have hx := X.1
  have hb := X.2.1
  have hown := X.2.2.2.1
  have hU := X.2.2.2.2.1.1
  induction n9 with
  | zero =>
    intro  y0 y1 y2 y4 tS nS rS wS bS sS H locs ls AS cells slots hw
    exact hw.elim
  | succ n9 ih =>
    intro  y0 y1 y2 y4 tS nS rS wS bS sS H locs ls AS cells slots hw hB hky0 hAS hAF hX hc hs hS hl
    unfold wp_X13_burst_116 at hw
    refine lv_iload hx hb dX13_burst_116 (lv_at hl 3 rfl) ?_
    refine lv_iconst (v := 3) hx hb dX13_burst_118 (by decide) ?_
    refine lv_icmp_ge (tgt := 180) hx hb dX13_burst_119 (by decide) (fun c25 => ?_) (fun c25 => ?_)
    · have hw := hw.1 c25
      refine lv_aload_n hx hb dX13_burst_180 rfl (lv_at hl 0 rfl) ?_
      refine lv_iload_n hx hb dX13_burst_181 rfl (lv_at hl 1 rfl) ?_
      refine lv_iload_n hx hb dX13_burst_182 rfl (lv_at hl 2 rfl) ?_
      refine lv_bipush (v := 60) hx hb dX13_burst_183 (by decide) ?_
      obtain ⟨b26, s27, o28, o29, hw⟩ := hw
      refine g_after (st0 := [.int 60, .int y2, .int y1, .ref y0]) (rest := []) (g_V X m_X13_155 (c_X13_adds l D tc h0 sa y0 y1 y2 60 b26 s27 _ hB hky0 (fun x h => hA0 x (hAS x h)) hAF hw) (recv1 X.2.2.2.2.1 rfl (hB.at (k := 7) hky0 rfl)) hT hS hA0 dX13_burst_185 hl.1 rfl rfl ⟨Nat.le_of_ble_eq_true rfl, Nat.le_of_ble_eq_true rfl⟩ (Nat.le_of_ble_eq_true rfl) ⟨show cells + b26 ≤ b0 by omega, show slots + s27 ≤ s0 by omega⟩) hS hAS (fun u => .int u.1 :: []) (fun _ => rfl) (fun u H locs hw hP9 hz9 hk9 hS => ?_)
      obtain ⟨r30, tS31, nS32, rS33, wS34⟩ := u
      try dsimp only at hw hP9
      obtain ⟨hB, hX9⟩ := hP9
      have hAF : ∀ x, H.size ≤ x → AS x := fun x h => hAF x (by omega)
      have hX := hX.trans hX9
      refine W_bud (b := (bS - b26)) (s1 := (sS - s27)) (B := b0) (S := s0) (show (cells + b26) + (bS - b26) ≤ b0 by omega) (show (slots + s27) + (sS - s27) ≤ s0 by omega) (fun cells slots hc hs => ?_)
      have k35 : tS31 y0 = 7 := hX9.to hky0
      refine lv_istore (lv' := [(4, .int r30), (0, .ref y0), (1, .int y1), (2, .int y2)]) hx hb dX13_burst_188 hl (by decide) rfl (fun ls hl => ?_)
      refine lv_aload_n hx hb dX13_burst_190 rfl (lv_at hl 1 rfl) ?_
      refine g_get X dX13_burst_191 f_X13_34 (hB.one (k := 7) k35 rfl) 0 (v := .ref (rS33 y0 1)) rfl rfl ?_
      have k36 : tS31 (rS33 y0 1) = 4 := (hB.wtk k35).1
      refine lv_bipush (v := 112) hx hb dX13_burst_194 (by decide) ?_
      refine lv_iload hx hb dX13_burst_196 (lv_at hl 0 rfl) ?_
      obtain ⟨b37, s38, o39, o40, hw⟩ := hw
      refine g_after (st0 := [.int r30, .int 112, .ref (rS33 y0 1)]) (rest := []) (g_V X m_X13_195 (c_X12_notes l D tc h0 sa (rS33 y0 1) 112 r30 b37 s38 _ hB k36 (fun x h => hA0 x (hAS x h)) hAF hw) (recv1 X.2.2.2.2.1 rfl (hB.at (k := 4) k36 rfl)) hT hS hA0 dX13_burst_198 hl.1 rfl rfl ⟨Nat.le_of_ble_eq_true rfl, Nat.le_of_ble_eq_true rfl⟩ (Nat.le_of_ble_eq_true rfl) ⟨show cells + b37 ≤ b0 by omega, show slots + s38 ≤ s0 by omega⟩) hS hAS (fun u => []) (fun _ => rfl) (fun u H locs hw hP9 hz9 hk9 hS => ?_)
      obtain ⟨tS41, nS42, rS43, wS44⟩ := u
      try dsimp only at hw hP9
      obtain ⟨hB, hX9⟩ := hP9
      have hAF : ∀ x, H.size ≤ x → AS x := fun x h => hAF x (by omega)
      have hX := hX.trans hX9
      refine W_bud (b := ((bS - b26) - b37)) (s1 := ((sS - s27) - s38)) (B := b0) (S := s0) (show (cells + b37) + ((bS - b26) - b37) ≤ b0 by omega) (show (slots + s38) + ((sS - s27) - s38) ≤ s0 by omega) (fun cells slots hc hs => ?_)
      have k45 : tS41 y0 = 7 := hX9.to k35
      refine lv_iload hx hb dX13_burst_201 (lv_at hl 0 rfl) ?_
      exact e_i X hr dX13_burst_203 hS (r30, tS41, nS42, rS43, wS44) rfl hw ⟨hB.regs hAS, hX⟩ ⟨show cells ≤ b0 by omega, show slots ≤ s0 by omega⟩
    · have hw := hw.2 c25
      refine lv_aload_n hx hb dX13_burst_122 rfl (lv_at hl 0 rfl) ?_
      refine g_get X dX13_burst_123 f_X13_34 (hB.one (k := 7) hky0 rfl) 0 (v := .ref (rS y0 1)) rfl rfl ?_
      have k46 : tS (rS y0 1) = 4 := (hB.wtk hky0).1
      refine g_getN X dX13_burst_126 f_X13_80 (hB.one (k := 4) k46 rfl) 0 (v := .ref (rS (rS y0 1) 1)) rfl rfl ?_
      have k47 : tS (rS (rS y0 1) 1) = 2 := (hB.wtk k46).2.1
      refine lv_bipush (v := 9) hx hb dX13_burst_129 (by decide) ?_
      refine g_aaldA X dX13_burst_131 (hB.one (k := 2) k47 rfl) 0 rfl (by unfold vp_in; decide) (v := .ref (rS (rS (rS y0 1) 1) (9 : Int32).toNatClampNeg)) (row_at (lt10 (by unfold vp_in; decide))) ?_
      have k48 : tS (rS (rS (rS y0 1) 1) (9 : Int32).toNatClampNeg) = 23 := (hB.wtk k47) _ (lt10 (by unfold vp_in; decide))
      refine lv_iload hx hb dX13_burst_132 (lv_at hl 3 rfl) ?_
      obtain ⟨o49, hw⟩ := hw
      refine g_iald X dX13_burst_134 (hB.one (k := 23) k48 rfl) 0 rfl o49 rfl ?_
      refine lv_iconst (v := 2) hx hb dX13_burst_135 (by decide) ?_
      refine lv_idiv hx hb dX13_burst_136 (by decide) ?_
      refine lv_topi (fun v50 ev50 => ?_)
      have hw := hw v50 ev50
      refine lv_istore (lv' := [(5, .int v50), (0, .ref y0), (1, .int y1), (2, .int y2), (4, .int y4)]) hx hb dX13_burst_137 hl (by decide) rfl (fun ls hl => ?_)
      refine lv_aload_n hx hb dX13_burst_139 rfl (lv_at hl 1 rfl) ?_
      refine g_get X dX13_burst_140 f_X13_34 (hB.one (k := 7) hky0 rfl) 0 (v := .ref (rS y0 1)) rfl rfl ?_
      have k51 : tS (rS y0 1) = 4 := (hB.wtk hky0).1
      refine g_getN X dX13_burst_143 f_X13_80 (hB.one (k := 4) k51 rfl) 0 (v := .ref (rS (rS y0 1) 1)) rfl rfl ?_
      have k52 : tS (rS (rS y0 1) 1) = 2 := (hB.wtk k51).2.1
      refine lv_bipush (v := 9) hx hb dX13_burst_146 (by decide) ?_
      refine g_aaldA X dX13_burst_148 (hB.one (k := 2) k52 rfl) 0 rfl (by unfold vp_in; decide) (v := .ref (rS (rS (rS y0 1) 1) (9 : Int32).toNatClampNeg)) (row_at (lt10 (by unfold vp_in; decide))) ?_
      have k53 : tS (rS (rS (rS y0 1) 1) (9 : Int32).toNatClampNeg) = 23 := (hB.wtk k52) _ (lt10 (by unfold vp_in; decide))
      refine lv_iload hx hb dX13_burst_149 (lv_at hl 4 rfl) ?_
      refine lv_dup2_11 hx hb dX13_burst_151 rfl rfl ?_
      refine g_iald X dX13_burst_152 (hB.one (k := 23) k53 rfl) 0 rfl o49 rfl ?_
      refine lv_iload hx hb dX13_burst_153 (lv_at hl 0 rfl) ?_
      refine lv_isub hx hb dX13_burst_155 ?_
      refine g_iast X dX13_burst_156 (hB.oneB (k := 23) hAS k53 rfl) hS 0 rfl o49 rfl (fun H locs hb9 oq hS => ?_)
      have hB := hB.putB k53 rfl hb9 oq
      have hAF : ∀ x, H.size ≤ x → AS x := fun x h => hAF x (Nat.le_trans (sz_of oq (hB.lt (by rw [k53]; decide)).1) h)
      obtain ⟨wS54, ewS54⟩ : ∃ z : Dt, z = up2 wS (rS (rS (rS y0 1) 1) (9 : Int32).toNatClampNeg) y4.toNatClampNeg ((wS (rS (rS (rS y0 1) 1) (9 : Int32).toNatClampNeg) y4.toNatClampNeg) - v50) := ⟨_, rfl⟩
      rw [← ewS54] at hB
      have hw := hw wS54 ewS54
      refine lv_aload_n hx hb dX13_burst_157 rfl (lv_at hl 1 rfl) ?_
      refine g_get X dX13_burst_158 f_X13_34 (hB.one (k := 7) hky0 rfl) 0 (v := .ref (rS y0 1)) rfl rfl ?_
      have k55 : tS (rS y0 1) = 4 := (hB.wtk hky0).1
      refine g_getN X dX13_burst_161 f_X13_80 (hB.one (k := 4) k55 rfl) 0 (v := .ref (rS (rS y0 1) 1)) rfl rfl ?_
      have k56 : tS (rS (rS y0 1) 1) = 2 := (hB.wtk k55).2.1
      refine lv_iconst (v := 3) hx hb dX13_burst_164 (by decide) ?_
      refine g_aaldA X dX13_burst_165 (hB.one (k := 2) k56 rfl) 0 rfl (by unfold vp_in; decide) (v := .ref (rS (rS (rS y0 1) 1) (3 : Int32).toNatClampNeg)) (row_at (lt10 (by unfold vp_in; decide))) ?_
      have k57 : tS (rS (rS (rS y0 1) 1) (3 : Int32).toNatClampNeg) = 23 := (hB.wtk k56) _ (lt10 (by unfold vp_in; decide))
      refine lv_iload hx hb dX13_burst_166 (lv_at hl 4 rfl) ?_
      refine lv_dup2_11 hx hb dX13_burst_168 rfl rfl ?_
      refine g_iald X dX13_burst_169 (hB.one (k := 23) k57 rfl) 0 rfl o49 rfl ?_
      refine lv_iload hx hb dX13_burst_170 (lv_at hl 0 rfl) ?_
      refine lv_iadd hx hb dX13_burst_172 ?_
      refine g_iast X dX13_burst_173 (hB.oneB (k := 23) hAS k57 rfl) hS 0 rfl o49 rfl (fun H locs hb9 oq hS => ?_)
      have hB := hB.putB k57 rfl hb9 oq
      have hAF : ∀ x, H.size ≤ x → AS x := fun x h => hAF x (Nat.le_trans (sz_of oq (hB.lt (by rw [k57]; decide)).1) h)
      obtain ⟨wS58, ewS58⟩ : ∃ z : Dt, z = up2 wS54 (rS (rS (rS y0 1) 1) (3 : Int32).toNatClampNeg) y4.toNatClampNeg ((wS54 (rS (rS (rS y0 1) 1) (3 : Int32).toNatClampNeg) y4.toNatClampNeg) + v50) := ⟨_, rfl⟩
      rw [← ewS58] at hB
      have hw := hw wS58 ewS58
      refine lv_iinc (lv' := [(4, .int (y4 + 1)), (5, .int v50), (0, .ref y0), (1, .int y1), (2, .int y2)]) hx hb dX13_burst_174 hl (k := 4) rfl (by rfl) (by decide) rfl (fun ls hl => ?_)
      refine lv_goto (tgt := 116) hx hb dX13_burst_177 (by decide) ?_
      exact ih y0 y1 y2 (y4 + 1) tS nS rS wS58 bS sS _ _ _ _ _ _ hw hB hky0 hAS hAF hX hc hs hS (lv_sub hl [2, 3, 4, 0] rfl)
def wp_X13_burst_104 (post : Int32 → (Nat → Nat) → (Nat → Nat) → (Nat → Nat → Nat) → Dt → Prop)   (y0 : Nat) (y1 : Int32) (y2 : Int32) (z0 : Int32) (z1 : Nat) (tS : Nat → Nat) (nS : Nat → Nat) (rS : Nat → Nat → Nat) (wS : Dt) (bS : Nat) (sS : Nat) : Prop := wp_X13_fails (fun r22 wS23 => (r22 = 0 → ∃ k9 : Nat, wp_X13_burst_116 post   k9 y0 y1 y2 0 tS nS rS wS23 bS sS) ∧ (¬ r22 = 0 → wp_X13_burst_111 post   tS nS rS wS23 bS sS)) tS nS rS wS z1 z0 4
set_option maxHeartbeats 4000000 in
set_option maxRecDepth 100000 in
theorem t_X13_burst_104 : ∀ {p : Program} {l : Launch} {e : Env} {s : State} {m : MethodId} {args : Array Value} {below : List Frame} {meth : Method} {c : Code} {D : va_G} {tc : Nat → ClassId} {h0 : Nat} {sa : Nat → Nat} {Am : Nat → Prop} {b0 s0 : Nat} {t0 : Nat → Nat} {post : Int32 → (Nat → Nat) → (Nat → Nat) → (Nat → Nat → Nat) → Dt → Prop}   (X : Cx p c s m meth cX13_burst 6 RX13 D tc) (hr : meth.sig.returnType = (Option.some FieldType.int)) (hT : ST h0 sa s s.heap) (hA0 : ∀ q, Am q → h0 ≤ q) (hAm9 : ∀ x, s.heap.size ≤ x → Am x) , ∀ (y0 : Nat) (y1 : Int32) (y2 : Int32) (z0 : Int32) (z1 : Nat) (tS : Nat → Nat) (nS : Nat → Nat) (rS : Nat → Nat → Nat) (wS : Dt) (bS : Nat) (sS : Nat) (H : Heap) (locs : List Loc) (ls : Array Slot) (AS : Nat → Prop) (cells slots : Nat), wp_X13_burst_104 post   y0 y1 y2 z0 z1 tS nS rS wS bS sS → SB D tc (sa 3) AS tS nS rS wS H → (tS y0 = 7) → (tS z1 = 7) → (∀ x, AS x → Am x) → (∀ x, H.size ≤ x → AS x) → Ext t0 tS → cells + bS ≤ b0 → slots + sS ≤ s0 → va_S Am s.heap H locs → lv_has ls 6 [(0, .ref y0), (1, .int y1), (2, .int y2)] → W p l e (rm_X13_burst b0 s0) s m args below meth c H locs cells slots (MQ below (QB (fun u : Int32 × (Nat → Nat) × (Nat → Nat) × (Nat → Nat → Nat) × Dt => post u.1 u.2.1 u.2.2.1 u.2.2.2.1 u.2.2.2.2) (fun (u : Int32 × (Nat → Nat) × (Nat → Nat) × (Nat → Nat → Nat) × Dt) (H1 : Heap) => SB D tc (sa 3) Am u.2.1 u.2.2.1 u.2.2.2.1 u.2.2.2.2 H1 ∧ Ext t0 u.2.1) (fun u : Int32 × (Nat → Nat) × (Nat → Nat) × (Nat → Nat → Nat) × Dt => some (.int u.1)) Am) args s (rm_X13_burst b0 s0).cells (rm_X13_burst b0 s0).slots Am) (F0 m 104 ls [.int z0, .ref z1]) := by
  intro p l e s m args below meth c D tc h0 sa Am b0 s0 t0 post   X hr hT hA0 hAm9   y0 y1 y2 z0 z1 tS nS rS wS bS sS H locs ls AS cells slots hw hB hky0 hkz1 hAS hAF hX hc hs hS hl
  have hx := X.1
  have hb := X.2.1
  have hown := X.2.2.2.1
  have hU := X.2.2.2.2.1.1
  unfold wp_X13_burst_104 at hw
  refine lv_iconst (v := 4) hx hb dX13_burst_104 (by decide) ?_
  refine g_after (st0 := [.int 4, .int z0, .ref z1]) (rest := []) (g_V X m_X13_57 (c_X13_fails l D tc h0 sa z1 z0 4 _ hB hkz1 (fun x h => hA0 x (hAS x h)) hw) (recv1 X.2.2.2.2.1 rfl (hB.at (k := 7) hkz1 rfl)) hT hS hA0 dX13_burst_105 hl.1 rfl rfl ⟨Nat.le_of_ble_eq_true rfl, Nat.le_of_ble_eq_true rfl⟩ (Nat.le_of_ble_eq_true rfl) ⟨show cells + 0 ≤ b0 by omega, show slots + 0 ≤ s0 by omega⟩) hS hAS (fun u => .int u.1 :: []) (fun _ => rfl) (fun u H locs hw hP9 hz9 hk9 hS => ?_)
  obtain ⟨r22, wS23⟩ := u
  try dsimp only at hw hP9
  have hB := hP9
  have hAF : ∀ x, H.size ≤ x → AS x := fun x h => hAF x (by omega)
  refine W.widen (k := cells) (n := slots) (Nat.le_refl _) (Nat.le_refl _) ?_
  refine lv_if_eq (tgt := 113) hx hb dX13_burst_108 (by decide) (fun c24 => ?_) (fun c24 => ?_)
  · have hw := hw.1 c24
    refine lv_iconst (v := 0) hx hb dX13_burst_113 (by decide) ?_
    refine lv_istore (lv' := [(4, .int 0), (0, .ref y0), (1, .int y1), (2, .int y2)]) hx hb dX13_burst_114 hl (by decide) rfl (fun ls hl => ?_)
    obtain ⟨k9, hw⟩ := hw
    exact t_X13_burst_116 X hr hT hA0 hAm9  k9 y0 y1 y2 0 tS nS rS wS23 bS sS _ _ _ _ _ _ hw hB hky0 hAS hAF hX hc hs hS (lv_sub hl [1, 2, 3, 0] rfl)
  · have hw := hw.2 c24
    exact t_X13_burst_111 X hr hT hA0 hAm9  tS nS rS wS23 bS sS _ _ _ _ _ _ hw hB  hAS hAF hX hc hs hS (lv_sub hl [] rfl)
def wp_X13_burst_74 (post : Int32 → (Nat → Nat) → (Nat → Nat) → (Nat → Nat → Nat) → Dt → Prop)   (y0 : Nat) (y1 : Int32) (y2 : Int32) (z0 : Int32) (z1 : Nat) (tS : Nat → Nat) (nS : Nat → Nat) (rS : Nat → Nat → Nat) (wS : Dt) (bS : Nat) (sS : Nat) : Prop := wp_X13_fails (fun r16 wS17 => (¬ r16 = 0 → wp_X13_burst_111 post   tS nS rS wS17 bS sS) ∧ (r16 = 0 → (¬ (nI (nS (rS (rS y0 1) 8))) = 12 → wp_X13_burst_104 post   y0 y1 y2 0 y0 tS nS rS wS17 bS sS) ∧ ((nI (nS (rS (rS y0 1) 8))) = 12 → wp_X13_burst_104 post   y0 y1 y2 1 y0 tS nS rS wS17 bS sS))) tS nS rS wS z1 z0 3
set_option maxHeartbeats 4000000 in
set_option maxRecDepth 100000 in
theorem t_X13_burst_74 : ∀ {p : Program} {l : Launch} {e : Env} {s : State} {m : MethodId} {args : Array Value} {below : List Frame} {meth : Method} {c : Code} {D : va_G} {tc : Nat → ClassId} {h0 : Nat} {sa : Nat → Nat} {Am : Nat → Prop} {b0 s0 : Nat} {t0 : Nat → Nat} {post : Int32 → (Nat → Nat) → (Nat → Nat) → (Nat → Nat → Nat) → Dt → Prop}   (X : Cx p c s m meth cX13_burst 6 RX13 D tc) (hr : meth.sig.returnType = (Option.some FieldType.int)) (hT : ST h0 sa s s.heap) (hA0 : ∀ q, Am q → h0 ≤ q) (hAm9 : ∀ x, s.heap.size ≤ x → Am x) , ∀ (y0 : Nat) (y1 : Int32) (y2 : Int32) (z0 : Int32) (z1 : Nat) (tS : Nat → Nat) (nS : Nat → Nat) (rS : Nat → Nat → Nat) (wS : Dt) (bS : Nat) (sS : Nat) (H : Heap) (locs : List Loc) (ls : Array Slot) (AS : Nat → Prop) (cells slots : Nat), wp_X13_burst_74 post   y0 y1 y2 z0 z1 tS nS rS wS bS sS → SB D tc (sa 3) AS tS nS rS wS H → (tS y0 = 7) → (tS z1 = 7) → (∀ x, AS x → Am x) → (∀ x, H.size ≤ x → AS x) → Ext t0 tS → cells + bS ≤ b0 → slots + sS ≤ s0 → va_S Am s.heap H locs → lv_has ls 6 [(0, .ref y0), (1, .int y1), (2, .int y2)] → W p l e (rm_X13_burst b0 s0) s m args below meth c H locs cells slots (MQ below (QB (fun u : Int32 × (Nat → Nat) × (Nat → Nat) × (Nat → Nat → Nat) × Dt => post u.1 u.2.1 u.2.2.1 u.2.2.2.1 u.2.2.2.2) (fun (u : Int32 × (Nat → Nat) × (Nat → Nat) × (Nat → Nat → Nat) × Dt) (H1 : Heap) => SB D tc (sa 3) Am u.2.1 u.2.2.1 u.2.2.2.1 u.2.2.2.2 H1 ∧ Ext t0 u.2.1) (fun u : Int32 × (Nat → Nat) × (Nat → Nat) × (Nat → Nat → Nat) × Dt => some (.int u.1)) Am) args s (rm_X13_burst b0 s0).cells (rm_X13_burst b0 s0).slots Am) (F0 m 74 ls [.int z0, .ref z1]) := by
  intro p l e s m args below meth c D tc h0 sa Am b0 s0 t0 post   X hr hT hA0 hAm9   y0 y1 y2 z0 z1 tS nS rS wS bS sS H locs ls AS cells slots hw hB hky0 hkz1 hAS hAF hX hc hs hS hl
  have hx := X.1
  have hb := X.2.1
  have hown := X.2.2.2.1
  have hU := X.2.2.2.2.1.1
  unfold wp_X13_burst_74 at hw
  refine lv_iconst (v := 3) hx hb dX13_burst_74 (by decide) ?_
  refine g_after (st0 := [.int 3, .int z0, .ref z1]) (rest := []) (g_V X m_X13_57 (c_X13_fails l D tc h0 sa z1 z0 3 _ hB hkz1 (fun x h => hA0 x (hAS x h)) hw) (recv1 X.2.2.2.2.1 rfl (hB.at (k := 7) hkz1 rfl)) hT hS hA0 dX13_burst_75 hl.1 rfl rfl ⟨Nat.le_of_ble_eq_true rfl, Nat.le_of_ble_eq_true rfl⟩ (Nat.le_of_ble_eq_true rfl) ⟨show cells + 0 ≤ b0 by omega, show slots + 0 ≤ s0 by omega⟩) hS hAS (fun u => .int u.1 :: []) (fun _ => rfl) (fun u H locs hw hP9 hz9 hk9 hS => ?_)
  obtain ⟨r16, wS17⟩ := u
  try dsimp only at hw hP9
  have hB := hP9
  have hAF : ∀ x, H.size ≤ x → AS x := fun x h => hAF x (by omega)
  refine W.widen (k := cells) (n := slots) (Nat.le_refl _) (Nat.le_refl _) ?_
  refine lv_if_ne (tgt := 111) hx hb dX13_burst_78 (by decide) (fun c18 => ?_) (fun c18 => ?_)
  · have hw := hw.1 c18
    exact t_X13_burst_111 X hr hT hA0 hAm9  tS nS rS wS17 bS sS _ _ _ _ _ _ hw hB  hAS hAF hX hc hs hS (lv_sub hl [] rfl)
  · have hw := hw.2 c18
    refine lv_aload_n hx hb dX13_burst_81 rfl (lv_at hl 0 rfl) ?_
    refine lv_aload_n hx hb dX13_burst_82 rfl (lv_at hl 0 rfl) ?_
    refine g_get X dX13_burst_83 f_X13_34 (hB.one (k := 7) hky0 rfl) 0 (v := .ref (rS y0 1)) rfl rfl ?_
    have k19 : tS (rS y0 1) = 4 := (hB.wtk hky0).1
    refine g_getN X dX13_burst_86 f_X13_139 (hB.one (k := 4) k19 rfl) 0 (v := .ref (rS (rS y0 1) 8)) rfl rfl ?_
    have k20 : tS (rS (rS y0 1) 8) = 8 := (hB.wtk k19).2.2.2.2.1
    obtain ⟨fs9, hat9⟩ := hB.lat (isL_of k20)
    refine g_after5 (st0 := [.ref (rS (rS y0 1) 8), .ref y0]) (rest := [.ref y0]) (g_F X mf_X13_7 (c_size l D tc h0 sa _ (rS (rS y0 1) 8) hB (isL_of k20)) rfl hat9 hT hS hA0 dX13_burst_89 hl.1 rfl rfl ⟨Nat.le_of_ble_eq_true rfl, Nat.le_of_ble_eq_true rfl⟩ (Nat.le_of_ble_eq_true rfl) ⟨show cells + 0 ≤ b0 by omega, show slots + 0 ≤ s0 by omega⟩) hS (fun _ h => h.elim) (fun u => .int (nI (nS (rS (rS y0 1) 8))) :: [.ref y0]) (fun _ => rfl) (fun u H9 locs hu hP9 hz9 hk9 hS => ?_)
    have e9 : H9 = _ := hP9
    rw [e9] at hS ⊢
    refine W.widen (k := cells) (n := slots) (Nat.le_refl _) (Nat.le_refl _) ?_
    refine lv_bipush (v := 12) hx hb dX13_burst_94 (by decide) ?_
    refine lv_icmp_ne (tgt := 103) hx hb dX13_burst_96 (by decide) (fun c21 => ?_) (fun c21 => ?_)
    · have hw := hw.1 c21
      refine lv_iconst (v := 0) hx hb dX13_burst_103 (by decide) ?_
      exact t_X13_burst_104 X hr hT hA0 hAm9  y0 y1 y2 0 y0 tS nS rS wS17 bS sS _ _ _ _ _ _ hw hB hky0 hky0 hAS hAF hX hc hs hS (lv_sub hl [0, 1, 2] rfl)
    · have hw := hw.2 c21
      refine lv_iconst (v := 1) hx hb dX13_burst_99 (by decide) ?_
      refine lv_goto (tgt := 104) hx hb dX13_burst_100 (by decide) ?_
      exact t_X13_burst_104 X hr hT hA0 hAm9  y0 y1 y2 1 y0 tS nS rS wS17 bS sS _ _ _ _ _ _ hw hB hky0 hky0 hAS hAF hX hc hs hS (lv_sub hl [0, 1, 2] rfl)
def wp_X13_burst_57 (post : Int32 → (Nat → Nat) → (Nat → Nat) → (Nat → Nat → Nat) → Dt → Prop)   (y0 : Nat) (y1 : Int32) (y2 : Int32) (y3 : Int32) (z0 : Int32) (z1 : Nat) (tS : Nat → Nat) (nS : Nat → Nat) (rS : Nat → Nat → Nat) (wS : Dt) (bS : Nat) (sS : Nat) : Prop := wp_X13_fails (fun r12 wS13 => (¬ r12 = 0 → wp_X13_burst_111 post   tS nS rS wS13 bS sS) ∧ (r12 = 0 → (¬ y3 = 0 → wp_X13_burst_74 post   y0 y1 y2 0 y0 tS nS rS wS13 bS sS) ∧ (y3 = 0 → wp_X13_burst_74 post   y0 y1 y2 1 y0 tS nS rS wS13 bS sS))) tS nS rS wS z1 z0 2
set_option maxHeartbeats 4000000 in
set_option maxRecDepth 100000 in
theorem t_X13_burst_57 : ∀ {p : Program} {l : Launch} {e : Env} {s : State} {m : MethodId} {args : Array Value} {below : List Frame} {meth : Method} {c : Code} {D : va_G} {tc : Nat → ClassId} {h0 : Nat} {sa : Nat → Nat} {Am : Nat → Prop} {b0 s0 : Nat} {t0 : Nat → Nat} {post : Int32 → (Nat → Nat) → (Nat → Nat) → (Nat → Nat → Nat) → Dt → Prop}   (X : Cx p c s m meth cX13_burst 6 RX13 D tc) (hr : meth.sig.returnType = (Option.some FieldType.int)) (hT : ST h0 sa s s.heap) (hA0 : ∀ q, Am q → h0 ≤ q) (hAm9 : ∀ x, s.heap.size ≤ x → Am x) , ∀ (y0 : Nat) (y1 : Int32) (y2 : Int32) (y3 : Int32) (z0 : Int32) (z1 : Nat) (tS : Nat → Nat) (nS : Nat → Nat) (rS : Nat → Nat → Nat) (wS : Dt) (bS : Nat) (sS : Nat) (H : Heap) (locs : List Loc) (ls : Array Slot) (AS : Nat → Prop) (cells slots : Nat), wp_X13_burst_57 post   y0 y1 y2 y3 z0 z1 tS nS rS wS bS sS → SB D tc (sa 3) AS tS nS rS wS H → (tS y0 = 7) → (tS z1 = 7) → (∀ x, AS x → Am x) → (∀ x, H.size ≤ x → AS x) → Ext t0 tS → cells + bS ≤ b0 → slots + sS ≤ s0 → va_S Am s.heap H locs → lv_has ls 6 [(0, .ref y0), (1, .int y1), (2, .int y2), (3, .int y3)] → W p l e (rm_X13_burst b0 s0) s m args below meth c H locs cells slots (MQ below (QB (fun u : Int32 × (Nat → Nat) × (Nat → Nat) × (Nat → Nat → Nat) × Dt => post u.1 u.2.1 u.2.2.1 u.2.2.2.1 u.2.2.2.2) (fun (u : Int32 × (Nat → Nat) × (Nat → Nat) × (Nat → Nat → Nat) × Dt) (H1 : Heap) => SB D tc (sa 3) Am u.2.1 u.2.2.1 u.2.2.2.1 u.2.2.2.2 H1 ∧ Ext t0 u.2.1) (fun u : Int32 × (Nat → Nat) × (Nat → Nat) × (Nat → Nat → Nat) × Dt => some (.int u.1)) Am) args s (rm_X13_burst b0 s0).cells (rm_X13_burst b0 s0).slots Am) (F0 m 57 ls [.int z0, .ref z1]) := by
  intro p l e s m args below meth c D tc h0 sa Am b0 s0 t0 post   X hr hT hA0 hAm9   y0 y1 y2 y3 z0 z1 tS nS rS wS bS sS H locs ls AS cells slots hw hB hky0 hkz1 hAS hAF hX hc hs hS hl
  have hx := X.1
  have hb := X.2.1
  have hown := X.2.2.2.1
  have hU := X.2.2.2.2.1.1
  unfold wp_X13_burst_57 at hw
  refine lv_iconst (v := 2) hx hb dX13_burst_57 (by decide) ?_
  refine g_after (st0 := [.int 2, .int z0, .ref z1]) (rest := []) (g_V X m_X13_57 (c_X13_fails l D tc h0 sa z1 z0 2 _ hB hkz1 (fun x h => hA0 x (hAS x h)) hw) (recv1 X.2.2.2.2.1 rfl (hB.at (k := 7) hkz1 rfl)) hT hS hA0 dX13_burst_58 hl.1 rfl rfl ⟨Nat.le_of_ble_eq_true rfl, Nat.le_of_ble_eq_true rfl⟩ (Nat.le_of_ble_eq_true rfl) ⟨show cells + 0 ≤ b0 by omega, show slots + 0 ≤ s0 by omega⟩) hS hAS (fun u => .int u.1 :: []) (fun _ => rfl) (fun u H locs hw hP9 hz9 hk9 hS => ?_)
  obtain ⟨r12, wS13⟩ := u
  try dsimp only at hw hP9
  have hB := hP9
  have hAF : ∀ x, H.size ≤ x → AS x := fun x h => hAF x (by omega)
  refine W.widen (k := cells) (n := slots) (Nat.le_refl _) (Nat.le_refl _) ?_
  refine lv_if_ne (tgt := 111) hx hb dX13_burst_61 (by decide) (fun c14 => ?_) (fun c14 => ?_)
  · have hw := hw.1 c14
    exact t_X13_burst_111 X hr hT hA0 hAm9  tS nS rS wS13 bS sS _ _ _ _ _ _ hw hB  hAS hAF hX hc hs hS (lv_sub hl [] rfl)
  · have hw := hw.2 c14
    refine lv_aload_n hx hb dX13_burst_64 rfl (lv_at hl 0 rfl) ?_
    refine lv_iload_n hx hb dX13_burst_65 rfl (lv_at hl 3 rfl) ?_
    refine lv_if_ne (tgt := 73) hx hb dX13_burst_66 (by decide) (fun c15 => ?_) (fun c15 => ?_)
    · have hw := hw.1 c15
      refine lv_iconst (v := 0) hx hb dX13_burst_73 (by decide) ?_
      exact t_X13_burst_74 X hr hT hA0 hAm9  y0 y1 y2 0 y0 tS nS rS wS13 bS sS _ _ _ _ _ _ hw hB hky0 hky0 hAS hAF hX hc hs hS (lv_sub hl [0, 1, 2] rfl)
    · have hw := hw.2 c15
      refine lv_iconst (v := 1) hx hb dX13_burst_69 (by decide) ?_
      refine lv_goto (tgt := 74) hx hb dX13_burst_70 (by decide) ?_
      exact t_X13_burst_74 X hr hT hA0 hAm9  y0 y1 y2 1 y0 tS nS rS wS13 bS sS _ _ _ _ _ _ hw hB hky0 hky0 hAS hAF hX hc hs hS (lv_sub hl [0, 1, 2] rfl)
def wp_X13_burst_35 (post : Int32 → (Nat → Nat) → (Nat → Nat) → (Nat → Nat → Nat) → Dt → Prop)   (y0 : Nat) (y1 : Int32) (y2 : Int32) (z0 : Int32) (tS : Nat → Nat) (nS : Nat → Nat) (rS : Nat → Nat → Nat) (wS : Dt) (bS : Nat) (sS : Nat) : Prop := wp_X13_noBelt (fun r7 wS8 => (¬ r7 = 0 → wp_X13_burst_111 post   tS nS rS wS8 bS sS) ∧ (r7 = 0 → wp_X13_isPlace (fun r10 => (¬ r10 = 0 → wp_X13_burst_57 post   y0 y1 y2 z0 0 y0 tS nS rS wS8 bS sS) ∧ (r10 = 0 → wp_X13_burst_57 post   y0 y1 y2 z0 1 y0 tS nS rS wS8 bS sS)) tS nS rS wS8 y2)) tS nS rS wS y0 y1
set_option maxHeartbeats 4000000 in
set_option maxRecDepth 100000 in
theorem t_X13_burst_35 : ∀ {p : Program} {l : Launch} {e : Env} {s : State} {m : MethodId} {args : Array Value} {below : List Frame} {meth : Method} {c : Code} {D : va_G} {tc : Nat → ClassId} {h0 : Nat} {sa : Nat → Nat} {Am : Nat → Prop} {b0 s0 : Nat} {t0 : Nat → Nat} {post : Int32 → (Nat → Nat) → (Nat → Nat) → (Nat → Nat → Nat) → Dt → Prop}   (X : Cx p c s m meth cX13_burst 6 RX13 D tc) (hr : meth.sig.returnType = (Option.some FieldType.int)) (hT : ST h0 sa s s.heap) (hA0 : ∀ q, Am q → h0 ≤ q) (hAm9 : ∀ x, s.heap.size ≤ x → Am x) , ∀ (y0 : Nat) (y1 : Int32) (y2 : Int32) (z0 : Int32) (tS : Nat → Nat) (nS : Nat → Nat) (rS : Nat → Nat → Nat) (wS : Dt) (bS : Nat) (sS : Nat) (H : Heap) (locs : List Loc) (ls : Array Slot) (AS : Nat → Prop) (cells slots : Nat), wp_X13_burst_35 post   y0 y1 y2 z0 tS nS rS wS bS sS → SB D tc (sa 3) AS tS nS rS wS H → (tS y0 = 7) → (∀ x, AS x → Am x) → (∀ x, H.size ≤ x → AS x) → Ext t0 tS → cells + bS ≤ b0 → slots + sS ≤ s0 → va_S Am s.heap H locs → lv_has ls 6 [(0, .ref y0), (1, .int y1), (2, .int y2)] → W p l e (rm_X13_burst b0 s0) s m args below meth c H locs cells slots (MQ below (QB (fun u : Int32 × (Nat → Nat) × (Nat → Nat) × (Nat → Nat → Nat) × Dt => post u.1 u.2.1 u.2.2.1 u.2.2.2.1 u.2.2.2.2) (fun (u : Int32 × (Nat → Nat) × (Nat → Nat) × (Nat → Nat → Nat) × Dt) (H1 : Heap) => SB D tc (sa 3) Am u.2.1 u.2.2.1 u.2.2.2.1 u.2.2.2.2 H1 ∧ Ext t0 u.2.1) (fun u : Int32 × (Nat → Nat) × (Nat → Nat) × (Nat → Nat → Nat) × Dt => some (.int u.1)) Am) args s (rm_X13_burst b0 s0).cells (rm_X13_burst b0 s0).slots Am) (F0 m 35 ls [.int z0]) := by
  intro p l e s m args below meth c D tc h0 sa Am b0 s0 t0 post   X hr hT hA0 hAm9   y0 y1 y2 z0 tS nS rS wS bS sS H locs ls AS cells slots hw hB hky0 hAS hAF hX hc hs hS hl
  have hx := X.1
  have hb := X.2.1
  have hown := X.2.2.2.1
  have hU := X.2.2.2.2.1.1
  unfold wp_X13_burst_35 at hw
  refine lv_istore_n (lv' := [(3, .int z0), (0, .ref y0), (1, .int y1), (2, .int y2)]) hx hb dX13_burst_35 rfl hl (by decide) rfl (fun ls hl => ?_)
  refine lv_aload_n hx hb dX13_burst_36 rfl (lv_at hl 1 rfl) ?_
  refine lv_iload_n hx hb dX13_burst_37 rfl (lv_at hl 2 rfl) ?_
  refine g_after (st0 := [.int y1, .ref y0]) (rest := []) (g_V X m_X13_102 (c_X13_noBelt l D tc h0 sa y0 y1 _ hB hky0 (fun x h => hA0 x (hAS x h)) hw) (recv1 X.2.2.2.2.1 rfl (hB.at (k := 7) hky0 rfl)) hT hS hA0 dX13_burst_38 hl.1 rfl rfl ⟨Nat.le_of_ble_eq_true rfl, Nat.le_of_ble_eq_true rfl⟩ (Nat.le_of_ble_eq_true rfl) ⟨show cells + 0 ≤ b0 by omega, show slots + 0 ≤ s0 by omega⟩) hS hAS (fun u => .int u.1 :: []) (fun _ => rfl) (fun u H locs hw hP9 hz9 hk9 hS => ?_)
  obtain ⟨r7, wS8⟩ := u
  try dsimp only at hw hP9
  have hB := hP9
  have hAF : ∀ x, H.size ≤ x → AS x := fun x h => hAF x (by omega)
  refine W.widen (k := cells) (n := slots) (Nat.le_refl _) (Nat.le_refl _) ?_
  refine lv_if_ne (tgt := 111) hx hb dX13_burst_41 (by decide) (fun c9 => ?_) (fun c9 => ?_)
  · have hw := hw.1 c9
    exact t_X13_burst_111 X hr hT hA0 hAm9  tS nS rS wS8 bS sS _ _ _ _ _ _ hw hB  hAS hAF hX hc hs hS (lv_sub hl [] rfl)
  · have hw := hw.2 c9
    refine lv_aload_n hx hb dX13_burst_44 rfl (lv_at hl 1 rfl) ?_
    refine lv_iload_n hx hb dX13_burst_45 rfl (lv_at hl 3 rfl) ?_
    refine g_after (st0 := [.int y2, .ref y0]) (rest := [.ref y0]) (g_S X m_X13_148 (c_X13_isPlace l D tc h0 sa y2 _ hB  hw) hT hS hA0 dX13_burst_46 hl.1 rfl rfl ⟨Nat.le_of_ble_eq_true rfl, Nat.le_of_ble_eq_true rfl⟩ (Nat.le_of_ble_eq_true rfl) ⟨show cells + 0 ≤ b0 by omega, show slots + 0 ≤ s0 by omega⟩) hS (fun _ h => h.elim) (fun u => .int u :: [.ref y0]) (fun _ => rfl) (fun u H9 locs hw hP9 hz9 hk9 hS => ?_)
    obtain ⟨r10, rfl⟩ : ∃ z, z = u := ⟨_, rfl⟩
    try dsimp only at hw hP9
    have e9 : H9 = _ := hP9
    rw [e9] at hS ⊢
    refine W.widen (k := cells) (n := slots) (Nat.le_refl _) (Nat.le_refl _) ?_
    refine lv_if_ne (tgt := 56) hx hb dX13_burst_49 (by decide) (fun c11 => ?_) (fun c11 => ?_)
    · have hw := hw.1 c11
      refine lv_iconst (v := 0) hx hb dX13_burst_56 (by decide) ?_
      exact t_X13_burst_57 X hr hT hA0 hAm9  y0 y1 y2 z0 0 y0 tS nS rS wS8 bS sS _ _ _ _ _ _ hw hB hky0 hky0 hAS hAF hX hc hs hS (lv_sub hl [1, 2, 3, 0] rfl)
    · have hw := hw.2 c11
      refine lv_iconst (v := 1) hx hb dX13_burst_52 (by decide) ?_
      refine lv_goto (tgt := 57) hx hb dX13_burst_53 (by decide) ?_
      exact t_X13_burst_57 X hr hT hA0 hAm9  y0 y1 y2 z0 1 y0 tS nS rS wS8 bS sS _ _ _ _ _ _ hw hB hky0 hky0 hAS hAF hX hc hs hS (lv_sub hl [1, 2, 3, 0] rfl)
def wp_X13_burst (post : Int32 → (Nat → Nat) → (Nat → Nat) → (Nat → Nat → Nat) → Dt → Prop)  (tS : Nat → Nat) (nS : Nat → Nat) (rS : Nat → Nat → Nat) (wS : Dt) (bS : Nat) (sS : Nat) (x0 : Nat) (x1 : Int32) (x2 : Int32) : Prop := wp_X13_begins (fun wS1 => (((wS1 (rS (rS x0 1) 0) 9) - (wS1 (rS (rS x0 1) 0) 0)) < 200 → wp_X13_burst_35 post   x0 x1 x2 0 tS nS rS wS1 bS sS) ∧ (¬ ((wS1 (rS (rS x0 1) 0) 9) - (wS1 (rS (rS x0 1) 0) 0)) < 200 → wp_X13_burst_35 post   x0 x1 x2 1 tS nS rS wS1 bS sS)) tS nS rS wS x0
set_option maxHeartbeats 4000000 in
set_option maxRecDepth 100000 in
theorem c_X13_burst (l : Launch) (D : va_G) (tc : Nat → ClassId) (h0 : Nat) (sa : Nat → Nat) (x0 : Nat) (x1 : Int32) (x2 : Int32) (b0 s0 : Nat) {Am : Nat → Prop} (H0 : Heap) {tS nS : Nat → Nat} {rS : Nat → Nat → Nat} {wS : Dt} (hB : SB D tc (sa 3) Am tS nS rS wS H0) (hkx0 : tS x0 = 7) (hA0 : ∀ q, Am q → h0 ≤ q) (hAF : ∀ x, H0.size ≤ x → Am x) {post : Int32 → (Nat → Nat) → (Nat → Nat) → (Nat → Nat → Nat) → Dt → Prop} (hw : wp_X13_burst post  tS nS rS wS b0 s0 x0 x1 x2) : MB l yX13_burst cX13_burst 6 (Option.some FieldType.int) (rm_X13_burst b0 s0) Am [.ref x0, .int x1, .int x2] D tc h0 sa H0 (fun u : Int32 × (Nat → Nat) × (Nat → Nat) × (Nat → Nat → Nat) × Dt => post u.1 u.2.1 u.2.2.1 u.2.2.2.1 u.2.2.2.2) (fun (u : Int32 × (Nat → Nat) × (Nat → Nat) × (Nat → Nat → Nat) × Dt) (H1 : Heap) => SB D tc (sa 3) Am u.2.1 u.2.2.1 u.2.2.2.1 u.2.2.2.2 H1 ∧ Ext tS u.2.1) (fun u : Int32 × (Nat → Nat) × (Nat → Nat) × (Nat → Nat → Nat) × Dt => some (.int u.1)) := by
  refine MB.of RX13 [(0, .ref x0), (1, .int x1), (2, .int x2)] (by decide +kernel) rfl (Nat.le_of_ble_eq_true rfl) rfl ?_
  intro p e s m below meth c ls X hr hin hT hH hS hl
  subst hH
  have hx := X.1
  have hb := X.2.1
  have hown := X.2.2.2.1
  have hU := X.2.2.2.2.1.1
  unfold wp_X13_burst at hw
  obtain ⟨A, eA⟩ : ∃ z, z = Am := ⟨_, rfl⟩
  have hB : SB D tc (sa 3) A tS nS rS wS s.heap := by rw [eA]; exact hB
  have hAm9 := hAF
  have hAF : ∀ x, s.heap.size ≤ x → A x := by rw [eA]; exact hAF
  have hAS : ∀ x, A x → Am x := by rw [eA]; exact fun _ h => h
  have hX : Ext tS tS := Ext.rf
  obtain ⟨bS, ebS⟩ : ∃ z, z = b0 := ⟨_, rfl⟩
  obtain ⟨sS, esS⟩ : ∃ z, z = s0 := ⟨_, rfl⟩
  rw [← ebS, ← esS] at hw
  refine W_bud (b := bS) (s1 := sS) (B := b0) (S := s0) (show 0 + bS ≤ b0 by omega) (show 0 + sS ≤ s0 by omega) (fun cells slots hc hs => ?_)
  refine lv_aload_n hx hb dX13_burst_0 rfl (lv_at hl 0 rfl) ?_
  refine g_after (st0 := [.ref x0]) (rest := []) (g_V X m_X13_61 (c_X13_begins l D tc h0 sa x0 _ hB hkx0 (fun x h => hA0 x (hAS x h)) hw) (recv1 X.2.2.2.2.1 rfl (hB.at (k := 7) hkx0 rfl)) hT hS hA0 dX13_burst_1 hl.1 rfl rfl ⟨Nat.le_of_ble_eq_true rfl, Nat.le_of_ble_eq_true rfl⟩ (Nat.le_of_ble_eq_true rfl) ⟨show cells + 0 ≤ b0 by omega, show slots + 0 ≤ s0 by omega⟩) hS hAS (fun u => []) (fun _ => rfl) (fun u H locs hw hP9 hz9 hk9 hS => ?_)
  obtain ⟨wS1, rfl⟩ : ∃ z, z = u := ⟨_, rfl⟩
  try dsimp only at hw hP9
  have hB := hP9
  have hAF : ∀ x, H.size ≤ x → A x := fun x h => hAF x (by omega)
  refine W.widen (k := cells) (n := slots) (Nat.le_refl _) (Nat.le_refl _) ?_
  refine lv_aload_n hx hb dX13_burst_4 rfl (lv_at hl 0 rfl) ?_
  refine g_get X dX13_burst_5 f_X13_34 (hB.one (k := 7) hkx0 rfl) 0 (v := .ref (rS x0 1)) rfl rfl ?_
  have k2 : tS (rS x0 1) = 4 := (hB.wtk hkx0).1
  refine g_getN X dX13_burst_8 f_X13_51 (hB.one (k := 4) k2 rfl) 0 (v := .ref (rS (rS x0 1) 0)) rfl rfl ?_
  have k3 : tS (rS (rS x0 1) 0) = 1 := (hB.wtk k2).1
  refine lv_bipush (v := 9) hx hb dX13_burst_11 (by decide) ?_
  refine g_iald X dX13_burst_13 (hB.one (k := 1) k3 rfl) 0 rfl (by unfold vp_in; decide) (k := 9) (by decide) ?_
  refine lv_aload_n hx hb dX13_burst_14 rfl (lv_at hl 0 rfl) ?_
  refine g_get X dX13_burst_15 f_X13_34 (hB.one (k := 7) hkx0 rfl) 0 (v := .ref (rS x0 1)) rfl rfl ?_
  have k4 : tS (rS x0 1) = 4 := (hB.wtk hkx0).1
  refine g_getN X dX13_burst_18 f_X13_51 (hB.one (k := 4) k4 rfl) 0 (v := .ref (rS (rS x0 1) 0)) rfl rfl ?_
  have k5 : tS (rS (rS x0 1) 0) = 1 := (hB.wtk k4).1
  refine lv_iconst (v := 0) hx hb dX13_burst_21 (by decide) ?_
  refine g_iald X dX13_burst_22 (hB.one (k := 1) k5 rfl) 0 rfl (by unfold vp_in; decide) (k := 0) (by decide) ?_
  refine lv_isub hx hb dX13_burst_23 ?_
  refine lv_sipush (v := 200) hx hb dX13_burst_24 (by decide) ?_
  refine lv_icmp_lt (tgt := 34) hx hb dX13_burst_27 (by decide) (fun c6 => ?_) (fun c6 => ?_)
  · have hw := hw.1 c6
    refine lv_iconst (v := 0) hx hb dX13_burst_34 (by decide) ?_
    exact t_X13_burst_35 X hr hT hA0 hAm9  x0 x1 x2 0 tS nS rS wS1 bS sS _ _ _ _ _ _ hw hB hkx0 hAS hAF hX hc hs hS (lv_sub hl [0, 1, 2] rfl)
  · have hw := hw.2 c6
    refine lv_iconst (v := 1) hx hb dX13_burst_30 (by decide) ?_
    refine lv_goto (tgt := 35) hx hb dX13_burst_31 (by decide) ?_
    exact t_X13_burst_35 X hr hT hA0 hAm9  x0 x1 x2 1 tS nS rS wS1 bS sS _ _ _ _ _ _ hw hB hkx0 hAS hAF hX hc hs hS (lv_sub hl [0, 1, 2] rfl)
abbrev rm_X13_strike (b0 s0 : Nat) : Room := { frames := 8, cells := b0, slots := s0, locals := 213 }
def wp_X13_strike_74 (post : Int32 → (Nat → Nat) → (Nat → Nat) → (Nat → Nat → Nat) → Dt → Prop)   (tS : Nat → Nat) (nS : Nat → Nat) (rS : Nat → Nat → Nat) (wS : Dt) (bS : Nat) (sS : Nat) : Prop := post (-1) tS nS rS wS
set_option maxHeartbeats 4000000 in
set_option maxRecDepth 100000 in
theorem t_X13_strike_74 : ∀ {p : Program} {l : Launch} {e : Env} {s : State} {m : MethodId} {args : Array Value} {below : List Frame} {meth : Method} {c : Code} {D : va_G} {tc : Nat → ClassId} {h0 : Nat} {sa : Nat → Nat} {Am : Nat → Prop} {b0 s0 : Nat} {t0 : Nat → Nat} {post : Int32 → (Nat → Nat) → (Nat → Nat) → (Nat → Nat → Nat) → Dt → Prop}   (X : Cx p c s m meth cX13_strike 4 RX13 D tc) (hr : meth.sig.returnType = (Option.some FieldType.int)) (hT : ST h0 sa s s.heap) (hA0 : ∀ q, Am q → h0 ≤ q) (hAm9 : ∀ x, s.heap.size ≤ x → Am x) , ∀ (tS : Nat → Nat) (nS : Nat → Nat) (rS : Nat → Nat → Nat) (wS : Dt) (bS : Nat) (sS : Nat) (H : Heap) (locs : List Loc) (ls : Array Slot) (AS : Nat → Prop) (cells slots : Nat), wp_X13_strike_74 post   tS nS rS wS bS sS → SB D tc (sa 3) AS tS nS rS wS H → (∀ x, AS x → Am x) → (∀ x, H.size ≤ x → AS x) → Ext t0 tS → cells + bS ≤ b0 → slots + sS ≤ s0 → va_S Am s.heap H locs → lv_has ls 4 [] → W p l e (rm_X13_strike b0 s0) s m args below meth c H locs cells slots (MQ below (QB (fun u : Int32 × (Nat → Nat) × (Nat → Nat) × (Nat → Nat → Nat) × Dt => post u.1 u.2.1 u.2.2.1 u.2.2.2.1 u.2.2.2.2) (fun (u : Int32 × (Nat → Nat) × (Nat → Nat) × (Nat → Nat → Nat) × Dt) (H1 : Heap) => SB D tc (sa 3) Am u.2.1 u.2.2.1 u.2.2.2.1 u.2.2.2.2 H1 ∧ Ext t0 u.2.1) (fun u : Int32 × (Nat → Nat) × (Nat → Nat) × (Nat → Nat → Nat) × Dt => some (.int u.1)) Am) args s (rm_X13_strike b0 s0).cells (rm_X13_strike b0 s0).slots Am) (F0 m 74 ls []) := by
  intro p l e s m args below meth c D tc h0 sa Am b0 s0 t0 post   X hr hT hA0 hAm9   tS nS rS wS bS sS H locs ls AS cells slots hw hB  hAS hAF hX hc hs hS hl
  have hx := X.1
  have hb := X.2.1
  have hown := X.2.2.2.1
  have hU := X.2.2.2.2.1.1
  unfold wp_X13_strike_74 at hw
  refine lv_iconst (v := (-1)) hx hb dX13_strike_74 (by decide) ?_
  exact e_i X hr dX13_strike_75 hS ((-1), tS, nS, rS, wS) rfl hw ⟨hB.regs hAS, hX⟩ ⟨show cells ≤ b0 by omega, show slots ≤ s0 by omega⟩
def wp_X13_strike_67 (post : Int32 → (Nat → Nat) → (Nat → Nat) → (Nat → Nat → Nat) → Dt → Prop)   (y0 : Nat) (y1 : Int32) (y3 : Int32) (z0 : Int32) (z1 : Nat) (tS : Nat → Nat) (nS : Nat → Nat) (rS : Nat → Nat → Nat) (wS : Dt) (bS : Nat) (sS : Nat) : Prop := wp_X13_fails (fun r13 wS14 => (r13 = 0 → 1 ≤ bS ∧ (3 ≤ sS ∧ (∀ q20 : Nat, tS q20 = 0 → (∀ tS23 : Nat → Nat, tS23 = va_up tS q20 23 → (∀ wS24 : Dt, wS24 = va_up wS14 q20 (fun _ => 0) → (∀ wS27 : Dt, wS27 = up2 wS24 q20 0 y1 → (∀ wS28 : Dt, wS28 = up2 wS27 q20 1 y3 → (∀ wS29 : Dt, wS29 = up2 wS28 q20 2 y3 → (nS (rS (rS y0 1) 9) < 400 ∧ (1 ≤ (bS - 1) ∧ ((2 * (nS (rS (rS y0 1) 9)) + 10) ≤ (sS - 3) ∧ (∀ nS33 : Nat → Nat, nS33 = va_up nS (rS (rS y0 1) 9) (nS (rS (rS y0 1) 9) + 1) → (∀ rS34 : Nat → Nat → Nat, rS34 = va_up rS (rS (rS y0 1) 9) (va_up (rS (rS (rS y0 1) 9)) (nS (rS (rS y0 1) 9)) q20) → (∀ wS35 : Dt, wS35 = up2 wS29 (rS (rS y0 1) 9) 0 (wS29 (rS (rS y0 1) 9) 0 + 1) → (∃ b39 s40 : Nat, b39 ≤ ((bS - 1) - 1) ∧ s40 ≤ ((sS - 3) - (2 * (nS (rS (rS y0 1) 9)) + 10)) ∧ (wp_X12_notes (fun tS43 nS44 rS45 wS46 => post ((nI (nS44 (rS45 (rS45 y0 1) 9))) - 1) tS43 nS44 rS45 wS46) tS23 nS33 rS34 wS35 b39 s40 (rS34 y0 1) 107 ((nI (nS33 (rS34 (rS34 y0 1) 9))) - 1))))))))))))))))) ∧ (¬ r13 = 0 → wp_X13_strike_74 post   tS nS rS wS14 bS sS)) tS nS rS wS z1 z0 3
set_option maxHeartbeats 4000000 in
set_option maxRecDepth 100000 in
theorem t_X13_strike_67 : ∀ {p : Program} {l : Launch} {e : Env} {s : State} {m : MethodId} {args : Array Value} {below : List Frame} {meth : Method} {c : Code} {D : va_G} {tc : Nat → ClassId} {h0 : Nat} {sa : Nat → Nat} {Am : Nat → Prop} {b0 s0 : Nat} {t0 : Nat → Nat} {post : Int32 → (Nat → Nat) → (Nat → Nat) → (Nat → Nat → Nat) → Dt → Prop}   (X : Cx p c s m meth cX13_strike 4 RX13 D tc) (hr : meth.sig.returnType = (Option.some FieldType.int)) (hT : ST h0 sa s s.heap) (hA0 : ∀ q, Am q → h0 ≤ q) (hAm9 : ∀ x, s.heap.size ≤ x → Am x) , ∀ (y0 : Nat) (y1 : Int32) (y3 : Int32) (z0 : Int32) (z1 : Nat) (tS : Nat → Nat) (nS : Nat → Nat) (rS : Nat → Nat → Nat) (wS : Dt) (bS : Nat) (sS : Nat) (H : Heap) (locs : List Loc) (ls : Array Slot) (AS : Nat → Prop) (cells slots : Nat), wp_X13_strike_67 post   y0 y1 y3 z0 z1 tS nS rS wS bS sS → SB D tc (sa 3) AS tS nS rS wS H → (tS y0 = 7) → (tS z1 = 7) → (∀ x, AS x → Am x) → (∀ x, H.size ≤ x → AS x) → Ext t0 tS → cells + bS ≤ b0 → slots + sS ≤ s0 → va_S Am s.heap H locs → lv_has ls 4 [(0, .ref y0), (1, .int y1), (3, .int y3)] → W p l e (rm_X13_strike b0 s0) s m args below meth c H locs cells slots (MQ below (QB (fun u : Int32 × (Nat → Nat) × (Nat → Nat) × (Nat → Nat → Nat) × Dt => post u.1 u.2.1 u.2.2.1 u.2.2.2.1 u.2.2.2.2) (fun (u : Int32 × (Nat → Nat) × (Nat → Nat) × (Nat → Nat → Nat) × Dt) (H1 : Heap) => SB D tc (sa 3) Am u.2.1 u.2.2.1 u.2.2.2.1 u.2.2.2.2 H1 ∧ Ext t0 u.2.1) (fun u : Int32 × (Nat → Nat) × (Nat → Nat) × (Nat → Nat → Nat) × Dt => some (.int u.1)) Am) args s (rm_X13_strike b0 s0).cells (rm_X13_strike b0 s0).slots Am) (F0 m 67 ls [.int z0, .ref z1]) := by
  intro p l e s m args below meth c D tc h0 sa Am b0 s0 t0 post   X hr hT hA0 hAm9   y0 y1 y3 z0 z1 tS nS rS wS bS sS H locs ls AS cells slots hw hB hky0 hkz1 hAS hAF hX hc hs hS hl
  have hx := X.1
  have hb := X.2.1
  have hown := X.2.2.2.1
  have hU := X.2.2.2.2.1.1
  unfold wp_X13_strike_67 at hw
  refine lv_iconst (v := 3) hx hb dX13_strike_67 (by decide) ?_
  refine g_after (st0 := [.int 3, .int z0, .ref z1]) (rest := []) (g_V X m_X13_57 (c_X13_fails l D tc h0 sa z1 z0 3 _ hB hkz1 (fun x h => hA0 x (hAS x h)) hw) (recv1 X.2.2.2.2.1 rfl (hB.at (k := 7) hkz1 rfl)) hT hS hA0 dX13_strike_68 hl.1 rfl rfl ⟨Nat.le_of_ble_eq_true rfl, Nat.le_of_ble_eq_true rfl⟩ (Nat.le_of_ble_eq_true rfl) ⟨show cells + 0 ≤ b0 by omega, show slots + 0 ≤ s0 by omega⟩) hS hAS (fun u => .int u.1 :: []) (fun _ => rfl) (fun u H locs hw hP9 hz9 hk9 hS => ?_)
  obtain ⟨r13, wS14⟩ := u
  try dsimp only at hw hP9
  have hB := hP9
  have hAF : ∀ x, H.size ≤ x → AS x := fun x h => hAF x (by omega)
  refine W.widen (k := cells) (n := slots) (Nat.le_refl _) (Nat.le_refl _) ?_
  refine lv_if_eq (tgt := 76) hx hb dX13_strike_71 (by decide) (fun c15 => ?_) (fun c15 => ?_)
  · have hw := hw.1 c15
    refine lv_aload_n hx hb dX13_strike_76 rfl (lv_at hl 0 rfl) ?_
    refine g_get X dX13_strike_77 f_X13_34 (hB.one (k := 7) hky0 rfl) 0 (v := .ref (rS y0 1)) rfl rfl ?_
    have k16 : tS (rS y0 1) = 4 := (hB.wtk hky0).1
    refine g_getN X dX13_strike_80 f_X13_201 (hB.one (k := 4) k16 rfl) 0 (v := .ref (rS (rS y0 1) 9)) rfl rfl ?_
    have k17 : tS (rS (rS y0 1) 9) = 9 := (hB.wtk k16).2.2.2.2.2.1
    refine lv_iconst (v := 3) hx hb dX13_strike_83 (by decide) ?_
    obtain ⟨o18, hw⟩ := hw
    obtain ⟨o19, hw⟩ := hw
    refine x_newa (A := Am) (n := 3) (N := 3) X (by decide) rfl (by decide) hS hAm9 ⟨show cells + 1 ≤ b0 by omega, show slots + 3 ≤ s0 by omega⟩ dX13_strike_84 (fun q20 H hq9 hat9 hAq hz9 hqz o1 hS => ?_)
    obtain ⟨z21, hB, hX9, k22⟩ := hB.make (k := 23) (W := (fun _ => 0)) (hAF q20 hq9) hq9 o1 rfl hat9 trivial
    have hAF : ∀ x, H.size ≤ x → AS x := fun x h => hAF x (by omega)
    have hw := hw q20 z21
    obtain ⟨tS23, etS23⟩ : ∃ z : Nat → Nat, z = va_up tS q20 23 := ⟨_, rfl⟩
    rw [← etS23] at hB hX9 k22
    have hw := hw tS23 etS23
    obtain ⟨wS24, ewS24⟩ : ∃ z : Dt, z = va_up wS14 q20 (fun _ => 0) := ⟨_, rfl⟩
    rw [← ewS24] at hB
    have hw := hw wS24 ewS24
    have hX := hX.trans hX9
    have k25 : tS23 y0 = 7 := hX9.to hky0
    have k26 : tS23 (rS (rS y0 1) 9) = 9 := hX9.to k17
    refine W_bud (b := (bS - 1)) (s1 := (sS - 3)) (B := b0) (S := s0) (show (cells + 1) + (bS - 1) ≤ b0 by omega) (show (slots + 3) + (sS - 3) ≤ s0 by omega) (fun cells slots hc hs => ?_)
    refine lv_dup hx hb dX13_strike_86 rfl ?_
    refine lv_iconst (v := 0) hx hb dX13_strike_87 (by decide) ?_
    refine lv_iload_n hx hb dX13_strike_88 rfl (lv_at hl 1 rfl) ?_
    refine g_iast X dX13_strike_89 (hB.oneB (k := 23) hAS k22 rfl) hS 0 rfl (by unfold vp_in; decide) (k := 0) (by decide) (fun H locs hb9 oq hS => ?_)
    have hB := hB.putB k22 rfl hb9 oq
    have hAF : ∀ x, H.size ≤ x → AS x := fun x h => hAF x (Nat.le_trans (sz_of oq (hB.lt (by rw [k22]; decide)).1) h)
    obtain ⟨wS27, ewS27⟩ : ∃ z : Dt, z = up2 wS24 q20 0 y1 := ⟨_, rfl⟩
    rw [← ewS27] at hB
    have hw := hw wS27 ewS27
    refine lv_dup hx hb dX13_strike_90 rfl ?_
    refine lv_iconst (v := 1) hx hb dX13_strike_91 (by decide) ?_
    refine lv_iload_n hx hb dX13_strike_92 rfl (lv_at hl 2 rfl) ?_
    refine g_iast X dX13_strike_93 (hB.oneB (k := 23) hAS k22 rfl) hS 0 rfl (by unfold vp_in; decide) (k := 1) (by decide) (fun H locs hb9 oq hS => ?_)
    have hB := hB.putB k22 rfl hb9 oq
    have hAF : ∀ x, H.size ≤ x → AS x := fun x h => hAF x (Nat.le_trans (sz_of oq (hB.lt (by rw [k22]; decide)).1) h)
    obtain ⟨wS28, ewS28⟩ : ∃ z : Dt, z = up2 wS27 q20 1 y3 := ⟨_, rfl⟩
    rw [← ewS28] at hB
    have hw := hw wS28 ewS28
    refine lv_dup hx hb dX13_strike_94 rfl ?_
    refine lv_iconst (v := 2) hx hb dX13_strike_95 (by decide) ?_
    refine lv_iload_n hx hb dX13_strike_96 rfl (lv_at hl 2 rfl) ?_
    refine g_iast X dX13_strike_97 (hB.oneB (k := 23) hAS k22 rfl) hS 0 rfl (by unfold vp_in; decide) (k := 2) (by decide) (fun H locs hb9 oq hS => ?_)
    have hB := hB.putB k22 rfl hb9 oq
    have hAF : ∀ x, H.size ≤ x → AS x := fun x h => hAF x (Nat.le_trans (sz_of oq (hB.lt (by rw [k22]; decide)).1) h)
    obtain ⟨wS29, ewS29⟩ : ∃ z : Dt, z = up2 wS28 q20 2 y3 := ⟨_, rfl⟩
    rw [← ewS29] at hB
    have hw := hw wS29 ewS29
    obtain ⟨fs9, hat9⟩ := hB.lat (isL_of k26)
    obtain ⟨o30, hw⟩ := hw
    obtain ⟨o31, hw⟩ := hw
    obtain ⟨o32, hw⟩ := hw
    refine g_after5 (st0 := [.ref q20, .ref (rS (rS y0 1) 9)]) (rest := []) (g_F X mf_X13_142 (c_add l D tc h0 sa _ (rS (rS y0 1) 9) q20 hB (isL_of k26) (by rw [k26, k22]; rfl) o30 (fun x h => hA0 x (hAS x h)) hAF) rfl hat9 hT hS hA0 dX13_strike_98 hl.1 rfl rfl ⟨Nat.le_of_ble_eq_true rfl, Nat.le_of_ble_eq_true rfl⟩ (Nat.le_of_ble_eq_true rfl) ⟨show cells + 1 ≤ b0 by omega, show slots + (2 * (nS (rS (rS y0 1) 9)) + 10) ≤ s0 by omega⟩) hS hAS (fun u => .int 1 :: []) (fun _ => rfl) (fun u H locs hu hP9 hz9 hk9 hS => ?_)
    have hB := hP9
    have hAF : ∀ x, H.size ≤ x → AS x := fun x h => hAF x (by omega)
    refine W_bud (b := ((bS - 1) - 1)) (s1 := ((sS - 3) - (2 * (nS (rS (rS y0 1) 9)) + 10))) (B := b0) (S := s0) (show (cells + 1) + ((bS - 1) - 1) ≤ b0 by omega) (show (slots + (2 * (nS (rS (rS y0 1) 9)) + 10)) + ((sS - 3) - (2 * (nS (rS (rS y0 1) 9)) + 10)) ≤ s0 by omega) (fun cells slots hc hs => ?_)
    obtain ⟨nS33, enS33⟩ : ∃ z : Nat → Nat, z = va_up nS (rS (rS y0 1) 9) (nS (rS (rS y0 1) 9) + 1) := ⟨_, rfl⟩
    rw [← enS33] at hB
    have hw := hw nS33 enS33
    obtain ⟨rS34, erS34⟩ : ∃ z : Nat → Nat → Nat, z = va_up rS (rS (rS y0 1) 9) (va_up (rS (rS (rS y0 1) 9)) (nS (rS (rS y0 1) 9)) q20) := ⟨_, rfl⟩
    rw [← erS34] at hB
    have hw := hw rS34 erS34
    obtain ⟨wS35, ewS35⟩ : ∃ z : Dt, z = up2 wS29 (rS (rS y0 1) 9) 0 (wS29 (rS (rS y0 1) 9) 0 + 1) := ⟨_, rfl⟩
    rw [← ewS35] at hB
    have hw := hw wS35 ewS35
    refine lv_pop hx hb dX13_strike_103 rfl ?_
    refine lv_aload_n hx hb dX13_strike_104 rfl (lv_at hl 0 rfl) ?_
    refine g_get X dX13_strike_105 f_X13_34 (hB.one (k := 7) k25 rfl) 0 (v := .ref (rS34 y0 1)) rfl rfl ?_
    have k36 : tS23 (rS34 y0 1) = 4 := (hB.wtk k25).1
    refine lv_bipush (v := 107) hx hb dX13_strike_108 (by decide) ?_
    refine lv_aload_n hx hb dX13_strike_110 rfl (lv_at hl 0 rfl) ?_
    refine g_get X dX13_strike_111 f_X13_34 (hB.one (k := 7) k25 rfl) 0 (v := .ref (rS34 y0 1)) rfl rfl ?_
    have k37 : tS23 (rS34 y0 1) = 4 := (hB.wtk k25).1
    refine g_getN X dX13_strike_114 f_X13_201 (hB.one (k := 4) k37 rfl) 0 (v := .ref (rS34 (rS34 y0 1) 9)) rfl rfl ?_
    have k38 : tS23 (rS34 (rS34 y0 1) 9) = 9 := (hB.wtk k37).2.2.2.2.2.1
    obtain ⟨fs9, hat9⟩ := hB.lat (isL_of k38)
    refine g_after5 (st0 := [.ref (rS34 (rS34 y0 1) 9), .int 107, .ref (rS34 y0 1)]) (rest := [.int 107, .ref (rS34 y0 1)]) (g_F X mf_X13_7 (c_size l D tc h0 sa _ (rS34 (rS34 y0 1) 9) hB (isL_of k38)) rfl hat9 hT hS hA0 dX13_strike_117 hl.1 rfl rfl ⟨Nat.le_of_ble_eq_true rfl, Nat.le_of_ble_eq_true rfl⟩ (Nat.le_of_ble_eq_true rfl) ⟨show cells + 0 ≤ b0 by omega, show slots + 0 ≤ s0 by omega⟩) hS (fun _ h => h.elim) (fun u => .int (nI (nS33 (rS34 (rS34 y0 1) 9))) :: [.int 107, .ref (rS34 y0 1)]) (fun _ => rfl) (fun u H9 locs hu hP9 hz9 hk9 hS => ?_)
    have e9 : H9 = _ := hP9
    rw [e9] at hS ⊢
    refine W.widen (k := cells) (n := slots) (Nat.le_refl _) (Nat.le_refl _) ?_
    refine lv_iconst (v := 1) hx hb dX13_strike_122 (by decide) ?_
    refine lv_isub hx hb dX13_strike_123 ?_
    obtain ⟨b39, s40, o41, o42, hw⟩ := hw
    refine g_after (st0 := [.int ((nI (nS33 (rS34 (rS34 y0 1) 9))) - 1), .int 107, .ref (rS34 y0 1)]) (rest := []) (g_V X m_X13_195 (c_X12_notes l D tc h0 sa (rS34 y0 1) 107 ((nI (nS33 (rS34 (rS34 y0 1) 9))) - 1) b39 s40 _ hB k36 (fun x h => hA0 x (hAS x h)) hAF hw) (recv1 X.2.2.2.2.1 rfl (hB.at (k := 4) k36 rfl)) hT hS hA0 dX13_strike_124 hl.1 rfl rfl ⟨Nat.le_of_ble_eq_true rfl, Nat.le_of_ble_eq_true rfl⟩ (Nat.le_of_ble_eq_true rfl) ⟨show cells + b39 ≤ b0 by omega, show slots + s40 ≤ s0 by omega⟩) hS hAS (fun u => []) (fun _ => rfl) (fun u H locs hw hP9 hz9 hk9 hS => ?_)
    obtain ⟨tS43, nS44, rS45, wS46⟩ := u
    try dsimp only at hw hP9
    obtain ⟨hB, hX9⟩ := hP9
    have hAF : ∀ x, H.size ≤ x → AS x := fun x h => hAF x (by omega)
    have hX := hX.trans hX9
    refine W_bud (b := (((bS - 1) - 1) - b39)) (s1 := (((sS - 3) - (2 * (nS (rS (rS y0 1) 9)) + 10)) - s40)) (B := b0) (S := s0) (show (cells + b39) + (((bS - 1) - 1) - b39) ≤ b0 by omega) (show (slots + s40) + (((sS - 3) - (2 * (nS (rS (rS y0 1) 9)) + 10)) - s40) ≤ s0 by omega) (fun cells slots hc hs => ?_)
    have k47 : tS43 y0 = 7 := hX9.to k25
    refine lv_aload_n hx hb dX13_strike_127 rfl (lv_at hl 0 rfl) ?_
    refine g_get X dX13_strike_128 f_X13_34 (hB.one (k := 7) k47 rfl) 0 (v := .ref (rS45 y0 1)) rfl rfl ?_
    have k48 : tS43 (rS45 y0 1) = 4 := (hB.wtk k47).1
    refine g_getN X dX13_strike_131 f_X13_201 (hB.one (k := 4) k48 rfl) 0 (v := .ref (rS45 (rS45 y0 1) 9)) rfl rfl ?_
    have k49 : tS43 (rS45 (rS45 y0 1) 9) = 9 := (hB.wtk k48).2.2.2.2.2.1
    obtain ⟨fs9, hat9⟩ := hB.lat (isL_of k49)
    refine g_after5 (st0 := [.ref (rS45 (rS45 y0 1) 9)]) (rest := []) (g_F X mf_X13_7 (c_size l D tc h0 sa _ (rS45 (rS45 y0 1) 9) hB (isL_of k49)) rfl hat9 hT hS hA0 dX13_strike_134 hl.1 rfl rfl ⟨Nat.le_of_ble_eq_true rfl, Nat.le_of_ble_eq_true rfl⟩ (Nat.le_of_ble_eq_true rfl) ⟨show cells + 0 ≤ b0 by omega, show slots + 0 ≤ s0 by omega⟩) hS (fun _ h => h.elim) (fun u => .int (nI (nS44 (rS45 (rS45 y0 1) 9))) :: []) (fun _ => rfl) (fun u H9 locs hu hP9 hz9 hk9 hS => ?_)
    have e9 : H9 = _ := hP9
    rw [e9] at hS ⊢
    refine W.widen (k := cells) (n := slots) (Nat.le_refl _) (Nat.le_refl _) ?_
    refine lv_iconst (v := 1) hx hb dX13_strike_139 (by decide) ?_
    refine lv_isub hx hb dX13_strike_140 ?_
    exact e_i X hr dX13_strike_141 hS (((nI (nS44 (rS45 (rS45 y0 1) 9))) - 1), tS43, nS44, rS45, wS46) rfl hw ⟨hB.regs hAS, hX⟩ ⟨show cells ≤ b0 by omega, show slots ≤ s0 by omega⟩
  · have hw := hw.2 c15
    exact t_X13_strike_74 X hr hT hA0 hAm9  tS nS rS wS14 bS sS _ _ _ _ _ _ hw hB  hAS hAF hX hc hs hS (lv_sub hl [] rfl)
def wp_X13_strike_37 (post : Int32 → (Nat → Nat) → (Nat → Nat) → (Nat → Nat → Nat) → Dt → Prop)   (y0 : Nat) (y1 : Int32) (y3 : Int32) (z0 : Int32) (z1 : Nat) (tS : Nat → Nat) (nS : Nat → Nat) (rS : Nat → Nat → Nat) (wS : Dt) (bS : Nat) (sS : Nat) : Prop := wp_X13_fails (fun r7 wS8 => (¬ r7 = 0 → wp_X13_strike_74 post   tS nS rS wS8 bS sS) ∧ (r7 = 0 → (¬ (nI (nS (rS (rS y0 1) 9))) = 8 → wp_X13_strike_67 post   y0 y1 y3 0 y0 tS nS rS wS8 bS sS) ∧ ((nI (nS (rS (rS y0 1) 9))) = 8 → wp_X13_strike_67 post   y0 y1 y3 1 y0 tS nS rS wS8 bS sS))) tS nS rS wS z1 z0 2
set_option maxHeartbeats 4000000 in
set_option maxRecDepth 100000 in
theorem t_X13_strike_37 : ∀ {p : Program} {l : Launch} {e : Env} {s : State} {m : MethodId} {args : Array Value} {below : List Frame} {meth : Method} {c : Code} {D : va_G} {tc : Nat → ClassId} {h0 : Nat} {sa : Nat → Nat} {Am : Nat → Prop} {b0 s0 : Nat} {t0 : Nat → Nat} {post : Int32 → (Nat → Nat) → (Nat → Nat) → (Nat → Nat → Nat) → Dt → Prop}   (X : Cx p c s m meth cX13_strike 4 RX13 D tc) (hr : meth.sig.returnType = (Option.some FieldType.int)) (hT : ST h0 sa s s.heap) (hA0 : ∀ q, Am q → h0 ≤ q) (hAm9 : ∀ x, s.heap.size ≤ x → Am x) , ∀ (y0 : Nat) (y1 : Int32) (y3 : Int32) (z0 : Int32) (z1 : Nat) (tS : Nat → Nat) (nS : Nat → Nat) (rS : Nat → Nat → Nat) (wS : Dt) (bS : Nat) (sS : Nat) (H : Heap) (locs : List Loc) (ls : Array Slot) (AS : Nat → Prop) (cells slots : Nat), wp_X13_strike_37 post   y0 y1 y3 z0 z1 tS nS rS wS bS sS → SB D tc (sa 3) AS tS nS rS wS H → (tS y0 = 7) → (tS z1 = 7) → (∀ x, AS x → Am x) → (∀ x, H.size ≤ x → AS x) → Ext t0 tS → cells + bS ≤ b0 → slots + sS ≤ s0 → va_S Am s.heap H locs → lv_has ls 4 [(0, .ref y0), (1, .int y1), (3, .int y3)] → W p l e (rm_X13_strike b0 s0) s m args below meth c H locs cells slots (MQ below (QB (fun u : Int32 × (Nat → Nat) × (Nat → Nat) × (Nat → Nat → Nat) × Dt => post u.1 u.2.1 u.2.2.1 u.2.2.2.1 u.2.2.2.2) (fun (u : Int32 × (Nat → Nat) × (Nat → Nat) × (Nat → Nat → Nat) × Dt) (H1 : Heap) => SB D tc (sa 3) Am u.2.1 u.2.2.1 u.2.2.2.1 u.2.2.2.2 H1 ∧ Ext t0 u.2.1) (fun u : Int32 × (Nat → Nat) × (Nat → Nat) × (Nat → Nat → Nat) × Dt => some (.int u.1)) Am) args s (rm_X13_strike b0 s0).cells (rm_X13_strike b0 s0).slots Am) (F0 m 37 ls [.int z0, .ref z1]) := by
  intro p l e s m args below meth c D tc h0 sa Am b0 s0 t0 post   X hr hT hA0 hAm9   y0 y1 y3 z0 z1 tS nS rS wS bS sS H locs ls AS cells slots hw hB hky0 hkz1 hAS hAF hX hc hs hS hl
  have hx := X.1
  have hb := X.2.1
  have hown := X.2.2.2.1
  have hU := X.2.2.2.2.1.1
  unfold wp_X13_strike_37 at hw
  refine lv_iconst (v := 2) hx hb dX13_strike_37 (by decide) ?_
  refine g_after (st0 := [.int 2, .int z0, .ref z1]) (rest := []) (g_V X m_X13_57 (c_X13_fails l D tc h0 sa z1 z0 2 _ hB hkz1 (fun x h => hA0 x (hAS x h)) hw) (recv1 X.2.2.2.2.1 rfl (hB.at (k := 7) hkz1 rfl)) hT hS hA0 dX13_strike_38 hl.1 rfl rfl ⟨Nat.le_of_ble_eq_true rfl, Nat.le_of_ble_eq_true rfl⟩ (Nat.le_of_ble_eq_true rfl) ⟨show cells + 0 ≤ b0 by omega, show slots + 0 ≤ s0 by omega⟩) hS hAS (fun u => .int u.1 :: []) (fun _ => rfl) (fun u H locs hw hP9 hz9 hk9 hS => ?_)
  obtain ⟨r7, wS8⟩ := u
  try dsimp only at hw hP9
  have hB := hP9
  have hAF : ∀ x, H.size ≤ x → AS x := fun x h => hAF x (by omega)
  refine W.widen (k := cells) (n := slots) (Nat.le_refl _) (Nat.le_refl _) ?_
  refine lv_if_ne (tgt := 74) hx hb dX13_strike_41 (by decide) (fun c9 => ?_) (fun c9 => ?_)
  · have hw := hw.1 c9
    exact t_X13_strike_74 X hr hT hA0 hAm9  tS nS rS wS8 bS sS _ _ _ _ _ _ hw hB  hAS hAF hX hc hs hS (lv_sub hl [] rfl)
  · have hw := hw.2 c9
    refine lv_aload_n hx hb dX13_strike_44 rfl (lv_at hl 0 rfl) ?_
    refine lv_aload_n hx hb dX13_strike_45 rfl (lv_at hl 0 rfl) ?_
    refine g_get X dX13_strike_46 f_X13_34 (hB.one (k := 7) hky0 rfl) 0 (v := .ref (rS y0 1)) rfl rfl ?_
    have k10 : tS (rS y0 1) = 4 := (hB.wtk hky0).1
    refine g_getN X dX13_strike_49 f_X13_201 (hB.one (k := 4) k10 rfl) 0 (v := .ref (rS (rS y0 1) 9)) rfl rfl ?_
    have k11 : tS (rS (rS y0 1) 9) = 9 := (hB.wtk k10).2.2.2.2.2.1
    obtain ⟨fs9, hat9⟩ := hB.lat (isL_of k11)
    refine g_after5 (st0 := [.ref (rS (rS y0 1) 9), .ref y0]) (rest := [.ref y0]) (g_F X mf_X13_7 (c_size l D tc h0 sa _ (rS (rS y0 1) 9) hB (isL_of k11)) rfl hat9 hT hS hA0 dX13_strike_52 hl.1 rfl rfl ⟨Nat.le_of_ble_eq_true rfl, Nat.le_of_ble_eq_true rfl⟩ (Nat.le_of_ble_eq_true rfl) ⟨show cells + 0 ≤ b0 by omega, show slots + 0 ≤ s0 by omega⟩) hS (fun _ h => h.elim) (fun u => .int (nI (nS (rS (rS y0 1) 9))) :: [.ref y0]) (fun _ => rfl) (fun u H9 locs hu hP9 hz9 hk9 hS => ?_)
    have e9 : H9 = _ := hP9
    rw [e9] at hS ⊢
    refine W.widen (k := cells) (n := slots) (Nat.le_refl _) (Nat.le_refl _) ?_
    refine lv_bipush (v := 8) hx hb dX13_strike_57 (by decide) ?_
    refine lv_icmp_ne (tgt := 66) hx hb dX13_strike_59 (by decide) (fun c12 => ?_) (fun c12 => ?_)
    · have hw := hw.1 c12
      refine lv_iconst (v := 0) hx hb dX13_strike_66 (by decide) ?_
      exact t_X13_strike_67 X hr hT hA0 hAm9  y0 y1 y3 0 y0 tS nS rS wS8 bS sS _ _ _ _ _ _ hw hB hky0 hky0 hAS hAF hX hc hs hS (lv_sub hl [0, 1, 2] rfl)
    · have hw := hw.2 c12
      refine lv_iconst (v := 1) hx hb dX13_strike_62 (by decide) ?_
      refine lv_goto (tgt := 67) hx hb dX13_strike_63 (by decide) ?_
      exact t_X13_strike_67 X hr hT hA0 hAm9  y0 y1 y3 1 y0 tS nS rS wS8 bS sS _ _ _ _ _ _ hw hB hky0 hky0 hAS hAF hX hc hs hS (lv_sub hl [0, 1, 2] rfl)
def wp_X13_strike_32 (post : Int32 → (Nat → Nat) → (Nat → Nat) → (Nat → Nat → Nat) → Dt → Prop)   (y0 : Nat) (y1 : Int32) (y3 : Int32) (z0 : Nat) (tS : Nat → Nat) (nS : Nat → Nat) (rS : Nat → Nat → Nat) (wS : Dt) (bS : Nat) (sS : Nat) : Prop := wp_X13_strike_37 post   y0 y1 y3 1 z0 tS nS rS wS bS sS
set_option maxHeartbeats 4000000 in
set_option maxRecDepth 100000 in
theorem t_X13_strike_32 : ∀ {p : Program} {l : Launch} {e : Env} {s : State} {m : MethodId} {args : Array Value} {below : List Frame} {meth : Method} {c : Code} {D : va_G} {tc : Nat → ClassId} {h0 : Nat} {sa : Nat → Nat} {Am : Nat → Prop} {b0 s0 : Nat} {t0 : Nat → Nat} {post : Int32 → (Nat → Nat) → (Nat → Nat) → (Nat → Nat → Nat) → Dt → Prop}   (X : Cx p c s m meth cX13_strike 4 RX13 D tc) (hr : meth.sig.returnType = (Option.some FieldType.int)) (hT : ST h0 sa s s.heap) (hA0 : ∀ q, Am q → h0 ≤ q) (hAm9 : ∀ x, s.heap.size ≤ x → Am x) , ∀ (y0 : Nat) (y1 : Int32) (y3 : Int32) (z0 : Nat) (tS : Nat → Nat) (nS : Nat → Nat) (rS : Nat → Nat → Nat) (wS : Dt) (bS : Nat) (sS : Nat) (H : Heap) (locs : List Loc) (ls : Array Slot) (AS : Nat → Prop) (cells slots : Nat), wp_X13_strike_32 post   y0 y1 y3 z0 tS nS rS wS bS sS → SB D tc (sa 3) AS tS nS rS wS H → (tS y0 = 7) → (tS z0 = 7) → (∀ x, AS x → Am x) → (∀ x, H.size ≤ x → AS x) → Ext t0 tS → cells + bS ≤ b0 → slots + sS ≤ s0 → va_S Am s.heap H locs → lv_has ls 4 [(0, .ref y0), (1, .int y1), (3, .int y3)] → W p l e (rm_X13_strike b0 s0) s m args below meth c H locs cells slots (MQ below (QB (fun u : Int32 × (Nat → Nat) × (Nat → Nat) × (Nat → Nat → Nat) × Dt => post u.1 u.2.1 u.2.2.1 u.2.2.2.1 u.2.2.2.2) (fun (u : Int32 × (Nat → Nat) × (Nat → Nat) × (Nat → Nat → Nat) × Dt) (H1 : Heap) => SB D tc (sa 3) Am u.2.1 u.2.2.1 u.2.2.2.1 u.2.2.2.2 H1 ∧ Ext t0 u.2.1) (fun u : Int32 × (Nat → Nat) × (Nat → Nat) × (Nat → Nat → Nat) × Dt => some (.int u.1)) Am) args s (rm_X13_strike b0 s0).cells (rm_X13_strike b0 s0).slots Am) (F0 m 32 ls [.ref z0]) := by
  intro p l e s m args below meth c D tc h0 sa Am b0 s0 t0 post   X hr hT hA0 hAm9   y0 y1 y3 z0 tS nS rS wS bS sS H locs ls AS cells slots hw hB hky0 hkz0 hAS hAF hX hc hs hS hl
  have hx := X.1
  have hb := X.2.1
  have hown := X.2.2.2.1
  have hU := X.2.2.2.2.1.1
  unfold wp_X13_strike_32 at hw
  refine lv_iconst (v := 1) hx hb dX13_strike_32 (by decide) ?_
  refine lv_goto (tgt := 37) hx hb dX13_strike_33 (by decide) ?_
  exact t_X13_strike_37 X hr hT hA0 hAm9  y0 y1 y3 1 z0 tS nS rS wS bS sS _ _ _ _ _ _ hw hB hky0 hkz0 hAS hAF hX hc hs hS (lv_sub hl [0, 1, 2] rfl)
def wp_X13_strike (post : Int32 → (Nat → Nat) → (Nat → Nat) → (Nat → Nat → Nat) → Dt → Prop)  (tS : Nat → Nat) (nS : Nat → Nat) (rS : Nat → Nat → Nat) (wS : Dt) (bS : Nat) (sS : Nat) (x0 : Nat) (x1 : Int32) (x2 : Int32) (x3 : Int32) : Prop := wp_X13_begins (fun wS1 => wp_X13_noBelt (fun r2 wS3 => (¬ r2 = 0 → wp_X13_strike_74 post   tS nS rS wS3 bS sS) ∧ (r2 = 0 → wp_X13_isPlace (fun r5 => (r5 = 0 → wp_X13_strike_32 post   x0 x1 x3 x0 tS nS rS wS3 bS sS) ∧ (¬ r5 = 0 → wp_X13_in (fun r50 => (¬ r50 = 0 → wp_X13_strike_37 post   x0 x1 x3 0 x0 tS nS rS wS3 bS sS) ∧ (r50 = 0 → wp_X13_strike_32 post   x0 x1 x3 x0 tS nS rS wS3 bS sS)) tS nS rS wS3 x3.toInt64 1 100)) tS nS rS wS3 x2)) tS nS rS wS1 x0 x1) tS nS rS wS x0
set_option maxHeartbeats 4000000 in
set_option maxRecDepth 100000 in
theorem c_X13_strike (l : Launch) (D : va_G) (tc : Nat → ClassId) (h0 : Nat) (sa : Nat → Nat) (x0 : Nat) (x1 : Int32) (x2 : Int32) (x3 : Int32) (b0 s0 : Nat) {Am : Nat → Prop} (H0 : Heap) {tS nS : Nat → Nat} {rS : Nat → Nat → Nat} {wS : Dt} (hB : SB D tc (sa 3) Am tS nS rS wS H0) (hkx0 : tS x0 = 7) (hA0 : ∀ q, Am q → h0 ≤ q) (hAF : ∀ x, H0.size ≤ x → Am x) {post : Int32 → (Nat → Nat) → (Nat → Nat) → (Nat → Nat → Nat) → Dt → Prop} (hw : wp_X13_strike post  tS nS rS wS b0 s0 x0 x1 x2 x3) : MB l yX13_strike cX13_strike 4 (Option.some FieldType.int) (rm_X13_strike b0 s0) Am [.ref x0, .int x1, .int x2, .int x3] D tc h0 sa H0 (fun u : Int32 × (Nat → Nat) × (Nat → Nat) × (Nat → Nat → Nat) × Dt => post u.1 u.2.1 u.2.2.1 u.2.2.2.1 u.2.2.2.2) (fun (u : Int32 × (Nat → Nat) × (Nat → Nat) × (Nat → Nat → Nat) × Dt) (H1 : Heap) => SB D tc (sa 3) Am u.2.1 u.2.2.1 u.2.2.2.1 u.2.2.2.2 H1 ∧ Ext tS u.2.1) (fun u : Int32 × (Nat → Nat) × (Nat → Nat) × (Nat → Nat → Nat) × Dt => some (.int u.1)) := by
  refine MB.of RX13 [(0, .ref x0), (1, .int x1), (2, .int x2), (3, .int x3)] (by decide +kernel) rfl (Nat.le_of_ble_eq_true rfl) rfl ?_
  intro p e s m below meth c ls X hr hin hT hH hS hl
  subst hH
  have hx := X.1
  have hb := X.2.1
  have hown := X.2.2.2.1
  have hU := X.2.2.2.2.1.1
  unfold wp_X13_strike at hw
  obtain ⟨A, eA⟩ : ∃ z, z = Am := ⟨_, rfl⟩
  have hB : SB D tc (sa 3) A tS nS rS wS s.heap := by rw [eA]; exact hB
  have hAm9 := hAF
  have hAF : ∀ x, s.heap.size ≤ x → A x := by rw [eA]; exact hAF
  have hAS : ∀ x, A x → Am x := by rw [eA]; exact fun _ h => h
  have hX : Ext tS tS := Ext.rf
  obtain ⟨bS, ebS⟩ : ∃ z, z = b0 := ⟨_, rfl⟩
  obtain ⟨sS, esS⟩ : ∃ z, z = s0 := ⟨_, rfl⟩
  rw [← ebS, ← esS] at hw
  refine W_bud (b := bS) (s1 := sS) (B := b0) (S := s0) (show 0 + bS ≤ b0 by omega) (show 0 + sS ≤ s0 by omega) (fun cells slots hc hs => ?_)
  refine lv_aload_n hx hb dX13_strike_0 rfl (lv_at hl 0 rfl) ?_
  refine g_after (st0 := [.ref x0]) (rest := []) (g_V X m_X13_61 (c_X13_begins l D tc h0 sa x0 _ hB hkx0 (fun x h => hA0 x (hAS x h)) hw) (recv1 X.2.2.2.2.1 rfl (hB.at (k := 7) hkx0 rfl)) hT hS hA0 dX13_strike_1 hl.1 rfl rfl ⟨Nat.le_of_ble_eq_true rfl, Nat.le_of_ble_eq_true rfl⟩ (Nat.le_of_ble_eq_true rfl) ⟨show cells + 0 ≤ b0 by omega, show slots + 0 ≤ s0 by omega⟩) hS hAS (fun u => []) (fun _ => rfl) (fun u H locs hw hP9 hz9 hk9 hS => ?_)
  obtain ⟨wS1, rfl⟩ : ∃ z, z = u := ⟨_, rfl⟩
  try dsimp only at hw hP9
  have hB := hP9
  have hAF : ∀ x, H.size ≤ x → A x := fun x h => hAF x (by omega)
  refine W.widen (k := cells) (n := slots) (Nat.le_refl _) (Nat.le_refl _) ?_
  refine lv_aload_n hx hb dX13_strike_4 rfl (lv_at hl 0 rfl) ?_
  refine lv_iload_n hx hb dX13_strike_5 rfl (lv_at hl 1 rfl) ?_
  refine g_after (st0 := [.int x1, .ref x0]) (rest := []) (g_V X m_X13_102 (c_X13_noBelt l D tc h0 sa x0 x1 _ hB hkx0 (fun x h => hA0 x (hAS x h)) hw) (recv1 X.2.2.2.2.1 rfl (hB.at (k := 7) hkx0 rfl)) hT hS hA0 dX13_strike_6 hl.1 rfl rfl ⟨Nat.le_of_ble_eq_true rfl, Nat.le_of_ble_eq_true rfl⟩ (Nat.le_of_ble_eq_true rfl) ⟨show cells + 0 ≤ b0 by omega, show slots + 0 ≤ s0 by omega⟩) hS hAS (fun u => .int u.1 :: []) (fun _ => rfl) (fun u H locs hw hP9 hz9 hk9 hS => ?_)
  obtain ⟨r2, wS3⟩ := u
  try dsimp only at hw hP9
  have hB := hP9
  have hAF : ∀ x, H.size ≤ x → A x := fun x h => hAF x (by omega)
  refine W.widen (k := cells) (n := slots) (Nat.le_refl _) (Nat.le_refl _) ?_
  refine lv_if_ne (tgt := 74) hx hb dX13_strike_9 (by decide) (fun c4 => ?_) (fun c4 => ?_)
  · have hw := hw.1 c4
    exact t_X13_strike_74 X hr hT hA0 hAm9  tS nS rS wS3 bS sS _ _ _ _ _ _ hw hB  hAS hAF hX hc hs hS (lv_sub hl [] rfl)
  · have hw := hw.2 c4
    refine lv_aload_n hx hb dX13_strike_12 rfl (lv_at hl 0 rfl) ?_
    refine lv_iload_n hx hb dX13_strike_13 rfl (lv_at hl 2 rfl) ?_
    refine g_after (st0 := [.int x2, .ref x0]) (rest := [.ref x0]) (g_S X m_X13_148 (c_X13_isPlace l D tc h0 sa x2 _ hB  hw) hT hS hA0 dX13_strike_14 hl.1 rfl rfl ⟨Nat.le_of_ble_eq_true rfl, Nat.le_of_ble_eq_true rfl⟩ (Nat.le_of_ble_eq_true rfl) ⟨show cells + 0 ≤ b0 by omega, show slots + 0 ≤ s0 by omega⟩) hS (fun _ h => h.elim) (fun u => .int u :: [.ref x0]) (fun _ => rfl) (fun u H9 locs hw hP9 hz9 hk9 hS => ?_)
    obtain ⟨r5, rfl⟩ : ∃ z, z = u := ⟨_, rfl⟩
    try dsimp only at hw hP9
    have e9 : H9 = _ := hP9
    rw [e9] at hS ⊢
    refine W.widen (k := cells) (n := slots) (Nat.le_refl _) (Nat.le_refl _) ?_
    refine lv_if_eq (tgt := 32) hx hb dX13_strike_17 (by decide) (fun c6 => ?_) (fun c6 => ?_)
    · have hw := hw.1 c6
      exact t_X13_strike_32 X hr hT hA0 hAm9  x0 x1 x3 x0 tS nS rS wS3 bS sS _ _ _ _ _ _ hw hB hkx0 hkx0 hAS hAF hX hc hs hS (lv_sub hl [0, 1, 3] rfl)
    · have hw := hw.2 c6
      refine lv_iload_n hx hb dX13_strike_20 rfl (lv_at hl 3 rfl) ?_
      refine lv_i2l (v := x3.toInt64) hx hb dX13_strike_21 rfl ?_
      refine lv_lconst (v := 1) hx hb dX13_strike_22 (by decide) ?_
      refine lv_ldc2 (v := 100) hx hb hown (hU.use w_1627) dX13_strike_23 ?_
      refine g_after (st0 := [.long 100, .long 1, .long x3.toInt64, .ref x0]) (rest := [.ref x0]) (g_S X m_X13_13 (c_X13_in l D tc h0 sa x3.toInt64 1 100 _ hB  hw) hT hS hA0 dX13_strike_26 hl.1 rfl rfl ⟨Nat.le_of_ble_eq_true rfl, Nat.le_of_ble_eq_true rfl⟩ (Nat.le_of_ble_eq_true rfl) ⟨show cells + 0 ≤ b0 by omega, show slots + 0 ≤ s0 by omega⟩) hS (fun _ h => h.elim) (fun u => .int u :: [.ref x0]) (fun _ => rfl) (fun u H9 locs hw hP9 hz9 hk9 hS => ?_)
      obtain ⟨r50, rfl⟩ : ∃ z, z = u := ⟨_, rfl⟩
      try dsimp only at hw hP9
      have e9 : H9 = _ := hP9
      rw [e9] at hS ⊢
      refine W.widen (k := cells) (n := slots) (Nat.le_refl _) (Nat.le_refl _) ?_
      refine lv_if_ne (tgt := 36) hx hb dX13_strike_29 (by decide) (fun c51 => ?_) (fun c51 => ?_)
      · have hw := hw.1 c51
        refine lv_iconst (v := 0) hx hb dX13_strike_36 (by decide) ?_
        exact t_X13_strike_37 X hr hT hA0 hAm9  x0 x1 x3 0 x0 tS nS rS wS3 bS sS _ _ _ _ _ _ hw hB hkx0 hkx0 hAS hAF hX hc hs hS (lv_sub hl [0, 1, 3] rfl)
      · have hw := hw.2 c51
        exact t_X13_strike_32 X hr hT hA0 hAm9  x0 x1 x3 x0 tS nS rS wS3 bS sS _ _ _ _ _ _ hw hB hkx0 hkx0 hAS hAF hX hc hs hS (lv_sub hl [0, 1, 3] rfl)
abbrev rm_X13_turn (b0 s0 : Nat) : Room := { frames := 11, cells := b0, slots := s0, locals := 288 }
def wp_X13_turn_33 (post : Int32 → (Nat → Nat) → (Nat → Nat) → (Nat → Nat → Nat) → Dt → Prop)   : Nat → (Nat) → (Int32) → (Int32) → (Nat → Nat) → (Nat → Nat) → (Nat → Nat → Nat) → (Dt) → (Nat) → (Nat) → Prop
  | 0, _, _, _, _, _, _, _, _, _ => False
  | n9 + 1, y0, y1, y2, tS, nS, rS, wS, bS, sS => (y1 ≤ y2 → post (wS (rS y0 1) 11) tS nS rS wS) ∧ (¬ y1 ≤ y2 → ∃ b10 s11 : Nat, b10 ≤ bS ∧ s11 ≤ sS ∧ (wp_X12_lasts (fun tS14 nS15 rS16 wS17 => wp_X13_turn_33 post   n9 y0 y1 (y2 + 1) tS14 nS15 rS16 wS17 (bS - b10) (sS - s11)) tS nS rS wS b10 s11 (rS y0 1)))
set_option maxHeartbeats 4000000 in
set_option maxRecDepth 100000 in
theorem t_X13_turn_33 : ∀ {p : Program} {l : Launch} {e : Env} {s : State} {m : MethodId} {args : Array Value} {below : List Frame} {meth : Method} {c : Code} {D : va_G} {tc : Nat → ClassId} {h0 : Nat} {sa : Nat → Nat} {Am : Nat → Prop} {b0 s0 : Nat} {t0 : Nat → Nat} {post : Int32 → (Nat → Nat) → (Nat → Nat) → (Nat → Nat → Nat) → Dt → Prop}   (X : Cx p c s m meth cX13_turn 3 RX13 D tc) (hr : meth.sig.returnType = (Option.some FieldType.int)) (hT : ST h0 sa s s.heap) (hA0 : ∀ q, Am q → h0 ≤ q) (hAm9 : ∀ x, s.heap.size ≤ x → Am x)  (n9 : Nat), ∀ (y0 : Nat) (y1 : Int32) (y2 : Int32) (tS : Nat → Nat) (nS : Nat → Nat) (rS : Nat → Nat → Nat) (wS : Dt) (bS : Nat) (sS : Nat) (H : Heap) (locs : List Loc) (ls : Array Slot) (AS : Nat → Prop) (cells slots : Nat), wp_X13_turn_33 post   n9 y0 y1 y2 tS nS rS wS bS sS → SB D tc (sa 3) AS tS nS rS wS H → (tS y0 = 7) → (∀ x, AS x → Am x) → (∀ x, H.size ≤ x → AS x) → Ext t0 tS → cells + bS ≤ b0 → slots + sS ≤ s0 → va_S Am s.heap H locs → lv_has ls 3 [(0, .ref y0), (1, .int y1), (2, .int y2)] → W p l e (rm_X13_turn b0 s0) s m args below meth c H locs cells slots (MQ below (QB (fun u : Int32 × (Nat → Nat) × (Nat → Nat) × (Nat → Nat → Nat) × Dt => post u.1 u.2.1 u.2.2.1 u.2.2.2.1 u.2.2.2.2) (fun (u : Int32 × (Nat → Nat) × (Nat → Nat) × (Nat → Nat → Nat) × Dt) (H1 : Heap) => SB D tc (sa 3) Am u.2.1 u.2.2.1 u.2.2.2.1 u.2.2.2.2 H1 ∧ Ext t0 u.2.1) (fun u : Int32 × (Nat → Nat) × (Nat → Nat) × (Nat → Nat → Nat) × Dt => some (.int u.1)) Am) args s (rm_X13_turn b0 s0).cells (rm_X13_turn b0 s0).slots Am) (F0 m 33 ls []) := by
  intro p l e s m args below meth c D tc h0 sa Am b0 s0 t0 post   X hr hT hA0 hAm9  n9
  have hx := X.1
  have hb := X.2.1
  have hown := X.2.2.2.1
  have hU := X.2.2.2.2.1.1
  induction n9 with
  | zero =>
    intro  y0 y1 y2 tS nS rS wS bS sS H locs ls AS cells slots hw
    exact hw.elim
  | succ n9 ih =>
    intro  y0 y1 y2 tS nS rS wS bS sS H locs ls AS cells slots hw hB hky0 hAS hAF hX hc hs hS hl
    unfold wp_X13_turn_33 at hw
    refine lv_iload_n hx hb dX13_turn_33 rfl (lv_at hl 2 rfl) ?_
    refine lv_iload_n hx hb dX13_turn_34 rfl (lv_at hl 1 rfl) ?_
    refine lv_icmp_ge (tgt := 51) hx hb dX13_turn_35 (by decide) (fun c7 => ?_) (fun c7 => ?_)
    · have hw := hw.1 c7
      refine lv_aload_n hx hb dX13_turn_51 rfl (lv_at hl 0 rfl) ?_
      refine g_get X dX13_turn_52 f_X13_34 (hB.one (k := 7) hky0 rfl) 0 (v := .ref (rS y0 1)) rfl rfl ?_
      have k8 : tS (rS y0 1) = 4 := (hB.wtk hky0).1
      refine g_getN X dX13_turn_55 f_X13_213 (hB.one (k := 4) k8 rfl) 0 (v := .int (wS (rS y0 1) 11)) rfl rfl ?_
      exact e_i X hr dX13_turn_58 hS ((wS (rS y0 1) 11), tS, nS, rS, wS) rfl hw ⟨hB.regs hAS, hX⟩ ⟨show cells ≤ b0 by omega, show slots ≤ s0 by omega⟩
    · have hw := hw.2 c7
      refine lv_aload_n hx hb dX13_turn_38 rfl (lv_at hl 0 rfl) ?_
      refine g_get X dX13_turn_39 f_X13_34 (hB.one (k := 7) hky0 rfl) 0 (v := .ref (rS y0 1)) rfl rfl ?_
      have k9 : tS (rS y0 1) = 4 := (hB.wtk hky0).1
      obtain ⟨b10, s11, o12, o13, hw⟩ := hw
      refine g_after (st0 := [.ref (rS y0 1)]) (rest := []) (g_V X m_X13_210 (c_X12_lasts l D tc h0 sa (rS y0 1) b10 s11 _ hB k9 (fun x h => hA0 x (hAS x h)) hAF hw) (recv1 X.2.2.2.2.1 rfl (hB.at (k := 4) k9 rfl)) hT hS hA0 dX13_turn_42 hl.1 rfl rfl ⟨Nat.le_of_ble_eq_true rfl, Nat.le_of_ble_eq_true rfl⟩ (Nat.le_of_ble_eq_true rfl) ⟨show cells + b10 ≤ b0 by omega, show slots + s11 ≤ s0 by omega⟩) hS hAS (fun u => []) (fun _ => rfl) (fun u H locs hw hP9 hz9 hk9 hS => ?_)
      obtain ⟨tS14, nS15, rS16, wS17⟩ := u
      try dsimp only at hw hP9
      obtain ⟨hB, hX9⟩ := hP9
      have hAF : ∀ x, H.size ≤ x → AS x := fun x h => hAF x (by omega)
      have hX := hX.trans hX9
      refine W_bud (b := (bS - b10)) (s1 := (sS - s11)) (B := b0) (S := s0) (show (cells + b10) + (bS - b10) ≤ b0 by omega) (show (slots + s11) + (sS - s11) ≤ s0 by omega) (fun cells slots hc hs => ?_)
      have k18 : tS14 y0 = 7 := hX9.to hky0
      refine lv_iinc (lv' := [(2, .int (y2 + 1)), (0, .ref y0), (1, .int y1)]) hx hb dX13_turn_45 hl (k := 2) rfl (by rfl) (by decide) rfl (fun ls hl => ?_)
      refine lv_goto (tgt := 33) hx hb dX13_turn_48 (by decide) ?_
      exact ih y0 y1 (y2 + 1) tS14 nS15 rS16 wS17 (bS - b10) (sS - s11) _ _ _ _ _ _ hw hB k18 hAS hAF hX hc hs hS (lv_sub hl [1, 2, 0] rfl)
def wp_X13_turn_22 (post : Int32 → (Nat → Nat) → (Nat → Nat) → (Nat → Nat → Nat) → Dt → Prop)   (y0 : Nat) (y1 : Int32) (z0 : Int32) (z1 : Nat) (tS : Nat → Nat) (nS : Nat → Nat) (rS : Nat → Nat → Nat) (wS : Dt) (bS : Nat) (sS : Nat) : Prop := wp_X13_fails (fun r4 wS5 => (r4 = 0 → ∃ k9 : Nat, wp_X13_turn_33 post   k9 y0 y1 0 tS nS rS wS5 bS sS) ∧ (¬ r4 = 0 → post (-1) tS nS rS wS5)) tS nS rS wS z1 z0 1
set_option maxHeartbeats 4000000 in
set_option maxRecDepth 100000 in
theorem t_X13_turn_22 : ∀ {p : Program} {l : Launch} {e : Env} {s : State} {m : MethodId} {args : Array Value} {below : List Frame} {meth : Method} {c : Code} {D : va_G} {tc : Nat → ClassId} {h0 : Nat} {sa : Nat → Nat} {Am : Nat → Prop} {b0 s0 : Nat} {t0 : Nat → Nat} {post : Int32 → (Nat → Nat) → (Nat → Nat) → (Nat → Nat → Nat) → Dt → Prop}   (X : Cx p c s m meth cX13_turn 3 RX13 D tc) (hr : meth.sig.returnType = (Option.some FieldType.int)) (hT : ST h0 sa s s.heap) (hA0 : ∀ q, Am q → h0 ≤ q) (hAm9 : ∀ x, s.heap.size ≤ x → Am x) , ∀ (y0 : Nat) (y1 : Int32) (z0 : Int32) (z1 : Nat) (tS : Nat → Nat) (nS : Nat → Nat) (rS : Nat → Nat → Nat) (wS : Dt) (bS : Nat) (sS : Nat) (H : Heap) (locs : List Loc) (ls : Array Slot) (AS : Nat → Prop) (cells slots : Nat), wp_X13_turn_22 post   y0 y1 z0 z1 tS nS rS wS bS sS → SB D tc (sa 3) AS tS nS rS wS H → (tS y0 = 7) → (tS z1 = 7) → (∀ x, AS x → Am x) → (∀ x, H.size ≤ x → AS x) → Ext t0 tS → cells + bS ≤ b0 → slots + sS ≤ s0 → va_S Am s.heap H locs → lv_has ls 3 [(0, .ref y0), (1, .int y1)] → W p l e (rm_X13_turn b0 s0) s m args below meth c H locs cells slots (MQ below (QB (fun u : Int32 × (Nat → Nat) × (Nat → Nat) × (Nat → Nat → Nat) × Dt => post u.1 u.2.1 u.2.2.1 u.2.2.2.1 u.2.2.2.2) (fun (u : Int32 × (Nat → Nat) × (Nat → Nat) × (Nat → Nat → Nat) × Dt) (H1 : Heap) => SB D tc (sa 3) Am u.2.1 u.2.2.1 u.2.2.2.1 u.2.2.2.2 H1 ∧ Ext t0 u.2.1) (fun u : Int32 × (Nat → Nat) × (Nat → Nat) × (Nat → Nat → Nat) × Dt => some (.int u.1)) Am) args s (rm_X13_turn b0 s0).cells (rm_X13_turn b0 s0).slots Am) (F0 m 22 ls [.int z0, .ref z1]) := by
  intro p l e s m args below meth c D tc h0 sa Am b0 s0 t0 post   X hr hT hA0 hAm9   y0 y1 z0 z1 tS nS rS wS bS sS H locs ls AS cells slots hw hB hky0 hkz1 hAS hAF hX hc hs hS hl
  have hx := X.1
  have hb := X.2.1
  have hown := X.2.2.2.1
  have hU := X.2.2.2.2.1.1
  unfold wp_X13_turn_22 at hw
  refine lv_iconst (v := 1) hx hb dX13_turn_22 (by decide) ?_
  refine g_after (st0 := [.int 1, .int z0, .ref z1]) (rest := []) (g_V X m_X13_57 (c_X13_fails l D tc h0 sa z1 z0 1 _ hB hkz1 (fun x h => hA0 x (hAS x h)) hw) (recv1 X.2.2.2.2.1 rfl (hB.at (k := 7) hkz1 rfl)) hT hS hA0 dX13_turn_23 hl.1 rfl rfl ⟨Nat.le_of_ble_eq_true rfl, Nat.le_of_ble_eq_true rfl⟩ (Nat.le_of_ble_eq_true rfl) ⟨show cells + 0 ≤ b0 by omega, show slots + 0 ≤ s0 by omega⟩) hS hAS (fun u => .int u.1 :: []) (fun _ => rfl) (fun u H locs hw hP9 hz9 hk9 hS => ?_)
  obtain ⟨r4, wS5⟩ := u
  try dsimp only at hw hP9
  have hB := hP9
  have hAF : ∀ x, H.size ≤ x → AS x := fun x h => hAF x (by omega)
  refine W.widen (k := cells) (n := slots) (Nat.le_refl _) (Nat.le_refl _) ?_
  refine lv_if_eq (tgt := 31) hx hb dX13_turn_26 (by decide) (fun c6 => ?_) (fun c6 => ?_)
  · have hw := hw.1 c6
    refine lv_iconst (v := 0) hx hb dX13_turn_31 (by decide) ?_
    refine lv_istore_n (lv' := [(2, .int 0), (0, .ref y0), (1, .int y1)]) hx hb dX13_turn_32 rfl hl (by decide) rfl (fun ls hl => ?_)
    obtain ⟨k9, hw⟩ := hw
    exact t_X13_turn_33 X hr hT hA0 hAm9  k9 y0 y1 0 tS nS rS wS5 bS sS _ _ _ _ _ _ hw hB hky0 hAS hAF hX hc hs hS (lv_sub hl [1, 2, 0] rfl)
  · have hw := hw.2 c6
    refine lv_iconst (v := (-1)) hx hb dX13_turn_29 (by decide) ?_
    exact e_i X hr dX13_turn_30 hS ((-1), tS, nS, rS, wS5) rfl hw ⟨hB.regs hAS, hX⟩ ⟨show cells ≤ b0 by omega, show slots ≤ s0 by omega⟩
def wp_X13_turn (post : Int32 → (Nat → Nat) → (Nat → Nat) → (Nat → Nat → Nat) → Dt → Prop)  (tS : Nat → Nat) (nS : Nat → Nat) (rS : Nat → Nat → Nat) (wS : Dt) (bS : Nat) (sS : Nat) (x0 : Nat) (x1 : Int32) : Prop := wp_X13_begins (fun wS1 => wp_X13_in (fun r2 => (¬ r2 = 0 → wp_X13_turn_22 post   x0 x1 0 x0 tS nS rS wS1 bS sS) ∧ (r2 = 0 → wp_X13_turn_22 post   x0 x1 1 x0 tS nS rS wS1 bS sS)) tS nS rS wS1 x1.toInt64 1 200) tS nS rS wS x0
set_option maxHeartbeats 4000000 in
set_option maxRecDepth 100000 in
theorem c_X13_turn (l : Launch) (D : va_G) (tc : Nat → ClassId) (h0 : Nat) (sa : Nat → Nat) (x0 : Nat) (x1 : Int32) (b0 s0 : Nat) {Am : Nat → Prop} (H0 : Heap) {tS nS : Nat → Nat} {rS : Nat → Nat → Nat} {wS : Dt} (hB : SB D tc (sa 3) Am tS nS rS wS H0) (hkx0 : tS x0 = 7) (hA0 : ∀ q, Am q → h0 ≤ q) (hAF : ∀ x, H0.size ≤ x → Am x) {post : Int32 → (Nat → Nat) → (Nat → Nat) → (Nat → Nat → Nat) → Dt → Prop} (hw : wp_X13_turn post  tS nS rS wS b0 s0 x0 x1) : MB l yX13_turn cX13_turn 3 (Option.some FieldType.int) (rm_X13_turn b0 s0) Am [.ref x0, .int x1] D tc h0 sa H0 (fun u : Int32 × (Nat → Nat) × (Nat → Nat) × (Nat → Nat → Nat) × Dt => post u.1 u.2.1 u.2.2.1 u.2.2.2.1 u.2.2.2.2) (fun (u : Int32 × (Nat → Nat) × (Nat → Nat) × (Nat → Nat → Nat) × Dt) (H1 : Heap) => SB D tc (sa 3) Am u.2.1 u.2.2.1 u.2.2.2.1 u.2.2.2.2 H1 ∧ Ext tS u.2.1) (fun u : Int32 × (Nat → Nat) × (Nat → Nat) × (Nat → Nat → Nat) × Dt => some (.int u.1)) := by
  refine MB.of RX13 [(0, .ref x0), (1, .int x1)] (by decide +kernel) rfl (Nat.le_of_ble_eq_true rfl) rfl ?_
  intro p e s m below meth c ls X hr hin hT hH hS hl
  subst hH
  have hx := X.1
  have hb := X.2.1
  have hown := X.2.2.2.1
  have hU := X.2.2.2.2.1.1
  unfold wp_X13_turn at hw
  obtain ⟨A, eA⟩ : ∃ z, z = Am := ⟨_, rfl⟩
  have hB : SB D tc (sa 3) A tS nS rS wS s.heap := by rw [eA]; exact hB
  have hAm9 := hAF
  have hAF : ∀ x, s.heap.size ≤ x → A x := by rw [eA]; exact hAF
  have hAS : ∀ x, A x → Am x := by rw [eA]; exact fun _ h => h
  have hX : Ext tS tS := Ext.rf
  obtain ⟨bS, ebS⟩ : ∃ z, z = b0 := ⟨_, rfl⟩
  obtain ⟨sS, esS⟩ : ∃ z, z = s0 := ⟨_, rfl⟩
  rw [← ebS, ← esS] at hw
  refine W_bud (b := bS) (s1 := sS) (B := b0) (S := s0) (show 0 + bS ≤ b0 by omega) (show 0 + sS ≤ s0 by omega) (fun cells slots hc hs => ?_)
  refine lv_aload_n hx hb dX13_turn_0 rfl (lv_at hl 0 rfl) ?_
  refine g_after (st0 := [.ref x0]) (rest := []) (g_V X m_X13_61 (c_X13_begins l D tc h0 sa x0 _ hB hkx0 (fun x h => hA0 x (hAS x h)) hw) (recv1 X.2.2.2.2.1 rfl (hB.at (k := 7) hkx0 rfl)) hT hS hA0 dX13_turn_1 hl.1 rfl rfl ⟨Nat.le_of_ble_eq_true rfl, Nat.le_of_ble_eq_true rfl⟩ (Nat.le_of_ble_eq_true rfl) ⟨show cells + 0 ≤ b0 by omega, show slots + 0 ≤ s0 by omega⟩) hS hAS (fun u => []) (fun _ => rfl) (fun u H locs hw hP9 hz9 hk9 hS => ?_)
  obtain ⟨wS1, rfl⟩ : ∃ z, z = u := ⟨_, rfl⟩
  try dsimp only at hw hP9
  have hB := hP9
  have hAF : ∀ x, H.size ≤ x → A x := fun x h => hAF x (by omega)
  refine W.widen (k := cells) (n := slots) (Nat.le_refl _) (Nat.le_refl _) ?_
  refine lv_aload_n hx hb dX13_turn_4 rfl (lv_at hl 0 rfl) ?_
  refine lv_iload_n hx hb dX13_turn_5 rfl (lv_at hl 1 rfl) ?_
  refine lv_i2l (v := x1.toInt64) hx hb dX13_turn_6 rfl ?_
  refine lv_lconst (v := 1) hx hb dX13_turn_7 (by decide) ?_
  refine lv_ldc2 (v := 200) hx hb hown (hU.use w_1645) dX13_turn_8 ?_
  refine g_after (st0 := [.long 200, .long 1, .long x1.toInt64, .ref x0]) (rest := [.ref x0]) (g_S X m_X13_13 (c_X13_in l D tc h0 sa x1.toInt64 1 200 _ hB  hw) hT hS hA0 dX13_turn_11 hl.1 rfl rfl ⟨Nat.le_of_ble_eq_true rfl, Nat.le_of_ble_eq_true rfl⟩ (Nat.le_of_ble_eq_true rfl) ⟨show cells + 0 ≤ b0 by omega, show slots + 0 ≤ s0 by omega⟩) hS (fun _ h => h.elim) (fun u => .int u :: [.ref x0]) (fun _ => rfl) (fun u H9 locs hw hP9 hz9 hk9 hS => ?_)
  obtain ⟨r2, rfl⟩ : ∃ z, z = u := ⟨_, rfl⟩
  try dsimp only at hw hP9
  have e9 : H9 = _ := hP9
  rw [e9] at hS ⊢
  refine W.widen (k := cells) (n := slots) (Nat.le_refl _) (Nat.le_refl _) ?_
  refine lv_if_ne (tgt := 21) hx hb dX13_turn_14 (by decide) (fun c3 => ?_) (fun c3 => ?_)
  · have hw := hw.1 c3
    refine lv_iconst (v := 0) hx hb dX13_turn_21 (by decide) ?_
    exact t_X13_turn_22 X hr hT hA0 hAm9  x0 x1 0 x0 tS nS rS wS1 bS sS _ _ _ _ _ _ hw hB hkx0 hkx0 hAS hAF hX hc hs hS (lv_sub hl [0, 1] rfl)
  · have hw := hw.2 c3
    refine lv_iconst (v := 1) hx hb dX13_turn_17 (by decide) ?_
    refine lv_goto (tgt := 22) hx hb dX13_turn_18 (by decide) ?_
    exact t_X13_turn_22 X hr hT hA0 hAm9  x0 x1 1 x0 tS nS rS wS1 bS sS _ _ _ _ _ _ hw hB hkx0 hkx0 hAS hAF hX hc hs hS (lv_sub hl [0, 1] rfl)
abbrev rm_X13_checksum (b0 s0 : Nat) : Room := { frames := 4, cells := b0, slots := s0, locals := 87 }
def wp_X13_checksum (post : Int64 → (Nat → Nat) → (Nat → Nat) → (Nat → Nat → Nat) → Dt → Prop)  (tS : Nat → Nat) (nS : Nat → Nat) (rS : Nat → Nat → Nat) (wS : Dt) (bS : Nat) (sS : Nat) (x0 : Nat) : Prop := wp_X13_begins (fun wS1 => ∃ b3 s4 : Nat, b3 ≤ bS ∧ s4 ≤ sS ∧ (wp_X12_sum (fun r7 tS8 nS9 rS10 wS11 => post r7 tS8 nS9 rS10 wS11) tS nS rS wS1 b3 s4 (rS x0 1))) tS nS rS wS x0
set_option maxHeartbeats 4000000 in
set_option maxRecDepth 100000 in
theorem c_X13_checksum (l : Launch) (D : va_G) (tc : Nat → ClassId) (h0 : Nat) (sa : Nat → Nat) (x0 : Nat) (b0 s0 : Nat) {Am : Nat → Prop} (H0 : Heap) {tS nS : Nat → Nat} {rS : Nat → Nat → Nat} {wS : Dt} (hB : SB D tc (sa 3) Am tS nS rS wS H0) (hkx0 : tS x0 = 7) (hA0 : ∀ q, Am q → h0 ≤ q) (hAF : ∀ x, H0.size ≤ x → Am x) {post : Int64 → (Nat → Nat) → (Nat → Nat) → (Nat → Nat → Nat) → Dt → Prop} (hw : wp_X13_checksum post  tS nS rS wS b0 s0 x0) : MB l yX13_checksum cX13_checksum 1 (Option.some FieldType.long) (rm_X13_checksum b0 s0) Am [.ref x0] D tc h0 sa H0 (fun u : Int64 × (Nat → Nat) × (Nat → Nat) × (Nat → Nat → Nat) × Dt => post u.1 u.2.1 u.2.2.1 u.2.2.2.1 u.2.2.2.2) (fun (u : Int64 × (Nat → Nat) × (Nat → Nat) × (Nat → Nat → Nat) × Dt) (H1 : Heap) => SB D tc (sa 3) Am u.2.1 u.2.2.1 u.2.2.2.1 u.2.2.2.2 H1 ∧ Ext tS u.2.1) (fun u : Int64 × (Nat → Nat) × (Nat → Nat) × (Nat → Nat → Nat) × Dt => some (.long u.1)) := by
  refine MB.of RX13 [(0, .ref x0)] (by decide +kernel) rfl (Nat.le_of_ble_eq_true rfl) rfl ?_
  intro p e s m below meth c ls X hr hin hT hH hS hl
  subst hH
  have hx := X.1
  have hb := X.2.1
  have hown := X.2.2.2.1
  have hU := X.2.2.2.2.1.1
  unfold wp_X13_checksum at hw
  obtain ⟨A, eA⟩ : ∃ z, z = Am := ⟨_, rfl⟩
  have hB : SB D tc (sa 3) A tS nS rS wS s.heap := by rw [eA]; exact hB
  have hAm9 := hAF
  have hAF : ∀ x, s.heap.size ≤ x → A x := by rw [eA]; exact hAF
  have hAS : ∀ x, A x → Am x := by rw [eA]; exact fun _ h => h
  have hX : Ext tS tS := Ext.rf
  obtain ⟨bS, ebS⟩ : ∃ z, z = b0 := ⟨_, rfl⟩
  obtain ⟨sS, esS⟩ : ∃ z, z = s0 := ⟨_, rfl⟩
  rw [← ebS, ← esS] at hw
  refine W_bud (b := bS) (s1 := sS) (B := b0) (S := s0) (show 0 + bS ≤ b0 by omega) (show 0 + sS ≤ s0 by omega) (fun cells slots hc hs => ?_)
  refine lv_aload_n hx hb dX13_checksum_0 rfl (lv_at hl 0 rfl) ?_
  refine g_after (st0 := [.ref x0]) (rest := []) (g_V X m_X13_61 (c_X13_begins l D tc h0 sa x0 _ hB hkx0 (fun x h => hA0 x (hAS x h)) hw) (recv1 X.2.2.2.2.1 rfl (hB.at (k := 7) hkx0 rfl)) hT hS hA0 dX13_checksum_1 hl.1 rfl rfl ⟨Nat.le_of_ble_eq_true rfl, Nat.le_of_ble_eq_true rfl⟩ (Nat.le_of_ble_eq_true rfl) ⟨show cells + 0 ≤ b0 by omega, show slots + 0 ≤ s0 by omega⟩) hS hAS (fun u => []) (fun _ => rfl) (fun u H locs hw hP9 hz9 hk9 hS => ?_)
  obtain ⟨wS1, rfl⟩ : ∃ z, z = u := ⟨_, rfl⟩
  try dsimp only at hw hP9
  have hB := hP9
  have hAF : ∀ x, H.size ≤ x → A x := fun x h => hAF x (by omega)
  refine W.widen (k := cells) (n := slots) (Nat.le_refl _) (Nat.le_refl _) ?_
  refine lv_aload_n hx hb dX13_checksum_4 rfl (lv_at hl 0 rfl) ?_
  refine g_get X dX13_checksum_5 f_X13_34 (hB.one (k := 7) hkx0 rfl) 0 (v := .ref (rS x0 1)) rfl rfl ?_
  have k2 : tS (rS x0 1) = 4 := (hB.wtk hkx0).1
  obtain ⟨b3, s4, o5, o6, hw⟩ := hw
  refine g_after (st0 := [.ref (rS x0 1)]) (rest := []) (g_V X m_X13_310 (c_X12_sum l D tc h0 sa (rS x0 1) b3 s4 _ hB k2 (fun x h => hA0 x (hAS x h)) hAF hw) (recv1 X.2.2.2.2.1 rfl (hB.at (k := 4) k2 rfl)) hT hS hA0 dX13_checksum_8 hl.1 rfl rfl ⟨Nat.le_of_ble_eq_true rfl, Nat.le_of_ble_eq_true rfl⟩ (Nat.le_of_ble_eq_true rfl) ⟨show cells + b3 ≤ b0 by omega, show slots + s4 ≤ s0 by omega⟩) hS hAS (fun u => .long u.1 :: []) (fun _ => rfl) (fun u H locs hw hP9 hz9 hk9 hS => ?_)
  obtain ⟨r7, tS8, nS9, rS10, wS11⟩ := u
  try dsimp only at hw hP9
  obtain ⟨hB, hX9⟩ := hP9
  have hAF : ∀ x, H.size ≤ x → A x := fun x h => hAF x (by omega)
  have hX := hX.trans hX9
  refine W_bud (b := (bS - b3)) (s1 := (sS - s4)) (B := b0) (S := s0) (show (cells + b3) + (bS - b3) ≤ b0 by omega) (show (slots + s4) + (sS - s4) ≤ s0 by omega) (fun cells slots hc hs => ?_)
  have k12 : tS8 x0 = 7 := hX9.to hkx0
  exact e_l X hr dX13_checksum_11 hS (r7, tS8, nS9, rS10, wS11) rfl hw ⟨hB.regs hAS, hX⟩ ⟨show cells ≤ b0 by omega, show slots ≤ s0 by omega⟩
abbrev rm_X13_thereShare (b0 s0 : Nat) : Room := { frames := 3, cells := b0, slots := s0, locals := 61 }
def wp_X13_thereShare_96 (post : UInt32 → (Nat → Nat) → (Nat → Nat) → (Nat → Nat → Nat) → Dt → Prop)   (z0 : UInt32) (tS : Nat → Nat) (nS : Nat → Nat) (rS : Nat → Nat → Nat) (wS : Dt) (bS : Nat) (sS : Nat) : Prop := post z0 tS nS rS wS
set_option maxHeartbeats 4000000 in
set_option maxRecDepth 100000 in
theorem t_X13_thereShare_96 : ∀ {p : Program} {l : Launch} {e : Env} {s : State} {m : MethodId} {args : Array Value} {below : List Frame} {meth : Method} {c : Code} {D : va_G} {tc : Nat → ClassId} {h0 : Nat} {sa : Nat → Nat} {Am : Nat → Prop} {b0 s0 : Nat} {t0 : Nat → Nat} {post : UInt32 → (Nat → Nat) → (Nat → Nat) → (Nat → Nat → Nat) → Dt → Prop}   (X : Cx p c s m meth cX13_thereShare 4 RX13 D tc) (hr : meth.sig.returnType = (Option.some FieldType.float)) (hT : ST h0 sa s s.heap) (hA0 : ∀ q, Am q → h0 ≤ q) (hAm9 : ∀ x, s.heap.size ≤ x → Am x) , ∀ (z0 : UInt32) (tS : Nat → Nat) (nS : Nat → Nat) (rS : Nat → Nat → Nat) (wS : Dt) (bS : Nat) (sS : Nat) (H : Heap) (locs : List Loc) (ls : Array Slot) (AS : Nat → Prop) (cells slots : Nat), wp_X13_thereShare_96 post   z0 tS nS rS wS bS sS → SB D tc (sa 3) AS tS nS rS wS H → (∀ x, AS x → Am x) → (∀ x, H.size ≤ x → AS x) → Ext t0 tS → cells + bS ≤ b0 → slots + sS ≤ s0 → va_S Am s.heap H locs → lv_has ls 4 [] → W p l e (rm_X13_thereShare b0 s0) s m args below meth c H locs cells slots (MQ below (QB (fun u : UInt32 × (Nat → Nat) × (Nat → Nat) × (Nat → Nat → Nat) × Dt => post u.1 u.2.1 u.2.2.1 u.2.2.2.1 u.2.2.2.2) (fun (u : UInt32 × (Nat → Nat) × (Nat → Nat) × (Nat → Nat → Nat) × Dt) (H1 : Heap) => SB D tc (sa 3) Am u.2.1 u.2.2.1 u.2.2.2.1 u.2.2.2.2 H1 ∧ Ext t0 u.2.1) (fun u : UInt32 × (Nat → Nat) × (Nat → Nat) × (Nat → Nat → Nat) × Dt => some (.float u.1)) Am) args s (rm_X13_thereShare b0 s0).cells (rm_X13_thereShare b0 s0).slots Am) (F0 m 96 ls [.float z0]) := by
  intro p l e s m args below meth c D tc h0 sa Am b0 s0 t0 post   X hr hT hA0 hAm9   z0 tS nS rS wS bS sS H locs ls AS cells slots hw hB  hAS hAF hX hc hs hS hl
  have hx := X.1
  have hb := X.2.1
  have hown := X.2.2.2.1
  have hU := X.2.2.2.2.1.1
  unfold wp_X13_thereShare_96 at hw
  exact e_f X hr dX13_thereShare_96 hS (z0, tS, nS, rS, wS) rfl hw ⟨hB.regs hAS, hX⟩ ⟨show cells ≤ b0 by omega, show slots ≤ s0 by omega⟩
def wp_X13_thereShare_51 (post : UInt32 → (Nat → Nat) → (Nat → Nat) → (Nat → Nat → Nat) → Dt → Prop)  (K19 : Nat → Int32 → Nat → Int32 → Int32 → (Nat → Nat) → (Nat → Nat) → (Nat → Nat → Nat) → (Dt) → (Nat) → (Nat) → Prop) (y0 : Nat) (ay2 : Nat) (cy2 : Int32) (my2 : Int32) (z0 : Int32) (z1 : Int32) (tS : Nat → Nat) (nS : Nat → Nat) (rS : Nat → Nat → Nat) (wS : Dt) (bS : Nat) (sS : Nat) : Prop := K19 y0 (z1 + z0) ay2 cy2 my2 tS nS rS wS bS sS
set_option maxHeartbeats 4000000 in
set_option maxRecDepth 100000 in
theorem t_X13_thereShare_51 : ∀ {p : Program} {l : Launch} {e : Env} {s : State} {m : MethodId} {args : Array Value} {below : List Frame} {meth : Method} {c : Code} {D : va_G} {tc : Nat → ClassId} {h0 : Nat} {sa : Nat → Nat} {Am : Nat → Prop} {b0 s0 : Nat} {t0 : Nat → Nat} {post : UInt32 → (Nat → Nat) → (Nat → Nat) → (Nat → Nat → Nat) → Dt → Prop}  {K19 : Nat → Int32 → Nat → Int32 → Int32 → (Nat → Nat) → (Nat → Nat) → (Nat → Nat → Nat) → (Dt) → (Nat) → (Nat) → Prop} (X : Cx p c s m meth cX13_thereShare 4 RX13 D tc) (hr : meth.sig.returnType = (Option.some FieldType.float)) (hT : ST h0 sa s s.heap) (hA0 : ∀ q, Am q → h0 ≤ q) (hAm9 : ∀ x, s.heap.size ≤ x → Am x) (hK19 : ∀ (qy2 : Nat) (y0 : Nat) (y1 : Int32) (ay2 : Nat) (cy2 : Int32) (my2 : Int32) (tS : Nat → Nat) (nS : Nat → Nat) (rS : Nat → Nat → Nat) (wS : Dt) (bS : Nat) (sS : Nat) (H : Heap) (locs : List Loc) (ls : Array Slot) (AS : Nat → Prop) (cells slots : Nat), K19 y0 y1 ay2 cy2 my2 tS nS rS wS bS sS → SB D tc (sa 3) AS tS nS rS wS H → (tS y0 = 7) → (tS ay2 = 8) → (IT D qy2 ay2 cy2 my2 H) → (¬ AS qy2) → (Am qy2) → (∀ x, AS x → Am x) → (∀ x, H.size ≤ x → AS x) → Ext t0 tS → cells + bS ≤ b0 → slots + sS ≤ s0 → va_S Am s.heap H locs → lv_has ls 4 [(0, .ref y0), (1, .int y1), (2, .ref qy2)] → W p l e (rm_X13_thereShare b0 s0) s m args below meth c H locs cells slots (MQ below (QB (fun u : UInt32 × (Nat → Nat) × (Nat → Nat) × (Nat → Nat → Nat) × Dt => post u.1 u.2.1 u.2.2.1 u.2.2.2.1 u.2.2.2.2) (fun (u : UInt32 × (Nat → Nat) × (Nat → Nat) × (Nat → Nat → Nat) × Dt) (H1 : Heap) => SB D tc (sa 3) Am u.2.1 u.2.2.1 u.2.2.2.1 u.2.2.2.2 H1 ∧ Ext t0 u.2.1) (fun u : UInt32 × (Nat → Nat) × (Nat → Nat) × (Nat → Nat → Nat) × Dt => some (.float u.1)) Am) args s (rm_X13_thereShare b0 s0).cells (rm_X13_thereShare b0 s0).slots Am) (F0 m 19 ls [])), ∀ (qy2 : Nat) (y0 : Nat) (ay2 : Nat) (cy2 : Int32) (my2 : Int32) (z0 : Int32) (z1 : Int32) (tS : Nat → Nat) (nS : Nat → Nat) (rS : Nat → Nat → Nat) (wS : Dt) (bS : Nat) (sS : Nat) (H : Heap) (locs : List Loc) (ls : Array Slot) (AS : Nat → Prop) (cells slots : Nat), wp_X13_thereShare_51 post  K19 y0 ay2 cy2 my2 z0 z1 tS nS rS wS bS sS → SB D tc (sa 3) AS tS nS rS wS H → (tS y0 = 7) → (tS ay2 = 8) → (IT D qy2 ay2 cy2 my2 H) → (¬ AS qy2) → (Am qy2) → (∀ x, AS x → Am x) → (∀ x, H.size ≤ x → AS x) → Ext t0 tS → cells + bS ≤ b0 → slots + sS ≤ s0 → va_S Am s.heap H locs → lv_has ls 4 [(0, .ref y0), (2, .ref qy2)] → W p l e (rm_X13_thereShare b0 s0) s m args below meth c H locs cells slots (MQ below (QB (fun u : UInt32 × (Nat → Nat) × (Nat → Nat) × (Nat → Nat → Nat) × Dt => post u.1 u.2.1 u.2.2.1 u.2.2.2.1 u.2.2.2.2) (fun (u : UInt32 × (Nat → Nat) × (Nat → Nat) × (Nat → Nat → Nat) × Dt) (H1 : Heap) => SB D tc (sa 3) Am u.2.1 u.2.2.1 u.2.2.2.1 u.2.2.2.2 H1 ∧ Ext t0 u.2.1) (fun u : UInt32 × (Nat → Nat) × (Nat → Nat) × (Nat → Nat → Nat) × Dt => some (.float u.1)) Am) args s (rm_X13_thereShare b0 s0).cells (rm_X13_thereShare b0 s0).slots Am) (F0 m 51 ls [.int z0, .int z1]) := by
  intro p l e s m args below meth c D tc h0 sa Am b0 s0 t0 post  K19 X hr hT hA0 hAm9 hK19 qy2 y0 ay2 cy2 my2 z0 z1 tS nS rS wS bS sS H locs ls AS cells slots hw hB hky0 hky2 hIy2 hny2 hmy2 hAS hAF hX hc hs hS hl
  have hx := X.1
  have hb := X.2.1
  have hown := X.2.2.2.1
  have hU := X.2.2.2.2.1.1
  unfold wp_X13_thereShare_51 at hw
  refine lv_iadd hx hb dX13_thereShare_51 ?_
  refine lv_istore_n (lv' := [(1, .int (z1 + z0)), (0, .ref y0), (2, .ref qy2)]) hx hb dX13_thereShare_52 rfl hl (by decide) rfl (fun ls hl => ?_)
  refine lv_goto (tgt := 19) hx hb dX13_thereShare_53 (by decide) ?_
  exact hK19 qy2 y0 (z1 + z0) ay2 cy2 my2 tS nS rS wS bS sS _ _ _ _ _ _ hw hB hky0 hky2 hIy2 hny2 hmy2 hAS hAF hX hc hs hS (lv_sub hl [1, 0, 2] rfl)
def wp_X13_thereShare_19 (post : UInt32 → (Nat → Nat) → (Nat → Nat) → (Nat → Nat → Nat) → Dt → Prop)   : Nat → (Nat) → (Int32) → (Nat) → (Int32) → (Int32) → (Nat → Nat) → (Nat → Nat) → (Nat → Nat → Nat) → (Dt) → (Nat) → (Nat) → Prop
  | 0, _, _, _, _, _, _, _, _, _, _, _ => False
  | n9 + 1, y0, y1, ay2, cy2, my2, tS, nS, rS, wS, bS, sS => (cy2 = nI (nS ay2) → wp_X13_fails (fun r11 wS12 => (r11 = 0 → vf_n32 (FP.fdiv (FP.i2f y1) (FP.i2f (nI (nS (rS (rS y0 1) 8))))) ∧ (wp_X13_thereShare_96 post   (FP.fdiv (FP.i2f y1) (FP.i2f (nI (nS (rS (rS y0 1) 8))))) tS nS rS wS12 bS sS)) ∧ (¬ r11 = 0 → wp_X13_thereShare_96 post   0 tS nS rS wS12 bS sS)) tS nS rS wS y0 (if nS (rS (rS y0 1) 8) = 0 then 1 else 0) 1) ∧ (¬ cy2 = nI (nS ay2) → vp_in cy2 (nS ay2) ∧ (wS ay2 0 = my2 ∧ (((wS (rS ay2 cy2.toNatClampNeg) 5) = 0 → wp_X13_thereShare_51 post  (fun a0 a1 a2 a3 a4 a5 a6 a7 a8 a9 a10 => wp_X13_thereShare_19 post   n9 a0 a1 a2 a3 a4 a5 a6 a7 a8 a9 a10) y0 ay2 (cy2 + 1) my2 1 y1 tS nS rS wS bS sS) ∧ (¬ (wS (rS ay2 cy2.toNatClampNeg) 5) = 0 → wp_X13_thereShare_51 post  (fun a0 a1 a2 a3 a4 a5 a6 a7 a8 a9 a10 => wp_X13_thereShare_19 post   n9 a0 a1 a2 a3 a4 a5 a6 a7 a8 a9 a10) y0 ay2 (cy2 + 1) my2 0 y1 tS nS rS wS bS sS))))
set_option maxHeartbeats 4000000 in
set_option maxRecDepth 100000 in
theorem t_X13_thereShare_19 : ∀ {p : Program} {l : Launch} {e : Env} {s : State} {m : MethodId} {args : Array Value} {below : List Frame} {meth : Method} {c : Code} {D : va_G} {tc : Nat → ClassId} {h0 : Nat} {sa : Nat → Nat} {Am : Nat → Prop} {b0 s0 : Nat} {t0 : Nat → Nat} {post : UInt32 → (Nat → Nat) → (Nat → Nat) → (Nat → Nat → Nat) → Dt → Prop}   (X : Cx p c s m meth cX13_thereShare 4 RX13 D tc) (hr : meth.sig.returnType = (Option.some FieldType.float)) (hT : ST h0 sa s s.heap) (hA0 : ∀ q, Am q → h0 ≤ q) (hAm9 : ∀ x, s.heap.size ≤ x → Am x)  (n9 : Nat), ∀ (qy2 : Nat) (y0 : Nat) (y1 : Int32) (ay2 : Nat) (cy2 : Int32) (my2 : Int32) (tS : Nat → Nat) (nS : Nat → Nat) (rS : Nat → Nat → Nat) (wS : Dt) (bS : Nat) (sS : Nat) (H : Heap) (locs : List Loc) (ls : Array Slot) (AS : Nat → Prop) (cells slots : Nat), wp_X13_thereShare_19 post   n9 y0 y1 ay2 cy2 my2 tS nS rS wS bS sS → SB D tc (sa 3) AS tS nS rS wS H → (tS y0 = 7) → (tS ay2 = 8) → (IT D qy2 ay2 cy2 my2 H) → (¬ AS qy2) → (Am qy2) → (∀ x, AS x → Am x) → (∀ x, H.size ≤ x → AS x) → Ext t0 tS → cells + bS ≤ b0 → slots + sS ≤ s0 → va_S Am s.heap H locs → lv_has ls 4 [(0, .ref y0), (1, .int y1), (2, .ref qy2)] → W p l e (rm_X13_thereShare b0 s0) s m args below meth c H locs cells slots (MQ below (QB (fun u : UInt32 × (Nat → Nat) × (Nat → Nat) × (Nat → Nat → Nat) × Dt => post u.1 u.2.1 u.2.2.1 u.2.2.2.1 u.2.2.2.2) (fun (u : UInt32 × (Nat → Nat) × (Nat → Nat) × (Nat → Nat → Nat) × Dt) (H1 : Heap) => SB D tc (sa 3) Am u.2.1 u.2.2.1 u.2.2.2.1 u.2.2.2.2 H1 ∧ Ext t0 u.2.1) (fun u : UInt32 × (Nat → Nat) × (Nat → Nat) × (Nat → Nat → Nat) × Dt => some (.float u.1)) Am) args s (rm_X13_thereShare b0 s0).cells (rm_X13_thereShare b0 s0).slots Am) (F0 m 19 ls []) := by
  intro p l e s m args below meth c D tc h0 sa Am b0 s0 t0 post   X hr hT hA0 hAm9  n9
  have hx := X.1
  have hb := X.2.1
  have hown := X.2.2.2.1
  have hU := X.2.2.2.2.1.1
  induction n9 with
  | zero =>
    intro qy2 y0 y1 ay2 cy2 my2 tS nS rS wS bS sS H locs ls AS cells slots hw
    exact hw.elim
  | succ n9 ih =>
    intro qy2 y0 y1 ay2 cy2 my2 tS nS rS wS bS sS H locs ls AS cells slots hw hB hky0 hky2 hIy2 hny2 hmy2 hAS hAF hX hc hs hS hl
    unfold wp_X13_thereShare_19 at hw
    refine lv_aload_n hx hb dX13_thereShare_19 rfl (lv_at hl 2 rfl) ?_
    have hI9 := hIy2
    obtain ⟨lr9, hat9⟩ := hI9
    refine g_after5 (st0 := [.ref qy2]) (rest := []) (g_F X mf_X13_276 (c_hn l D tc h0 sa _ qy2 ay2 hB (isL_of hky2) hIy2) rfl hat9 hT hS hA0 dX13_thereShare_20 hl.1 rfl rfl ⟨Nat.le_of_ble_eq_true rfl, Nat.le_of_ble_eq_true rfl⟩ (Nat.le_of_ble_eq_true rfl) ⟨show cells + 0 ≤ b0 by omega, show slots + 0 ≤ s0 by omega⟩) hS (fun _ h => h.elim) (fun u => .int (if cy2 = nI (nS ay2) then 0 else 1) :: []) (fun _ => rfl) (fun u H9 locs hu hP9 hz9 hk9 hS => ?_)
    have e9 : H9 = _ := hP9
    rw [e9] at hS ⊢
    refine W.widen (k := cells) (n := slots) (Nat.le_refl _) (Nat.le_refl _) ?_
    refine lv_if_eq (tgt := 56) hx hb dX13_thereShare_25 (by decide) (fun c8 => ?_) (fun c8 => ?_)
    · have hw := hw.1 (hn_eq c8)
      refine lv_aload_n hx hb dX13_thereShare_56 rfl (lv_at hl 0 rfl) ?_
      refine lv_aload_n hx hb dX13_thereShare_57 rfl (lv_at hl 0 rfl) ?_
      refine g_get X dX13_thereShare_58 f_X13_34 (hB.one (k := 7) hky0 rfl) 0 (v := .ref (rS y0 1)) rfl rfl ?_
      have k9 : tS (rS y0 1) = 4 := (hB.wtk hky0).1
      refine g_getN X dX13_thereShare_61 f_X13_139 (hB.one (k := 4) k9 rfl) 0 (v := .ref (rS (rS y0 1) 8)) rfl rfl ?_
      have k10 : tS (rS (rS y0 1) 8) = 8 := (hB.wtk k9).2.2.2.2.1
      obtain ⟨fs9, hat9⟩ := hB.lat (isL_of k10)
      refine g_after5 (st0 := [.ref (rS (rS y0 1) 8), .ref y0]) (rest := [.ref y0]) (g_F X mf_X13_256 (c_emp l D tc h0 sa _ (rS (rS y0 1) 8) hB (isL_of k10)) rfl hat9 hT hS hA0 dX13_thereShare_64 hl.1 rfl rfl ⟨Nat.le_of_ble_eq_true rfl, Nat.le_of_ble_eq_true rfl⟩ (Nat.le_of_ble_eq_true rfl) ⟨show cells + 0 ≤ b0 by omega, show slots + 0 ≤ s0 by omega⟩) hS (fun _ h => h.elim) (fun u => .int (if nS (rS (rS y0 1) 8) = 0 then 1 else 0) :: [.ref y0]) (fun _ => rfl) (fun u H9 locs hu hP9 hz9 hk9 hS => ?_)
      have e9 : H9 = _ := hP9
      rw [e9] at hS ⊢
      refine W.widen (k := cells) (n := slots) (Nat.le_refl _) (Nat.le_refl _) ?_
      refine lv_iconst (v := 1) hx hb dX13_thereShare_69 (by decide) ?_
      refine g_after (st0 := [.int 1, .int (if nS (rS (rS y0 1) 8) = 0 then 1 else 0), .ref y0]) (rest := []) (g_V X m_X13_57 (c_X13_fails l D tc h0 sa y0 (if nS (rS (rS y0 1) 8) = 0 then 1 else 0) 1 _ hB hky0 (fun x h => hA0 x (hAS x h)) hw) (recv1 X.2.2.2.2.1 rfl (hB.at (k := 7) hky0 rfl)) hT hS hA0 dX13_thereShare_70 hl.1 rfl rfl ⟨Nat.le_of_ble_eq_true rfl, Nat.le_of_ble_eq_true rfl⟩ (Nat.le_of_ble_eq_true rfl) ⟨show cells + 0 ≤ b0 by omega, show slots + 0 ≤ s0 by omega⟩) hS hAS (fun u => .int u.1 :: []) (fun _ => rfl) (fun u H locs hw hP9 hz9 hk9 hS => ?_)
      obtain ⟨r11, wS12⟩ := u
      try dsimp only at hw hP9
      have hB := hP9
      have hIy2 := hIy2.kept (fun x hx e => hk9 x hx (fun hA => hny2 (e ▸ hA)))
      have hAF : ∀ x, H.size ≤ x → AS x := fun x h => hAF x (by omega)
      refine W.widen (k := cells) (n := slots) (Nat.le_refl _) (Nat.le_refl _) ?_
      refine lv_if_eq (tgt := 80) hx hb dX13_thereShare_73 (by decide) (fun c13 => ?_) (fun c13 => ?_)
      · have hw := hw.1 c13
        refine lv_iload_n hx hb dX13_thereShare_80 rfl (lv_at hl 1 rfl) ?_
        refine lv_i2f hx hb dX13_thereShare_81 ?_
        refine lv_aload_n hx hb dX13_thereShare_82 rfl (lv_at hl 0 rfl) ?_
        refine g_get X dX13_thereShare_83 f_X13_34 (hB.one (k := 7) hky0 rfl) 0 (v := .ref (rS y0 1)) rfl rfl ?_
        have k14 : tS (rS y0 1) = 4 := (hB.wtk hky0).1
        refine g_getN X dX13_thereShare_86 f_X13_139 (hB.one (k := 4) k14 rfl) 0 (v := .ref (rS (rS y0 1) 8)) rfl rfl ?_
        have k15 : tS (rS (rS y0 1) 8) = 8 := (hB.wtk k14).2.2.2.2.1
        obtain ⟨fs9, hat9⟩ := hB.lat (isL_of k15)
        refine g_after5 (st0 := [.ref (rS (rS y0 1) 8), .float (FP.i2f y1)]) (rest := [.float (FP.i2f y1)]) (g_F X mf_X13_7 (c_size l D tc h0 sa _ (rS (rS y0 1) 8) hB (isL_of k15)) rfl hat9 hT hS hA0 dX13_thereShare_89 hl.1 rfl rfl ⟨Nat.le_of_ble_eq_true rfl, Nat.le_of_ble_eq_true rfl⟩ (Nat.le_of_ble_eq_true rfl) ⟨show cells + 0 ≤ b0 by omega, show slots + 0 ≤ s0 by omega⟩) hS (fun _ h => h.elim) (fun u => .int (nI (nS (rS (rS y0 1) 8))) :: [.float (FP.i2f y1)]) (fun _ => rfl) (fun u H9 locs hu hP9 hz9 hk9 hS => ?_)
        have e9 : H9 = _ := hP9
        rw [e9] at hS ⊢
        refine W.widen (k := cells) (n := slots) (Nat.le_refl _) (Nat.le_refl _) ?_
        refine lv_i2f hx hb dX13_thereShare_94 ?_
        obtain ⟨o16, hw⟩ := hw
        refine lv_fdiv hx hb dX13_thereShare_95 o16 ?_
        exact t_X13_thereShare_96 X hr hT hA0 hAm9  (FP.fdiv (FP.i2f y1) (FP.i2f (nI (nS (rS (rS y0 1) 8))))) tS nS rS wS12 bS sS _ _ _ _ _ _ hw hB  hAS hAF hX hc hs hS (lv_sub hl [] rfl)
      · have hw := hw.2 c13
        refine lv_fconst0 hx hb dX13_thereShare_76 ?_
        refine lv_goto (tgt := 96) hx hb dX13_thereShare_77 (by decide) ?_
        exact t_X13_thereShare_96 X hr hT hA0 hAm9  0 tS nS rS wS12 bS sS _ _ _ _ _ _ hw hB  hAS hAF hX hc hs hS (lv_sub hl [] rfl)
    · have hw := hw.2 (hn_ne c8)
      refine lv_aload_n hx hb dX13_thereShare_28 rfl (lv_at hl 2 rfl) ?_
      have hI9 := hIy2
      obtain ⟨lr9, hat9⟩ := hI9
      obtain ⟨o17, hw⟩ := hw
      obtain ⟨o18, hw⟩ := hw
      refine g_after5 (st0 := [.ref qy2]) (rest := []) (g_F X mf_X13_281 (c_nx l D tc h0 sa _ qy2 ay2 hB (isL_of hky2) hIy2 o18 o17 hny2 (hA0 _ hmy2)) rfl hat9 hT hS hA0 dX13_thereShare_29 hl.1 rfl rfl ⟨Nat.le_of_ble_eq_true rfl, Nat.le_of_ble_eq_true rfl⟩ (Nat.le_of_ble_eq_true rfl) ⟨show cells + 0 ≤ b0 by omega, show slots + 0 ≤ s0 by omega⟩) hS (fun x h => h ▸ hmy2) (fun u => .ref (rS ay2 cy2.toNatClampNeg) :: []) (fun _ => rfl) (fun u H locs hu hP9 hz9 hk9 hS => ?_)
      refine W.widen (k := cells) (n := slots) (Nat.le_refl _) (Nat.le_refl _) ?_
      have hB := hB.kept (fun x hx hA => hk9 x hx (fun e => hny2 (e ▸ hA)))
      have hAF : ∀ x, H.size ≤ x → AS x := fun x h => hAF x (by omega)
      have hIy2 := hP9
      have k19 : tS (rS ay2 cy2.toNatClampNeg) = 3 := hB.elt hky2 (lt10 o17)
      refine x_cast X w_1435 rfl (hB.at (k := 3) k19 rfl) dX13_thereShare_34 ?_
      refine lv_astore_n (lv' := [(3, .ref (rS ay2 cy2.toNatClampNeg)), (0, .ref y0), (1, .int y1), (2, .ref qy2)]) hx hb dX13_thereShare_37 rfl hl (by decide) rfl (fun ls hl => ?_)
      refine lv_iload_n hx hb dX13_thereShare_38 rfl (lv_at hl 2 rfl) ?_
      refine lv_aload_n hx hb dX13_thereShare_39 rfl (lv_at hl 0 rfl) ?_
      refine g_getN X dX13_thereShare_40 f_X13_167 (hB.one (k := 3) k19 rfl) 0 (v := .int (wS (rS ay2 cy2.toNatClampNeg) 5)) rfl rfl ?_
      refine lv_if_eq (tgt := 50) hx hb dX13_thereShare_43 (by decide) (fun c20 => ?_) (fun c20 => ?_)
      · have hw := hw.1 c20
        refine lv_iconst (v := 1) hx hb dX13_thereShare_50 (by decide) ?_
        exact t_X13_thereShare_51 X hr hT hA0 hAm9 ih qy2 y0 ay2 (cy2 + 1) my2 1 y1 tS nS rS wS bS sS _ _ _ _ _ _ hw hB hky0 hky2 hIy2 hny2 hmy2 hAS hAF hX hc hs hS (lv_sub hl [1, 3] rfl)
      · have hw := hw.2 c20
        refine lv_iconst (v := 0) hx hb dX13_thereShare_46 (by decide) ?_
        refine lv_goto (tgt := 51) hx hb dX13_thereShare_47 (by decide) ?_
        exact t_X13_thereShare_51 X hr hT hA0 hAm9 ih qy2 y0 ay2 (cy2 + 1) my2 0 y1 tS nS rS wS bS sS _ _ _ _ _ _ hw hB hky0 hky2 hIy2 hny2 hmy2 hAS hAF hX hc hs hS (lv_sub hl [1, 3] rfl)
def wp_X13_thereShare (post : UInt32 → (Nat → Nat) → (Nat → Nat) → (Nat → Nat → Nat) → Dt → Prop)  (tS : Nat → Nat) (nS : Nat → Nat) (rS : Nat → Nat → Nat) (wS : Dt) (bS : Nat) (sS : Nat) (x0 : Nat) : Prop := wp_X13_begins (fun wS1 => 1 ≤ bS ∧ (4 ≤ sS ∧ (∃ k9 : Nat, wp_X13_thereShare_19 post   k9 x0 0 (rS (rS x0 1) 8) (0 : Int32) (wS1 (rS (rS x0 1) 8) 0) tS nS rS wS1 (bS - 1) (sS - 4)))) tS nS rS wS x0
set_option maxHeartbeats 4000000 in
set_option maxRecDepth 100000 in
theorem c_X13_thereShare (l : Launch) (D : va_G) (tc : Nat → ClassId) (h0 : Nat) (sa : Nat → Nat) (x0 : Nat) (b0 s0 : Nat) {Am : Nat → Prop} (H0 : Heap) {tS nS : Nat → Nat} {rS : Nat → Nat → Nat} {wS : Dt} (hB : SB D tc (sa 3) Am tS nS rS wS H0) (hkx0 : tS x0 = 7) (hA0 : ∀ q, Am q → h0 ≤ q) (hAF : ∀ x, H0.size ≤ x → Am x) {post : UInt32 → (Nat → Nat) → (Nat → Nat) → (Nat → Nat → Nat) → Dt → Prop} (hw : wp_X13_thereShare post  tS nS rS wS b0 s0 x0) : MB l yX13_thereShare cX13_thereShare 4 (Option.some FieldType.float) (rm_X13_thereShare b0 s0) Am [.ref x0] D tc h0 sa H0 (fun u : UInt32 × (Nat → Nat) × (Nat → Nat) × (Nat → Nat → Nat) × Dt => post u.1 u.2.1 u.2.2.1 u.2.2.2.1 u.2.2.2.2) (fun (u : UInt32 × (Nat → Nat) × (Nat → Nat) × (Nat → Nat → Nat) × Dt) (H1 : Heap) => SB D tc (sa 3) Am u.2.1 u.2.2.1 u.2.2.2.1 u.2.2.2.2 H1 ∧ Ext tS u.2.1) (fun u : UInt32 × (Nat → Nat) × (Nat → Nat) × (Nat → Nat → Nat) × Dt => some (.float u.1)) := by
  refine MB.of RX13 [(0, .ref x0)] (by decide +kernel) rfl (Nat.le_of_ble_eq_true rfl) rfl ?_
  intro p e s m below meth c ls X hr hin hT hH hS hl
  subst hH
  have hx := X.1
  have hb := X.2.1
  have hown := X.2.2.2.1
  have hU := X.2.2.2.2.1.1
  unfold wp_X13_thereShare at hw
  obtain ⟨A, eA⟩ : ∃ z, z = Am := ⟨_, rfl⟩
  have hB : SB D tc (sa 3) A tS nS rS wS s.heap := by rw [eA]; exact hB
  have hAm9 := hAF
  have hAF : ∀ x, s.heap.size ≤ x → A x := by rw [eA]; exact hAF
  have hAS : ∀ x, A x → Am x := by rw [eA]; exact fun _ h => h
  have hX : Ext tS tS := Ext.rf
  obtain ⟨bS, ebS⟩ : ∃ z, z = b0 := ⟨_, rfl⟩
  obtain ⟨sS, esS⟩ : ∃ z, z = s0 := ⟨_, rfl⟩
  rw [← ebS, ← esS] at hw
  refine W_bud (b := bS) (s1 := sS) (B := b0) (S := s0) (show 0 + bS ≤ b0 by omega) (show 0 + sS ≤ s0 by omega) (fun cells slots hc hs => ?_)
  refine lv_aload_n hx hb dX13_thereShare_0 rfl (lv_at hl 0 rfl) ?_
  refine g_after (st0 := [.ref x0]) (rest := []) (g_V X m_X13_61 (c_X13_begins l D tc h0 sa x0 _ hB hkx0 (fun x h => hA0 x (hAS x h)) hw) (recv1 X.2.2.2.2.1 rfl (hB.at (k := 7) hkx0 rfl)) hT hS hA0 dX13_thereShare_1 hl.1 rfl rfl ⟨Nat.le_of_ble_eq_true rfl, Nat.le_of_ble_eq_true rfl⟩ (Nat.le_of_ble_eq_true rfl) ⟨show cells + 0 ≤ b0 by omega, show slots + 0 ≤ s0 by omega⟩) hS hAS (fun u => []) (fun _ => rfl) (fun u H locs hw hP9 hz9 hk9 hS => ?_)
  obtain ⟨wS1, rfl⟩ : ∃ z, z = u := ⟨_, rfl⟩
  try dsimp only at hw hP9
  have hB := hP9
  have hAF : ∀ x, H.size ≤ x → A x := fun x h => hAF x (by omega)
  refine W.widen (k := cells) (n := slots) (Nat.le_refl _) (Nat.le_refl _) ?_
  refine lv_iconst (v := 0) hx hb dX13_thereShare_4 (by decide) ?_
  refine lv_istore_n (lv' := [(1, .int 0), (0, .ref x0)]) hx hb dX13_thereShare_5 rfl hl (by decide) rfl (fun ls hl => ?_)
  refine lv_aload_n hx hb dX13_thereShare_6 rfl (lv_at hl 1 rfl) ?_
  refine g_get X dX13_thereShare_7 f_X13_34 (hB.one (k := 7) hkx0 rfl) 0 (v := .ref (rS x0 1)) rfl rfl ?_
  have k2 : tS (rS x0 1) = 4 := (hB.wtk hkx0).1
  refine g_getN X dX13_thereShare_10 f_X13_139 (hB.one (k := 4) k2 rfl) 0 (v := .ref (rS (rS x0 1) 8)) rfl rfl ?_
  have k3 : tS (rS (rS x0 1) 8) = 8 := (hB.wtk k2).2.2.2.2.1
  obtain ⟨fs9, hat9⟩ := hB.lat (isL_of k3)
  obtain ⟨o4, hw⟩ := hw
  obtain ⟨o5, hw⟩ := hw
  refine g_after5 (st0 := [.ref (rS (rS x0 1) 8)]) (rest := []) (g_F X mf_X13_272 (c_itr l D tc h0 sa _ (rS (rS x0 1) 8) hB (isL_of k3) (fun x h => hA0 x (hAS x (hAF x h)))) rfl hat9 hT hS hA0 dX13_thereShare_13 hl.1 rfl rfl ⟨Nat.le_of_ble_eq_true rfl, Nat.le_of_ble_eq_true rfl⟩ (Nat.le_of_ble_eq_true rfl) ⟨show cells + 1 ≤ b0 by omega, show slots + 4 ≤ s0 by omega⟩) hS (fun x h => hAS x (hAF x h)) (fun qi6 => .ref qi6 :: []) (fun _ => rfl) (fun qi6 H9 locs hu hP9 hz9 hk9 hS => ?_)
  obtain ⟨hq9, hqz, hIi6⟩ := hP9
  have o1 := fun x hx => hk9 x hx (fun h => by omega)
  have hmi6 : Am qi6 := hAS _ (hAF _ hq9)
  have hB := hB.off hq9 o1
  have hni6 : ¬ (fun x => A x ∧ x ≠ qi6) qi6 := fun h => h.2 rfl
  have hAF : ∀ x, H9.size ≤ x → (fun x => A x ∧ x ≠ qi6) x := fun x h => ⟨hAF x (by omega), fun e => by omega⟩
  have hAS : ∀ x, (fun x => A x ∧ x ≠ qi6) x → Am x := fun x h => hAS x h.1
  obtain ⟨AS7, eAS7⟩ : ∃ z : Nat → Prop, z = (fun x => A x ∧ x ≠ qi6) := ⟨_, rfl⟩
  rw [← eAS7] at hB hAF hAS hni6 
  refine W_bud (b := (bS - 1)) (s1 := (sS - 4)) (B := b0) (S := s0) (show (cells + 1) + (bS - 1) ≤ b0 by omega) (show (slots + 4) + (sS - 4) ≤ s0 by omega) (fun cells slots hc hs => ?_)
  refine lv_astore_n (lv' := [(2, .ref qi6), (1, .int 0), (0, .ref x0)]) hx hb dX13_thereShare_18 rfl hl (by decide) rfl (fun ls hl => ?_)
  obtain ⟨k9, hw⟩ := hw
  exact t_X13_thereShare_19 X hr hT hA0 hAm9  k9 qi6 x0 0 (rS (rS x0 1) 8) (0 : Int32) (wS1 (rS (rS x0 1) 8) 0) tS nS rS wS1 (bS - 1) (sS - 4) _ _ _ _ _ _ hw hB hkx0 k3 hIi6 hni6 hmi6 hAS hAF hX hc hs hS (lv_sub hl [2, 1, 0] rfl)
