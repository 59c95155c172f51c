/-! THE MODEL: storms, a turn -/
abbrev rm_X11_copy (b0 s0 : Nat) : Room := { frames := 2, cells := b0, slots := s0, locals := 40 }
def wp_X11_copy (post : Nat → (Nat → Nat) → (Nat → Nat) → (Nat → Nat → Nat) → Dt → Prop)  (tS : Nat → Nat) (nS : Nat → Nat) (rS : Nat → Nat → Nat) (wS : Dt) (bS : Nat) (sS : Nat) (x0 : Nat) : Prop := 1 ≤ bS ∧ (7 ≤ sS ∧ (∀ q1 : Nat, tS q1 = 0 → (∀ tS6 : Nat → Nat, tS6 = va_up tS q1 3 → (∀ wS7 : Dt, wS7 = va_up wS q1 stW → (∀ wS9 : Dt, wS9 = up2 wS7 q1 0 (wS7 x0 0) → (∀ wS10 : Dt, wS10 = up2 wS9 q1 1 (wS9 x0 1) → (∀ wS11 : Dt, wS11 = up2 wS10 q1 2 (wS10 x0 2) → (∀ wS12 : Dt, wS12 = up2 wS11 q1 3 (wS11 x0 3) → (narrow .char (.int (wS12 x0 4)) = .int (wS12 x0 4) ∧ (fits .char (.int (wS12 x0 4)) = true ∧ (∀ wS15 : Dt, wS15 = up2 wS12 q1 4 (wS12 x0 4) → (narrow .boolean (.int (wS15 x0 5)) = .int (wS15 x0 5) ∧ (fits .boolean (.int (wS15 x0 5)) = true ∧ (∀ wS18 : Dt, wS18 = up2 wS15 q1 5 (wS15 x0 5) → (∀ wS19 : Dt, wS19 = up2 wS18 q1 6 (wS18 x0 6) → (post q1 tS6 nS rS wS19))))))))))))))))
set_option maxHeartbeats 4000000 in
set_option maxRecDepth 100000 in
theorem c_X11_copy (l : Launch) (D : va_G) (tc : Nat → ClassId) (h0 : Nat) (sa : Nat → Nat) (x0 : Nat) (b0 s0 : Nat) {Am : Nat → Prop} (H0 : Heap) {tS nS : Nat → Nat} {rS : Nat → Nat → Nat} {wS : Dt} (hB : SB D tc (sa 3) Am tS nS rS wS H0) (hkx0 : tS x0 = 3) (hA0 : ∀ q, Am q → h0 ≤ q) (hAF : ∀ x, H0.size ≤ x → Am x) {post : Nat → (Nat → Nat) → (Nat → Nat) → (Nat → Nat → Nat) → Dt → Prop} (hw : wp_X11_copy post  tS nS rS wS b0 s0 x0) : MB l yX11_copy cX11_copy 2 (Option.some (FieldType.object "BandworldModel$Storm")) (rm_X11_copy b0 s0) Am [.ref x0] D tc h0 sa H0 (fun u : Nat × (Nat → Nat) × (Nat → Nat) × (Nat → Nat → Nat) × Dt => post u.1 u.2.1 u.2.2.1 u.2.2.2.1 u.2.2.2.2) (fun (u : Nat × (Nat → Nat) × (Nat → Nat) × (Nat → Nat → Nat) × Dt) (H1 : Heap) => SB D tc (sa 3) Am u.2.1 u.2.2.1 u.2.2.2.1 u.2.2.2.2 H1 ∧ Ext tS u.2.1 ∧ u.2.1 u.1 = 3) (fun u : Nat × (Nat → Nat) × (Nat → Nat) × (Nat → Nat → Nat) × Dt => some (.ref u.1)) := by
  refine MB.of RX11 [(0, .ref x0)] (by decide +kernel) rfl (Nat.le_of_ble_eq_true rfl) rfl ?_
  intro p e s m below meth c ls X hr hin hT hH hS hl
  subst hH
  have hx := X.1
  have hb := X.2.1
  have hown := X.2.2.2.1
  have hU := X.2.2.2.2.1.1
  unfold wp_X11_copy at hw
  obtain ⟨A, eA⟩ : ∃ z, z = Am := ⟨_, rfl⟩
  have hB : SB D tc (sa 3) A tS nS rS wS s.heap := by rw [eA]; exact hB
  have hAm9 := hAF
  have hAF : ∀ x, s.heap.size ≤ x → A x := by rw [eA]; exact hAF
  have hAS : ∀ x, A x → Am x := by rw [eA]; exact fun _ h => h
  have hX : Ext tS tS := Ext.rf
  obtain ⟨bS, ebS⟩ : ∃ z, z = b0 := ⟨_, rfl⟩
  obtain ⟨sS, esS⟩ : ∃ z, z = s0 := ⟨_, rfl⟩
  rw [← ebS, ← esS] at hw
  refine W_bud (b := bS) (s1 := sS) (B := b0) (S := s0) (show 0 + bS ≤ b0 by omega) (show 0 + sS ≤ s0 by omega) (fun cells slots hc hs => ?_)
  obtain ⟨o2, hw⟩ := hw
  obtain ⟨o3, hw⟩ := hw
  refine x_new (A := Am) X nw_X11_10 (fs := [.int 0, .int 0, .int 0, .int 0, .int 0, .int 0, .int 0]) (fun j hj => by rcases (show j = 0 ∨ j = 1 ∨ j = 2 ∨ j = 3 ∨ j = 4 ∨ j = 5 ∨ j = 6 by omega) with e | e | e | e | e | e | e <;> subst e <;> rfl) hS hAm9 ⟨show cells + 1 ≤ b0 by omega, show slots + 7 ≤ s0 by omega⟩ dX11_copy_0 (fun q1 H hq9 hat9 hAq hz9 hqz o1 hS => ?_)
  refine lv_dup hx hb dX11_copy_3 rfl ?_
  refine g_after (st0 := .ref q1 :: [.ref q1]) (rest := [.ref q1]) (g_I X m_X11_19 (c_in3 l D tc h0 sa _ q1 hat9 (hA0 _ hAq)) hT hS hA0 dX11_copy_4 hl.1 rfl rfl ⟨Nat.le_of_ble_eq_true rfl, Nat.le_of_ble_eq_true rfl⟩ (Nat.le_of_ble_eq_true rfl) ⟨show (cells + 1) + 0 ≤ b0 by omega, show (slots + 7) + 0 ≤ s0 by omega⟩) hS (fun x h => h ▸ hAq) (fun u => [.ref q1]) (fun _ => rfl) (fun u H locs hu hP9 hz8 hk9 hS => ?_)
  have o2 := fun x hx => (hk9 x (by omega) (fun e => by omega)).trans (o1 x hx)
  have hat9 := hP9
  obtain ⟨z4, hB, hX9, k5⟩ := hB.make (k := 3) (W := stW) (hAF q1 hq9) hq9 o2 rfl hat9 trivial
  have hAF : ∀ x, H.size ≤ x → A x := fun x h => hAF x (by omega)
  have hw := hw q1 z4
  obtain ⟨tS6, etS6⟩ : ∃ z : Nat → Nat, z = va_up tS q1 3 := ⟨_, rfl⟩
  rw [← etS6] at hB hX9 k5
  have hw := hw tS6 etS6
  obtain ⟨wS7, ewS7⟩ : ∃ z : Dt, z = va_up wS q1 stW := ⟨_, rfl⟩
  rw [← ewS7] at hB
  have hw := hw wS7 ewS7
  have hX := hX.trans hX9
  have k8 : tS6 x0 = 3 := hX9.to hkx0
  refine W_bud (b := (bS - 1)) (s1 := (sS - 7)) (B := b0) (S := s0) (show (cells + 1 + 0) + (bS - 1) ≤ b0 by omega) (show (slots + 7 + 0) + (sS - 7) ≤ s0 by omega) (fun cells slots hc hs => ?_)
  refine lv_astore_n (lv' := [(1, .ref q1), (0, .ref x0)]) hx hb dX11_copy_7 rfl hl (by decide) rfl (fun ls hl => ?_)
  refine lv_aload_n hx hb dX11_copy_8 rfl (lv_at hl 0 rfl) ?_
  refine lv_aload_n hx hb dX11_copy_9 rfl (lv_at hl 1 rfl) ?_
  refine g_get X dX11_copy_10 f_X11_20 (hB.one (k := 3) k8 rfl) 0 (v := .int (wS7 x0 0)) rfl rfl ?_
  refine g_puti X dX11_copy_13 f_X11_20 (hB.oneB (k := 3) hAS k5 rfl) hS 0 rfl (x := (wS7 x0 0)) rfl rfl rfl (fun H locs hb9 oq hS => ?_)
  have hB := hB.putB k5 rfl hb9 oq
  have hAF : ∀ x, H.size ≤ x → A x := fun x h => hAF x (Nat.le_trans (sz_of oq (hB.lt (by rw [k5]; decide)).1) h)
  obtain ⟨wS9, ewS9⟩ : ∃ z : Dt, z = up2 wS7 q1 0 (wS7 x0 0) := ⟨_, rfl⟩
  rw [← ewS9] at hB
  have hw := hw wS9 ewS9
  refine lv_aload_n hx hb dX11_copy_16 rfl (lv_at hl 0 rfl) ?_
  refine lv_aload_n hx hb dX11_copy_17 rfl (lv_at hl 1 rfl) ?_
  refine g_get X dX11_copy_18 f_X11_23 (hB.one (k := 3) k8 rfl) 0 (v := .int (wS9 x0 1)) rfl rfl ?_
  refine g_puti X dX11_copy_21 f_X11_23 (hB.oneB (k := 3) hAS k5 rfl) hS 0 rfl (x := (wS9 x0 1)) rfl rfl rfl (fun H locs hb9 oq hS => ?_)
  have hB := hB.putB k5 rfl hb9 oq
  have hAF : ∀ x, H.size ≤ x → A x := fun x h => hAF x (Nat.le_trans (sz_of oq (hB.lt (by rw [k5]; decide)).1) h)
  obtain ⟨wS10, ewS10⟩ : ∃ z : Dt, z = up2 wS9 q1 1 (wS9 x0 1) := ⟨_, rfl⟩
  rw [← ewS10] at hB
  have hw := hw wS10 ewS10
  refine lv_aload_n hx hb dX11_copy_24 rfl (lv_at hl 0 rfl) ?_
  refine lv_aload_n hx hb dX11_copy_25 rfl (lv_at hl 1 rfl) ?_
  refine g_get X dX11_copy_26 f_X11_26 (hB.one (k := 3) k8 rfl) 0 (v := .int (wS10 x0 2)) rfl rfl ?_
  refine g_puti X dX11_copy_29 f_X11_26 (hB.oneB (k := 3) hAS k5 rfl) hS 0 rfl (x := (wS10 x0 2)) rfl rfl rfl (fun H locs hb9 oq hS => ?_)
  have hB := hB.putB k5 rfl hb9 oq
  have hAF : ∀ x, H.size ≤ x → A x := fun x h => hAF x (Nat.le_trans (sz_of oq (hB.lt (by rw [k5]; decide)).1) h)
  obtain ⟨wS11, ewS11⟩ : ∃ z : Dt, z = up2 wS10 q1 2 (wS10 x0 2) := ⟨_, rfl⟩
  rw [← ewS11] at hB
  have hw := hw wS11 ewS11
  refine lv_aload_n hx hb dX11_copy_32 rfl (lv_at hl 0 rfl) ?_
  refine lv_aload_n hx hb dX11_copy_33 rfl (lv_at hl 1 rfl) ?_
  refine g_get X dX11_copy_34 f_X11_29 (hB.one (k := 3) k8 rfl) 0 (v := .int (wS11 x0 3)) rfl rfl ?_
  refine g_puti X dX11_copy_37 f_X11_29 (hB.oneB (k := 3) hAS k5 rfl) hS 0 rfl (x := (wS11 x0 3)) rfl rfl rfl (fun H locs hb9 oq hS => ?_)
  have hB := hB.putB k5 rfl hb9 oq
  have hAF : ∀ x, H.size ≤ x → A x := fun x h => hAF x (Nat.le_trans (sz_of oq (hB.lt (by rw [k5]; decide)).1) h)
  obtain ⟨wS12, ewS12⟩ : ∃ z : Dt, z = up2 wS11 q1 3 (wS11 x0 3) := ⟨_, rfl⟩
  rw [← ewS12] at hB
  have hw := hw wS12 ewS12
  refine lv_aload_n hx hb dX11_copy_40 rfl (lv_at hl 0 rfl) ?_
  refine lv_aload_n hx hb dX11_copy_41 rfl (lv_at hl 1 rfl) ?_
  refine g_get X dX11_copy_42 f_X11_9 (hB.one (k := 3) k8 rfl) 0 (v := .int (wS12 x0 4)) rfl rfl ?_
  obtain ⟨o13, hw⟩ := hw
  obtain ⟨o14, hw⟩ := hw
  refine g_puti X dX11_copy_45 f_X11_9 (hB.oneB (k := 3) hAS k5 rfl) hS 0 rfl (x := (wS12 x0 4)) rfl o13 o14 (fun H locs hb9 oq hS => ?_)
  have hB := hB.putB k5 rfl hb9 oq
  have hAF : ∀ x, H.size ≤ x → A x := fun x h => hAF x (Nat.le_trans (sz_of oq (hB.lt (by rw [k5]; decide)).1) h)
  obtain ⟨wS15, ewS15⟩ : ∃ z : Dt, z = up2 wS12 q1 4 (wS12 x0 4) := ⟨_, rfl⟩
  rw [← ewS15] at hB
  have hw := hw wS15 ewS15
  refine lv_aload_n hx hb dX11_copy_48 rfl (lv_at hl 0 rfl) ?_
  refine lv_aload_n hx hb dX11_copy_49 rfl (lv_at hl 1 rfl) ?_
  refine g_get X dX11_copy_50 f_X11_32 (hB.one (k := 3) k8 rfl) 0 (v := .int (wS15 x0 5)) rfl rfl ?_
  obtain ⟨o16, hw⟩ := hw
  obtain ⟨o17, hw⟩ := hw
  refine g_puti X dX11_copy_53 f_X11_32 (hB.oneB (k := 3) hAS k5 rfl) hS 0 rfl (x := (wS15 x0 5)) rfl o16 o17 (fun H locs hb9 oq hS => ?_)
  have hB := hB.putB k5 rfl hb9 oq
  have hAF : ∀ x, H.size ≤ x → A x := fun x h => hAF x (Nat.le_trans (sz_of oq (hB.lt (by rw [k5]; decide)).1) h)
  obtain ⟨wS18, ewS18⟩ : ∃ z : Dt, z = up2 wS15 q1 5 (wS15 x0 5) := ⟨_, rfl⟩
  rw [← ewS18] at hB
  have hw := hw wS18 ewS18
  refine lv_aload_n hx hb dX11_copy_56 rfl (lv_at hl 0 rfl) ?_
  refine lv_aload_n hx hb dX11_copy_57 rfl (lv_at hl 1 rfl) ?_
  refine g_get X dX11_copy_58 f_X11_15 (hB.one (k := 3) k8 rfl) 0 (v := .int (wS18 x0 6)) rfl rfl ?_
  refine g_puti X dX11_copy_61 f_X11_15 (hB.oneB (k := 3) hAS k5 rfl) hS 0 rfl (x := (wS18 x0 6)) rfl rfl rfl (fun H locs hb9 oq hS => ?_)
  have hB := hB.putB k5 rfl hb9 oq
  have hAF : ∀ x, H.size ≤ x → A x := fun x h => hAF x (Nat.le_trans (sz_of oq (hB.lt (by rw [k5]; decide)).1) h)
  obtain ⟨wS19, ewS19⟩ : ∃ z : Dt, z = up2 wS18 q1 6 (wS18 x0 6) := ⟨_, rfl⟩
  rw [← ewS19] at hB
  have hw := hw wS19 ewS19
  refine lv_aload_n hx hb dX11_copy_64 rfl (lv_at hl 0 rfl) ?_
  exact e_a X hr (Or.inl ⟨_, rfl⟩) (Or.inr ⟨_, rfl⟩) dX11_copy_65 hS (q1, tS6, nS, rS, wS19) rfl hw ⟨hB.regs hAS, hX, k5⟩ ⟨show cells ≤ b0 by omega, show slots ≤ s0 by omega⟩
abbrev rm_X12_notes (b0 s0 : Nat) : Room := { frames := 7, cells := b0, slots := s0, locals := 191 }
def wp_X12_notes_35 (post : (Nat → Nat) → (Nat → Nat) → (Nat → Nat → Nat) → Dt → Prop)   (tS : Nat → Nat) (nS : Nat → Nat) (rS : Nat → Nat → Nat) (wS : Dt) (bS : Nat) (sS : Nat) : Prop := post tS nS rS wS
set_option maxHeartbeats 4000000 in
set_option maxRecDepth 100000 in
theorem t_X12_notes_35 : ∀ {p : Program} {l : Launch} {e : Env} {s : State} {m : MethodId} {args : Array Value} {below : List Frame} {meth : Method} {c : Code} {D : va_G} {tc : Nat → ClassId} {h0 : Nat} {sa : Nat → Nat} {Am : Nat → Prop} {b0 s0 : Nat} {t0 : Nat → Nat} {post : (Nat → Nat) → (Nat → Nat) → (Nat → Nat → Nat) → Dt → Prop}   (X : Cx p c s m meth cX12_notes 3 RX12 D tc) (hr : meth.sig.returnType = (Option.none : Option FieldType)) (hT : ST h0 sa s s.heap) (hA0 : ∀ q, Am q → h0 ≤ q) (hAm9 : ∀ x, s.heap.size ≤ x → Am x) , ∀ (tS : Nat → Nat) (nS : Nat → Nat) (rS : Nat → Nat → Nat) (wS : Dt) (bS : Nat) (sS : Nat) (H : Heap) (locs : List Loc) (ls : Array Slot) (AS : Nat → Prop) (cells slots : Nat), wp_X12_notes_35 post   tS nS rS wS bS sS → SB D tc (sa 3) AS tS nS rS wS H → (∀ x, AS x → Am x) → (∀ x, H.size ≤ x → AS x) → Ext t0 tS → cells + bS ≤ b0 → slots + sS ≤ s0 → va_S Am s.heap H locs → lv_has ls 3 [] → W p l e (rm_X12_notes b0 s0) s m args below meth c H locs cells slots (MQ below (QB (fun u : (Nat → Nat) × (Nat → Nat) × (Nat → Nat → Nat) × Dt => post u.1 u.2.1 u.2.2.1 u.2.2.2) (fun (u : (Nat → Nat) × (Nat → Nat) × (Nat → Nat → Nat) × Dt) (H1 : Heap) => SB D tc (sa 3) Am u.1 u.2.1 u.2.2.1 u.2.2.2 H1 ∧ Ext t0 u.1) (fun _ : (Nat → Nat) × (Nat → Nat) × (Nat → Nat → Nat) × Dt => none) Am) args s (rm_X12_notes b0 s0).cells (rm_X12_notes b0 s0).slots Am) (F0 m 35 ls []) := by
  intro p l e s m args below meth c D tc h0 sa Am b0 s0 t0 post   X hr hT hA0 hAm9   tS nS rS wS bS sS H locs ls AS cells slots hw hB  hAS hAF hX hc hs hS hl
  have hx := X.1
  have hb := X.2.1
  have hown := X.2.2.2.1
  have hU := X.2.2.2.2.1.1
  unfold wp_X12_notes_35 at hw
  exact e_v X hr dX12_notes_35 hS (tS, nS, rS, wS) rfl hw ⟨hB.regs hAS, hX⟩ ⟨show cells ≤ b0 by omega, show slots ≤ s0 by omega⟩
def wp_X12_notes (post : (Nat → Nat) → (Nat → Nat) → (Nat → Nat → Nat) → Dt → Prop)  (tS : Nat → Nat) (nS : Nat → Nat) (rS : Nat → Nat → Nat) (wS : Dt) (bS : Nat) (sS : Nat) (x0 : Nat) (x1 : Int32) (x2 : Int32) : Prop := (60 ≤ (nI (nS (rS x0 10))) → wp_X12_notes_35 post   tS nS rS wS bS sS) ∧ (¬ 60 ≤ (nI (nS (rS x0 10))) → 1 ≤ bS ∧ (2 ≤ sS ∧ (∀ q6 : Nat, tS q6 = 0 → (∀ tS9 : Nat → Nat, tS9 = va_up tS q6 24 → (∀ wS10 : Dt, wS10 = va_up wS q6 (fun _ => 0) → (∀ wS13 : Dt, wS13 = up2 wS10 q6 0 x1 → (∀ wS14 : Dt, wS14 = up2 wS13 q6 1 x2 → (nS (rS x0 10) < 400 ∧ (1 ≤ (bS - 1) ∧ ((2 * (nS (rS x0 10)) + 10) ≤ (sS - 2) ∧ (∀ nS18 : Nat → Nat, nS18 = va_up nS (rS x0 10) (nS (rS x0 10) + 1) → (∀ rS19 : Nat → Nat → Nat, rS19 = va_up rS (rS x0 10) (va_up (rS (rS x0 10)) (nS (rS x0 10)) q6) → (∀ wS20 : Dt, wS20 = up2 wS14 (rS x0 10) 0 (wS14 (rS x0 10) 0 + 1) → (wp_X12_notes_35 post   tS9 nS18 rS19 wS20 ((bS - 1) - 1) ((sS - 2) - (2 * (nS (rS x0 10)) + 10))))))))))))))))
set_option maxHeartbeats 4000000 in
set_option maxRecDepth 100000 in
theorem c_X12_notes (l : Launch) (D : va_G) (tc : Nat → ClassId) (h0 : Nat) (sa : Nat → Nat) (x0 : Nat) (x1 : Int32) (x2 : Int32) (b0 s0 : Nat) {Am : Nat → Prop} (H0 : Heap) {tS nS : Nat → Nat} {rS : Nat → Nat → Nat} {wS : Dt} (hB : SB D tc (sa 3) Am tS nS rS wS H0) (hkx0 : tS x0 = 4) (hA0 : ∀ q, Am q → h0 ≤ q) (hAF : ∀ x, H0.size ≤ x → Am x) {post : (Nat → Nat) → (Nat → Nat) → (Nat → Nat → Nat) → Dt → Prop} (hw : wp_X12_notes post  tS nS rS wS b0 s0 x0 x1 x2) : MB l yX12_notes cX12_notes 3 (Option.none : Option FieldType) (rm_X12_notes b0 s0) Am [.ref x0, .int x1, .int x2] D tc h0 sa H0 (fun u : (Nat → Nat) × (Nat → Nat) × (Nat → Nat → Nat) × Dt => post u.1 u.2.1 u.2.2.1 u.2.2.2) (fun (u : (Nat → Nat) × (Nat → Nat) × (Nat → Nat → Nat) × Dt) (H1 : Heap) => SB D tc (sa 3) Am u.1 u.2.1 u.2.2.1 u.2.2.2 H1 ∧ Ext tS u.1) (fun _ : (Nat → Nat) × (Nat → Nat) × (Nat → Nat → Nat) × Dt => none) := by
  refine MB.of RX12 [(0, .ref x0), (1, .int x1), (2, .int x2)] (by decide +kernel) rfl (Nat.le_of_ble_eq_true rfl) rfl ?_
  intro p e s m below meth c ls X hr hin hT hH hS hl
  subst hH
  have hx := X.1
  have hb := X.2.1
  have hown := X.2.2.2.1
  have hU := X.2.2.2.2.1.1
  unfold wp_X12_notes at hw
  obtain ⟨A, eA⟩ : ∃ z, z = Am := ⟨_, rfl⟩
  have hB : SB D tc (sa 3) A tS nS rS wS s.heap := by rw [eA]; exact hB
  have hAm9 := hAF
  have hAF : ∀ x, s.heap.size ≤ x → A x := by rw [eA]; exact hAF
  have hAS : ∀ x, A x → Am x := by rw [eA]; exact fun _ h => h
  have hX : Ext tS tS := Ext.rf
  obtain ⟨bS, ebS⟩ : ∃ z, z = b0 := ⟨_, rfl⟩
  obtain ⟨sS, esS⟩ : ∃ z, z = s0 := ⟨_, rfl⟩
  rw [← ebS, ← esS] at hw
  refine W_bud (b := bS) (s1 := sS) (B := b0) (S := s0) (show 0 + bS ≤ b0 by omega) (show 0 + sS ≤ s0 by omega) (fun cells slots hc hs => ?_)
  refine lv_aload_n hx hb dX12_notes_0 rfl (lv_at hl 0 rfl) ?_
  refine g_get X dX12_notes_1 f_X12_40 (hB.one (k := 4) hkx0 rfl) 0 (v := .ref (rS x0 10)) rfl rfl ?_
  have k1 : tS (rS x0 10) = 15 := (hB.wtk hkx0).2.2.2.2.2.2
  obtain ⟨fs9, hat9⟩ := hB.lat (isL_of k1)
  refine g_after5 (st0 := [.ref (rS x0 10)]) (rest := []) (g_F X mf_X12_115 (c_size l D tc h0 sa _ (rS x0 10) hB (isL_of k1)) rfl hat9 hT hS hA0 dX12_notes_4 hl.1 rfl rfl ⟨Nat.le_of_ble_eq_true rfl, Nat.le_of_ble_eq_true rfl⟩ (Nat.le_of_ble_eq_true rfl) ⟨show cells + 0 ≤ b0 by omega, show slots + 0 ≤ s0 by omega⟩) hS (fun _ h => h.elim) (fun u => .int (nI (nS (rS x0 10))) :: []) (fun _ => rfl) (fun u H9 locs hu hP9 hz9 hk9 hS => ?_)
  have e9 : H9 = _ := hP9
  rw [e9] at hS ⊢
  refine W.widen (k := cells) (n := slots) (Nat.le_refl _) (Nat.le_refl _) ?_
  refine lv_bipush (v := 60) hx hb dX12_notes_9 (by decide) ?_
  refine lv_icmp_ge (tgt := 35) hx hb dX12_notes_11 (by decide) (fun c2 => ?_) (fun c2 => ?_)
  · have hw := hw.1 c2
    exact t_X12_notes_35 X hr hT hA0 hAm9  tS nS rS wS bS sS _ _ _ _ _ _ hw hB  hAS hAF hX hc hs hS (lv_sub hl [] rfl)
  · have hw := hw.2 c2
    refine lv_aload_n hx hb dX12_notes_14 rfl (lv_at hl 0 rfl) ?_
    refine g_get X dX12_notes_15 f_X12_40 (hB.one (k := 4) hkx0 rfl) 0 (v := .ref (rS x0 10)) rfl rfl ?_
    have k3 : tS (rS x0 10) = 15 := (hB.wtk hkx0).2.2.2.2.2.2
    refine lv_iconst (v := 2) hx hb dX12_notes_18 (by decide) ?_
    obtain ⟨o4, hw⟩ := hw
    obtain ⟨o5, hw⟩ := hw
    refine x_newa (A := Am) (n := 2) (N := 2) X (by decide) rfl (by decide) hS hAm9 ⟨show cells + 1 ≤ b0 by omega, show slots + 2 ≤ s0 by omega⟩ dX12_notes_19 (fun q6 H hq9 hat9 hAq hz9 hqz o1 hS => ?_)
    obtain ⟨z7, hB, hX9, k8⟩ := hB.make (k := 24) (W := (fun _ => 0)) (hAF q6 hq9) hq9 o1 rfl hat9 trivial
    have hAF : ∀ x, H.size ≤ x → A x := fun x h => hAF x (by omega)
    have hw := hw q6 z7
    obtain ⟨tS9, etS9⟩ : ∃ z : Nat → Nat, z = va_up tS q6 24 := ⟨_, rfl⟩
    rw [← etS9] at hB hX9 k8
    have hw := hw tS9 etS9
    obtain ⟨wS10, ewS10⟩ : ∃ z : Dt, z = va_up wS q6 (fun _ => 0) := ⟨_, rfl⟩
    rw [← ewS10] at hB
    have hw := hw wS10 ewS10
    have hX := hX.trans hX9
    have k11 : tS9 x0 = 4 := hX9.to hkx0
    have k12 : tS9 (rS x0 10) = 15 := hX9.to k3
    refine W_bud (b := (bS - 1)) (s1 := (sS - 2)) (B := b0) (S := s0) (show (cells + 1) + (bS - 1) ≤ b0 by omega) (show (slots + 2) + (sS - 2) ≤ s0 by omega) (fun cells slots hc hs => ?_)
    refine lv_dup hx hb dX12_notes_21 rfl ?_
    refine lv_iconst (v := 0) hx hb dX12_notes_22 (by decide) ?_
    refine lv_iload_n hx hb dX12_notes_23 rfl (lv_at hl 1 rfl) ?_
    refine g_iast X dX12_notes_24 (hB.oneB (k := 24) hAS k8 rfl) hS 0 rfl (by unfold vp_in; decide) (k := 0) (by decide) (fun H locs hb9 oq hS => ?_)
    have hB := hB.putB k8 rfl hb9 oq
    have hAF : ∀ x, H.size ≤ x → A x := fun x h => hAF x (Nat.le_trans (sz_of oq (hB.lt (by rw [k8]; decide)).1) h)
    obtain ⟨wS13, ewS13⟩ : ∃ z : Dt, z = up2 wS10 q6 0 x1 := ⟨_, rfl⟩
    rw [← ewS13] at hB
    have hw := hw wS13 ewS13
    refine lv_dup hx hb dX12_notes_25 rfl ?_
    refine lv_iconst (v := 1) hx hb dX12_notes_26 (by decide) ?_
    refine lv_iload_n hx hb dX12_notes_27 rfl (lv_at hl 2 rfl) ?_
    refine g_iast X dX12_notes_28 (hB.oneB (k := 24) hAS k8 rfl) hS 0 rfl (by unfold vp_in; decide) (k := 1) (by decide) (fun H locs hb9 oq hS => ?_)
    have hB := hB.putB k8 rfl hb9 oq
    have hAF : ∀ x, H.size ≤ x → A x := fun x h => hAF x (Nat.le_trans (sz_of oq (hB.lt (by rw [k8]; decide)).1) h)
    obtain ⟨wS14, ewS14⟩ : ∃ z : Dt, z = up2 wS13 q6 1 x2 := ⟨_, rfl⟩
    rw [← ewS14] at hB
    have hw := hw wS14 ewS14
    obtain ⟨fs9, hat9⟩ := hB.lat (isL_of k12)
    obtain ⟨o15, hw⟩ := hw
    obtain ⟨o16, hw⟩ := hw
    obtain ⟨o17, hw⟩ := hw
    refine g_after5 (st0 := [.ref q6, .ref (rS x0 10)]) (rest := []) (g_F X mf_X12_81 (c_add l D tc h0 sa _ (rS x0 10) q6 hB (isL_of k12) (by rw [k12, k8]; rfl) o15 (fun x h => hA0 x (hAS x h)) hAF) rfl hat9 hT hS hA0 dX12_notes_29 hl.1 rfl rfl ⟨Nat.le_of_ble_eq_true rfl, Nat.le_of_ble_eq_true rfl⟩ (Nat.le_of_ble_eq_true rfl) ⟨show cells + 1 ≤ b0 by omega, show slots + (2 * (nS (rS x0 10)) + 10) ≤ s0 by omega⟩) hS hAS (fun u => .int 1 :: []) (fun _ => rfl) (fun u H locs hu hP9 hz9 hk9 hS => ?_)
    have hB := hP9
    have hAF : ∀ x, H.size ≤ x → A x := fun x h => hAF x (by omega)
    refine W_bud (b := ((bS - 1) - 1)) (s1 := ((sS - 2) - (2 * (nS (rS x0 10)) + 10))) (B := b0) (S := s0) (show (cells + 1) + ((bS - 1) - 1) ≤ b0 by omega) (show (slots + (2 * (nS (rS x0 10)) + 10)) + ((sS - 2) - (2 * (nS (rS x0 10)) + 10)) ≤ s0 by omega) (fun cells slots hc hs => ?_)
    obtain ⟨nS18, enS18⟩ : ∃ z : Nat → Nat, z = va_up nS (rS x0 10) (nS (rS x0 10) + 1) := ⟨_, rfl⟩
    rw [← enS18] at hB
    have hw := hw nS18 enS18
    obtain ⟨rS19, erS19⟩ : ∃ z : Nat → Nat → Nat, z = va_up rS (rS x0 10) (va_up (rS (rS x0 10)) (nS (rS x0 10)) q6) := ⟨_, rfl⟩
    rw [← erS19] at hB
    have hw := hw rS19 erS19
    obtain ⟨wS20, ewS20⟩ : ∃ z : Dt, z = up2 wS14 (rS x0 10) 0 (wS14 (rS x0 10) 0 + 1) := ⟨_, rfl⟩
    rw [← ewS20] at hB
    have hw := hw wS20 ewS20
    refine lv_pop hx hb dX12_notes_34 rfl ?_
    exact t_X12_notes_35 X hr hT hA0 hAm9  tS9 nS18 rS19 wS20 ((bS - 1) - 1) ((sS - 2) - (2 * (nS (rS x0 10)) + 10)) _ _ _ _ _ _ hw hB  hAS hAF hX hc hs hS (lv_sub hl [] rfl)
abbrev rm_X12_meet (b0 s0 : Nat) : Room := { frames := 8, cells := b0, slots := s0, locals := 213 }
def wp_X12_meet_100 (post : (Nat → Nat) → (Nat → Nat) → (Nat → Nat → Nat) → Dt → Prop)   (tS : Nat → Nat) (nS : Nat → Nat) (rS : Nat → Nat → Nat) (wS : Dt) (bS : Nat) (sS : Nat) : Prop := post tS nS rS wS
set_option maxHeartbeats 4000000 in
set_option maxRecDepth 100000 in
theorem t_X12_meet_100 : ∀ {p : Program} {l : Launch} {e : Env} {s : State} {m : MethodId} {args : Array Value} {below : List Frame} {meth : Method} {c : Code} {D : va_G} {tc : Nat → ClassId} {h0 : Nat} {sa : Nat → Nat} {Am : Nat → Prop} {b0 s0 : Nat} {t0 : Nat → Nat} {post : (Nat → Nat) → (Nat → Nat) → (Nat → Nat → Nat) → Dt → Prop}   (X : Cx p c s m meth cX12_meet 10 RX12 D tc) (hr : meth.sig.returnType = (Option.none : Option FieldType)) (hT : ST h0 sa s s.heap) (hA0 : ∀ q, Am q → h0 ≤ q) (hAm9 : ∀ x, s.heap.size ≤ x → Am x) , ∀ (tS : Nat → Nat) (nS : Nat → Nat) (rS : Nat → Nat → Nat) (wS : Dt) (bS : Nat) (sS : Nat) (H : Heap) (locs : List Loc) (ls : Array Slot) (AS : Nat → Prop) (cells slots : Nat), wp_X12_meet_100 post   tS nS rS wS bS sS → SB D tc (sa 3) AS tS nS rS wS H → (∀ x, AS x → Am x) → (∀ x, H.size ≤ x → AS x) → Ext t0 tS → cells + bS ≤ b0 → slots + sS ≤ s0 → va_S Am s.heap H locs → lv_has ls 10 [] → W p l e (rm_X12_meet b0 s0) s m args below meth c H locs cells slots (MQ below (QB (fun u : (Nat → Nat) × (Nat → Nat) × (Nat → Nat → Nat) × Dt => post u.1 u.2.1 u.2.2.1 u.2.2.2) (fun (u : (Nat → Nat) × (Nat → Nat) × (Nat → Nat → Nat) × Dt) (H1 : Heap) => SB D tc (sa 3) Am u.1 u.2.1 u.2.2.1 u.2.2.2 H1 ∧ Ext t0 u.1) (fun _ : (Nat → Nat) × (Nat → Nat) × (Nat → Nat → Nat) × Dt => none) Am) args s (rm_X12_meet b0 s0).cells (rm_X12_meet b0 s0).slots Am) (F0 m 100 ls []) := by
  intro p l e s m args below meth c D tc h0 sa Am b0 s0 t0 post   X hr hT hA0 hAm9   tS nS rS wS bS sS H locs ls AS cells slots hw hB  hAS hAF hX hc hs hS hl
  have hx := X.1
  have hb := X.2.1
  have hown := X.2.2.2.1
  have hU := X.2.2.2.2.1.1
  unfold wp_X12_meet_100 at hw
  exact e_v X hr dX12_meet_100 hS (tS, nS, rS, wS) rfl hw ⟨hB.regs hAS, hX⟩ ⟨show cells ≤ b0 by omega, show slots ≤ s0 by omega⟩
def wp_X12_meet_246 (post : (Nat → Nat) → (Nat → Nat) → (Nat → Nat → Nat) → Dt → Prop)   (y0 : Nat) (y7 : Nat) (z0 : Int32) (z1 : Nat) (tS : Nat → Nat) (nS : Nat → Nat) (rS : Nat → Nat → Nat) (wS : Dt) (bS : Nat) (sS : Nat) : Prop := ∀ wS25 : Dt, wS25 = up2 wS z1 6 z0 → (∃ b26 s27 : Nat, b26 ≤ bS ∧ s27 ≤ sS ∧ (wp_X12_notes (fun tS30 nS31 rS32 wS33 => post tS30 nS31 rS32 wS33) tS nS rS wS25 b26 s27 y0 109 (wS25 y7 6)))
set_option maxHeartbeats 4000000 in
set_option maxRecDepth 100000 in
theorem t_X12_meet_246 : ∀ {p : Program} {l : Launch} {e : Env} {s : State} {m : MethodId} {args : Array Value} {below : List Frame} {meth : Method} {c : Code} {D : va_G} {tc : Nat → ClassId} {h0 : Nat} {sa : Nat → Nat} {Am : Nat → Prop} {b0 s0 : Nat} {t0 : Nat → Nat} {post : (Nat → Nat) → (Nat → Nat) → (Nat → Nat → Nat) → Dt → Prop}   (X : Cx p c s m meth cX12_meet 10 RX12 D tc) (hr : meth.sig.returnType = (Option.none : Option FieldType)) (hT : ST h0 sa s s.heap) (hA0 : ∀ q, Am q → h0 ≤ q) (hAm9 : ∀ x, s.heap.size ≤ x → Am x) , ∀ (y0 : Nat) (y7 : Nat) (z0 : Int32) (z1 : Nat) (tS : Nat → Nat) (nS : Nat → Nat) (rS : Nat → Nat → Nat) (wS : Dt) (bS : Nat) (sS : Nat) (H : Heap) (locs : List Loc) (ls : Array Slot) (AS : Nat → Prop) (cells slots : Nat), wp_X12_meet_246 post   y0 y7 z0 z1 tS nS rS wS bS sS → SB D tc (sa 3) AS tS nS rS wS H → (tS y0 = 4) → (tS y7 = 3) → (tS z1 = 3) → (∀ x, AS x → Am x) → (∀ x, H.size ≤ x → AS x) → Ext t0 tS → cells + bS ≤ b0 → slots + sS ≤ s0 → va_S Am s.heap H locs → lv_has ls 10 [(0, .ref y0), (7, .ref y7)] → W p l e (rm_X12_meet b0 s0) s m args below meth c H locs cells slots (MQ below (QB (fun u : (Nat → Nat) × (Nat → Nat) × (Nat → Nat → Nat) × Dt => post u.1 u.2.1 u.2.2.1 u.2.2.2) (fun (u : (Nat → Nat) × (Nat → Nat) × (Nat → Nat → Nat) × Dt) (H1 : Heap) => SB D tc (sa 3) Am u.1 u.2.1 u.2.2.1 u.2.2.2 H1 ∧ Ext t0 u.1) (fun _ : (Nat → Nat) × (Nat → Nat) × (Nat → Nat → Nat) × Dt => none) Am) args s (rm_X12_meet b0 s0).cells (rm_X12_meet b0 s0).slots Am) (F0 m 246 ls [.int z0, .ref z1]) := by
  intro p l e s m args below meth c D tc h0 sa Am b0 s0 t0 post   X hr hT hA0 hAm9   y0 y7 z0 z1 tS nS rS wS bS sS H locs ls AS cells slots hw hB hky0 hky7 hkz1 hAS hAF hX hc hs hS hl
  have hx := X.1
  have hb := X.2.1
  have hown := X.2.2.2.1
  have hU := X.2.2.2.2.1.1
  unfold wp_X12_meet_246 at hw
  refine g_putiN X dX12_meet_246 f_X12_155 (hB.oneB (k := 3) hAS hkz1 rfl) hS (x := z0) rfl rfl rfl (fun H locs hb9 oq hS => ?_)
  have hB := hB.putB hkz1 rfl hb9 oq
  have hAF : ∀ x, H.size ≤ x → AS x := fun x h => hAF x (Nat.le_trans (sz_of oq (hB.lt (by rw [hkz1]; decide)).1) h)
  obtain ⟨wS25, ewS25⟩ : ∃ z : Dt, z = up2 wS z1 6 z0 := ⟨_, rfl⟩
  rw [← ewS25] at hB
  have hw := hw wS25 ewS25
  refine lv_aload_n hx hb dX12_meet_249 rfl (lv_at hl 0 rfl) ?_
  refine lv_bipush (v := 109) hx hb dX12_meet_250 (by decide) ?_
  refine lv_aload hx hb dX12_meet_252 (lv_at hl 1 rfl) ?_
  refine g_getN X dX12_meet_254 f_X12_155 (hB.one (k := 3) hky7 rfl) 0 (v := .int (wS25 y7 6)) rfl rfl ?_
  obtain ⟨b26, s27, o28, o29, hw⟩ := hw
  refine g_after (st0 := [.int (wS25 y7 6), .int 109, .ref y0]) (rest := []) (g_V X m_X12_158 (c_X12_notes l D tc h0 sa y0 109 (wS25 y7 6) b26 s27 _ hB hky0 (fun x h => hA0 x (hAS x h)) hAF hw) (recv1 X.2.2.2.2.1 rfl (hB.at (k := 4) hky0 rfl)) hT hS hA0 dX12_meet_257 hl.1 rfl rfl ⟨Nat.le_of_ble_eq_true rfl, Nat.le_of_ble_eq_true rfl⟩ (Nat.le_of_ble_eq_true rfl) ⟨show cells + b26 ≤ b0 by omega, show slots + s27 ≤ s0 by omega⟩) hS hAS (fun u => []) (fun _ => rfl) (fun u H locs hw hP9 hz9 hk9 hS => ?_)
  obtain ⟨tS30, nS31, rS32, wS33⟩ := u
  try dsimp only at hw hP9
  obtain ⟨hB, hX9⟩ := hP9
  have hAF : ∀ x, H.size ≤ x → AS x := fun x h => hAF x (by omega)
  have hX := hX.trans hX9
  refine W_bud (b := (bS - b26)) (s1 := (sS - s27)) (B := b0) (S := s0) (show (cells + b26) + (bS - b26) ≤ b0 by omega) (show (slots + s27) + (sS - s27) ≤ s0 by omega) (fun cells slots hc hs => ?_)
  have k34 : tS30 y0 = 4 := hX9.to hky0
  have k35 : tS30 y7 = 3 := hX9.to hky7
  exact e_v X hr dX12_meet_260 hS (tS30, nS31, rS32, wS33) rfl hw ⟨hB.regs hAS, hX⟩ ⟨show cells ≤ b0 by omega, show slots ≤ s0 by omega⟩
def wp_X12_meet_217 (post : (Nat → Nat) → (Nat → Nat) → (Nat → Nat → Nat) → Dt → Prop)   (y0 : Nat) (y1 : Int32) (y2 : Int32) (y3 : Nat) (y6 : Nat) (y7 : Nat) (z0 : Int32) (z1 : Nat) (tS : Nat → Nat) (nS : Nat → Nat) (rS : Nat → Nat → Nat) (wS : Dt) (bS : Nat) (sS : Nat) : Prop := narrow .char (.int z0) = .int z0 ∧ (fits .char (.int z0) = true ∧ (∀ wS21 : Dt, wS21 = up2 wS z1 4 z0 → (∀ wS22 : Dt, wS22 = up2 wS21 y7 5 1 → (∀ wS23 : Dt, wS23 = up2 wS22 y7 4 45 → ((¬ y6 = y3 → wp_X12_meet_246 post   y0 y7 y2 y7 tS nS rS wS23 bS sS) ∧ (y6 = y3 → wp_X12_meet_246 post   y0 y7 y1 y7 tS nS rS wS23 bS sS))))))
set_option maxHeartbeats 4000000 in
set_option maxRecDepth 100000 in
theorem t_X12_meet_217 : ∀ {p : Program} {l : Launch} {e : Env} {s : State} {m : MethodId} {args : Array Value} {below : List Frame} {meth : Method} {c : Code} {D : va_G} {tc : Nat → ClassId} {h0 : Nat} {sa : Nat → Nat} {Am : Nat → Prop} {b0 s0 : Nat} {t0 : Nat → Nat} {post : (Nat → Nat) → (Nat → Nat) → (Nat → Nat → Nat) → Dt → Prop}   (X : Cx p c s m meth cX12_meet 10 RX12 D tc) (hr : meth.sig.returnType = (Option.none : Option FieldType)) (hT : ST h0 sa s s.heap) (hA0 : ∀ q, Am q → h0 ≤ q) (hAm9 : ∀ x, s.heap.size ≤ x → Am x) , ∀ (y0 : Nat) (y1 : Int32) (y2 : Int32) (y3 : Nat) (y6 : Nat) (y7 : Nat) (z0 : Int32) (z1 : Nat) (tS : Nat → Nat) (nS : Nat → Nat) (rS : Nat → Nat → Nat) (wS : Dt) (bS : Nat) (sS : Nat) (H : Heap) (locs : List Loc) (ls : Array Slot) (AS : Nat → Prop) (cells slots : Nat), wp_X12_meet_217 post   y0 y1 y2 y3 y6 y7 z0 z1 tS nS rS wS bS sS → SB D tc (sa 3) AS tS nS rS wS H → (tS y0 = 4) → (tS y3 = 3) → (tS y6 = 3) → (tS y7 = 3) → (tS z1 = 3) → (∀ x, AS x → Am x) → (∀ x, H.size ≤ x → AS x) → Ext t0 tS → cells + bS ≤ b0 → slots + sS ≤ s0 → va_S Am s.heap H locs → lv_has ls 10 [(0, .ref y0), (1, .int y1), (2, .int y2), (3, .ref y3), (6, .ref y6), (7, .ref y7)] → W p l e (rm_X12_meet b0 s0) s m args below meth c H locs cells slots (MQ below (QB (fun u : (Nat → Nat) × (Nat → Nat) × (Nat → Nat → Nat) × Dt => post u.1 u.2.1 u.2.2.1 u.2.2.2) (fun (u : (Nat → Nat) × (Nat → Nat) × (Nat → Nat → Nat) × Dt) (H1 : Heap) => SB D tc (sa 3) Am u.1 u.2.1 u.2.2.1 u.2.2.2 H1 ∧ Ext t0 u.1) (fun _ : (Nat → Nat) × (Nat → Nat) × (Nat → Nat → Nat) × Dt => none) Am) args s (rm_X12_meet b0 s0).cells (rm_X12_meet b0 s0).slots Am) (F0 m 217 ls [.int z0, .ref z1]) := by
  intro p l e s m args below meth c D tc h0 sa Am b0 s0 t0 post   X hr hT hA0 hAm9   y0 y1 y2 y3 y6 y7 z0 z1 tS nS rS wS bS sS H locs ls AS cells slots hw hB hky0 hky3 hky6 hky7 hkz1 hAS hAF hX hc hs hS hl
  have hx := X.1
  have hb := X.2.1
  have hown := X.2.2.2.1
  have hU := X.2.2.2.2.1.1
  unfold wp_X12_meet_217 at hw
  obtain ⟨o19, hw⟩ := hw
  obtain ⟨o20, hw⟩ := hw
  refine g_putiN X dX12_meet_217 f_X12_151 (hB.oneB (k := 3) hAS hkz1 rfl) hS (x := z0) rfl o19 o20 (fun H locs hb9 oq hS => ?_)
  have hB := hB.putB hkz1 rfl hb9 oq
  have hAF : ∀ x, H.size ≤ x → AS x := fun x h => hAF x (Nat.le_trans (sz_of oq (hB.lt (by rw [hkz1]; decide)).1) h)
  obtain ⟨wS21, ewS21⟩ : ∃ z : Dt, z = up2 wS z1 4 z0 := ⟨_, rfl⟩
  rw [← ewS21] at hB
  have hw := hw wS21 ewS21
  refine lv_aload hx hb dX12_meet_220 (lv_at hl 5 rfl) ?_
  refine lv_iconst (v := 1) hx hb dX12_meet_222 (by decide) ?_
  refine g_putiN X dX12_meet_223 f_X12_140 (hB.oneB (k := 3) hAS hky7 rfl) hS (x := 1) rfl rfl rfl (fun H locs hb9 oq hS => ?_)
  have hB := hB.putB hky7 rfl hb9 oq
  have hAF : ∀ x, H.size ≤ x → AS x := fun x h => hAF x (Nat.le_trans (sz_of oq (hB.lt (by rw [hky7]; decide)).1) h)
  obtain ⟨wS22, ewS22⟩ : ∃ z : Dt, z = up2 wS21 y7 5 1 := ⟨_, rfl⟩
  rw [← ewS22] at hB
  have hw := hw wS22 ewS22
  refine lv_aload hx hb dX12_meet_226 (lv_at hl 5 rfl) ?_
  refine lv_bipush (v := 45) hx hb dX12_meet_228 (by decide) ?_
  refine g_putiN X dX12_meet_230 f_X12_151 (hB.oneB (k := 3) hAS hky7 rfl) hS (x := 45) rfl rfl rfl (fun H locs hb9 oq hS => ?_)
  have hB := hB.putB hky7 rfl hb9 oq
  have hAF : ∀ x, H.size ≤ x → AS x := fun x h => hAF x (Nat.le_trans (sz_of oq (hB.lt (by rw [hky7]; decide)).1) h)
  obtain ⟨wS23, ewS23⟩ : ∃ z : Dt, z = up2 wS22 y7 4 45 := ⟨_, rfl⟩
  rw [← ewS23] at hB
  have hw := hw wS23 ewS23
  refine lv_aload hx hb dX12_meet_233 (lv_at hl 5 rfl) ?_
  refine lv_aload hx hb dX12_meet_235 (lv_at hl 4 rfl) ?_
  refine lv_aload_n hx hb dX12_meet_237 rfl (lv_at hl 3 rfl) ?_
  refine lv_acmp_ne (tgt := 245) (rx := some y6) (ry := some y3) hx hb dX12_meet_238 (by decide) (fun c24 => ?_) (fun c24 => ?_)
  · have hw := hw.1 (fun z => c24 (congrArg some z))
    refine lv_iload_n hx hb dX12_meet_245 rfl (lv_at hl 2 rfl) ?_
    exact t_X12_meet_246 X hr hT hA0 hAm9  y0 y7 y2 y7 tS nS rS wS23 bS sS _ _ _ _ _ _ hw hB hky0 hky7 hky7 hAS hAF hX hc hs hS (lv_sub hl [0, 5] rfl)
  · have hw := hw.2 (Option.some.inj c24)
    refine lv_iload_n hx hb dX12_meet_241 rfl (lv_at hl 1 rfl) ?_
    refine lv_goto (tgt := 246) hx hb dX12_meet_242 (by decide) ?_
    exact t_X12_meet_246 X hr hT hA0 hAm9  y0 y7 y1 y7 tS nS rS wS23 bS sS _ _ _ _ _ _ hw hB hky0 hky7 hky7 hAS hAF hX hc hs hS (lv_sub hl [0, 5] rfl)
def wp_X12_meet_159 (post : (Nat → Nat) → (Nat → Nat) → (Nat → Nat → Nat) → Dt → Prop)   : Nat → (Nat) → (Int32) → (Int32) → (Nat) → (Nat) → (Nat) → (Int32) → (Int32) → (Nat → Nat) → (Nat → Nat) → (Nat → Nat → Nat) → (Dt) → (Nat) → (Nat) → Prop
  | 0, _, _, _, _, _, _, _, _, _, _, _, _, _, _ => False
  | n9 + 1, y0, y1, y2, y3, y6, y7, y8, y9, tS, nS, rS, wS, bS, sS => (y8 < ((y9 + 1) * (y9 + 1)) → ∀ wS17 : Dt, wS17 = up2 wS y6 2 (if y9 < 400 then y9 else 400) → ((¬ (wS17 y6 4) = 45 → wp_X12_meet_217 post   y0 y1 y2 y3 y6 y7 (wS17 y6 4) y6 tS nS rS wS17 bS sS) ∧ ((wS17 y6 4) = 45 → wp_X12_meet_217 post   y0 y1 y2 y3 y6 y7 (wS17 y7 4) y6 tS nS rS wS17 bS sS))) ∧ (¬ y8 < ((y9 + 1) * (y9 + 1)) → wp_X12_meet_159 post   n9 y0 y1 y2 y3 y6 y7 y8 (y9 + 1) tS nS rS wS bS sS)
set_option maxHeartbeats 4000000 in
set_option maxRecDepth 100000 in
theorem t_X12_meet_159 : ∀ {p : Program} {l : Launch} {e : Env} {s : State} {m : MethodId} {args : Array Value} {below : List Frame} {meth : Method} {c : Code} {D : va_G} {tc : Nat → ClassId} {h0 : Nat} {sa : Nat → Nat} {Am : Nat → Prop} {b0 s0 : Nat} {t0 : Nat → Nat} {post : (Nat → Nat) → (Nat → Nat) → (Nat → Nat → Nat) → Dt → Prop}   (X : Cx p c s m meth cX12_meet 10 RX12 D tc) (hr : meth.sig.returnType = (Option.none : Option FieldType)) (hT : ST h0 sa s s.heap) (hA0 : ∀ q, Am q → h0 ≤ q) (hAm9 : ∀ x, s.heap.size ≤ x → Am x)  (n9 : Nat), ∀ (y0 : Nat) (y1 : Int32) (y2 : Int32) (y3 : Nat) (y6 : Nat) (y7 : Nat) (y8 : Int32) (y9 : Int32) (tS : Nat → Nat) (nS : Nat → Nat) (rS : Nat → Nat → Nat) (wS : Dt) (bS : Nat) (sS : Nat) (H : Heap) (locs : List Loc) (ls : Array Slot) (AS : Nat → Prop) (cells slots : Nat), wp_X12_meet_159 post   n9 y0 y1 y2 y3 y6 y7 y8 y9 tS nS rS wS bS sS → SB D tc (sa 3) AS tS nS rS wS H → (tS y0 = 4) → (tS y3 = 3) → (tS y6 = 3) → (tS y7 = 3) → (∀ x, AS x → Am x) → (∀ x, H.size ≤ x → AS x) → Ext t0 tS → cells + bS ≤ b0 → slots + sS ≤ s0 → va_S Am s.heap H locs → lv_has ls 10 [(0, .ref y0), (1, .int y1), (2, .int y2), (3, .ref y3), (6, .ref y6), (7, .ref y7), (8, .int y8), (9, .int y9)] → W p l e (rm_X12_meet b0 s0) s m args below meth c H locs cells slots (MQ below (QB (fun u : (Nat → Nat) × (Nat → Nat) × (Nat → Nat → Nat) × Dt => post u.1 u.2.1 u.2.2.1 u.2.2.2) (fun (u : (Nat → Nat) × (Nat → Nat) × (Nat → Nat → Nat) × Dt) (H1 : Heap) => SB D tc (sa 3) Am u.1 u.2.1 u.2.2.1 u.2.2.2 H1 ∧ Ext t0 u.1) (fun _ : (Nat → Nat) × (Nat → Nat) × (Nat → Nat → Nat) × Dt => none) Am) args s (rm_X12_meet b0 s0).cells (rm_X12_meet b0 s0).slots Am) (F0 m 159 ls []) := by
  intro p l e s m args below meth c D tc h0 sa Am b0 s0 t0 post   X hr hT hA0 hAm9  n9
  have hx := X.1
  have hb := X.2.1
  have hown := X.2.2.2.1
  have hU := X.2.2.2.2.1.1
  induction n9 with
  | zero =>
    intro  y0 y1 y2 y3 y6 y7 y8 y9 tS nS rS wS bS sS H locs ls AS cells slots hw
    exact hw.elim
  | succ n9 ih =>
    intro  y0 y1 y2 y3 y6 y7 y8 y9 tS nS rS wS bS sS H locs ls AS cells slots hw hB hky0 hky3 hky6 hky7 hAS hAF hX hc hs hS hl
    unfold wp_X12_meet_159 at hw
    refine lv_iload hx hb dX12_meet_159 (lv_at hl 7 rfl) ?_
    refine lv_iconst (v := 1) hx hb dX12_meet_161 (by decide) ?_
    refine lv_iadd hx hb dX12_meet_162 ?_
    refine lv_iload hx hb dX12_meet_163 (lv_at hl 7 rfl) ?_
    refine lv_iconst (v := 1) hx hb dX12_meet_165 (by decide) ?_
    refine lv_iadd hx hb dX12_meet_166 ?_
    refine lv_imul hx hb dX12_meet_167 ?_
    refine lv_iload hx hb dX12_meet_168 (lv_at hl 6 rfl) ?_
    refine lv_icmp_gt (tgt := 179) hx hb dX12_meet_170 (by decide) (fun c16 => ?_) (fun c16 => ?_)
    · have hw := hw.1 c16
      refine lv_aload hx hb dX12_meet_179 (lv_at hl 4 rfl) ?_
      refine lv_sipush (v := 400) hx hb dX12_meet_181 (by decide) ?_
      refine lv_iload hx hb dX12_meet_184 (lv_at hl 7 rfl) ?_
      refine g_min X hl.1 dX12_meet_186 w_1396 w_607 w_21 w_608 ⟨Nat.le_of_ble_eq_true rfl, Nat.le_of_ble_eq_true rfl, show cells ≤ b0 by omega, show slots ≤ s0 by omega⟩ ?_
      refine g_putiN X dX12_meet_189 f_X12_125 (hB.oneB (k := 3) hAS hky6 rfl) hS (x := (if y9 < 400 then y9 else 400)) rfl rfl rfl (fun H locs hb9 oq hS => ?_)
      have hB := hB.putB hky6 rfl hb9 oq
      have hAF : ∀ x, H.size ≤ x → AS x := fun x h => hAF x (Nat.le_trans (sz_of oq (hB.lt (by rw [hky6]; decide)).1) h)
      obtain ⟨wS17, ewS17⟩ : ∃ z : Dt, z = up2 wS y6 2 (if y9 < 400 then y9 else 400) := ⟨_, rfl⟩
      rw [← ewS17] at hB
      have hw := hw wS17 ewS17
      refine lv_aload hx hb dX12_meet_192 (lv_at hl 4 rfl) ?_
      refine lv_aload hx hb dX12_meet_194 (lv_at hl 4 rfl) ?_
      refine g_getN X dX12_meet_196 f_X12_151 (hB.one (k := 3) hky6 rfl) 0 (v := .int (wS17 y6 4)) rfl rfl ?_
      refine lv_bipush (v := 45) hx hb dX12_meet_199 (by decide) ?_
      refine lv_icmp_ne (tgt := 212) hx hb dX12_meet_201 (by decide) (fun c18 => ?_) (fun c18 => ?_)
      · have hw := hw.1 c18
        refine lv_aload hx hb dX12_meet_212 (lv_at hl 4 rfl) ?_
        refine g_getN X dX12_meet_214 f_X12_151 (hB.one (k := 3) hky6 rfl) 0 (v := .int (wS17 y6 4)) rfl rfl ?_
        exact t_X12_meet_217 X hr hT hA0 hAm9  y0 y1 y2 y3 y6 y7 (wS17 y6 4) y6 tS nS rS wS17 bS sS _ _ _ _ _ _ hw hB hky0 hky3 hky6 hky7 hky6 hAS hAF hX hc hs hS (lv_sub hl [0, 1, 2, 3, 4, 5] rfl)
      · have hw := hw.2 c18
        refine lv_aload hx hb dX12_meet_204 (lv_at hl 5 rfl) ?_
        refine g_getN X dX12_meet_206 f_X12_151 (hB.one (k := 3) hky7 rfl) 0 (v := .int (wS17 y7 4)) rfl rfl ?_
        refine lv_goto (tgt := 217) hx hb dX12_meet_209 (by decide) ?_
        exact t_X12_meet_217 X hr hT hA0 hAm9  y0 y1 y2 y3 y6 y7 (wS17 y7 4) y6 tS nS rS wS17 bS sS _ _ _ _ _ _ hw hB hky0 hky3 hky6 hky7 hky6 hAS hAF hX hc hs hS (lv_sub hl [0, 1, 2, 3, 4, 5] rfl)
    · have hw := hw.2 c16
      refine lv_iinc (lv' := [(9, .int (y9 + 1)), (0, .ref y0), (1, .int y1), (2, .int y2), (3, .ref y3), (6, .ref y6), (7, .ref y7), (8, .int y8)]) hx hb dX12_meet_173 hl (k := 7) rfl (by rfl) (by decide) rfl (fun ls hl => ?_)
      refine lv_goto (tgt := 159) hx hb dX12_meet_176 (by decide) ?_
      exact ih y0 y1 y2 y3 y6 y7 y8 (y9 + 1) tS nS rS wS bS sS _ _ _ _ _ _ hw hB hky0 hky3 hky6 hky7 hAS hAF hX hc hs hS (lv_sub hl [1, 2, 3, 4, 5, 6, 7, 0] rfl)
def wp_X12_meet_131 (post : (Nat → Nat) → (Nat → Nat) → (Nat → Nat → Nat) → Dt → Prop)   (y0 : Nat) (y1 : Int32) (y2 : Int32) (y3 : Nat) (y4 : Nat) (y6 : Nat) (z0 : Nat) (tS : Nat → Nat) (nS : Nat → Nat) (rS : Nat → Nat → Nat) (wS : Dt) (bS : Nat) (sS : Nat) : Prop := ∀ v15 : Int32, v15 = (((wS y3 2) * (wS y3 2)) + ((wS y4 2) * (wS y4 2))) → (∃ k9 : Nat, wp_X12_meet_159 post   k9 y0 y1 y2 y3 y6 z0 v15 0 tS nS rS wS bS sS)
set_option maxHeartbeats 4000000 in
set_option maxRecDepth 100000 in
theorem t_X12_meet_131 : ∀ {p : Program} {l : Launch} {e : Env} {s : State} {m : MethodId} {args : Array Value} {below : List Frame} {meth : Method} {c : Code} {D : va_G} {tc : Nat → ClassId} {h0 : Nat} {sa : Nat → Nat} {Am : Nat → Prop} {b0 s0 : Nat} {t0 : Nat → Nat} {post : (Nat → Nat) → (Nat → Nat) → (Nat → Nat → Nat) → Dt → Prop}   (X : Cx p c s m meth cX12_meet 10 RX12 D tc) (hr : meth.sig.returnType = (Option.none : Option FieldType)) (hT : ST h0 sa s s.heap) (hA0 : ∀ q, Am q → h0 ≤ q) (hAm9 : ∀ x, s.heap.size ≤ x → Am x) , ∀ (y0 : Nat) (y1 : Int32) (y2 : Int32) (y3 : Nat) (y4 : Nat) (y6 : Nat) (z0 : Nat) (tS : Nat → Nat) (nS : Nat → Nat) (rS : Nat → Nat → Nat) (wS : Dt) (bS : Nat) (sS : Nat) (H : Heap) (locs : List Loc) (ls : Array Slot) (AS : Nat → Prop) (cells slots : Nat), wp_X12_meet_131 post   y0 y1 y2 y3 y4 y6 z0 tS nS rS wS bS sS → SB D tc (sa 3) AS tS nS rS wS H → (tS y0 = 4) → (tS y3 = 3) → (tS y4 = 3) → (tS y6 = 3) → (tS z0 = 3) → (∀ x, AS x → Am x) → (∀ x, H.size ≤ x → AS x) → Ext t0 tS → cells + bS ≤ b0 → slots + sS ≤ s0 → va_S Am s.heap H locs → lv_has ls 10 [(0, .ref y0), (1, .int y1), (2, .int y2), (3, .ref y3), (4, .ref y4), (6, .ref y6)] → W p l e (rm_X12_meet b0 s0) s m args below meth c H locs cells slots (MQ below (QB (fun u : (Nat → Nat) × (Nat → Nat) × (Nat → Nat → Nat) × Dt => post u.1 u.2.1 u.2.2.1 u.2.2.2) (fun (u : (Nat → Nat) × (Nat → Nat) × (Nat → Nat → Nat) × Dt) (H1 : Heap) => SB D tc (sa 3) Am u.1 u.2.1 u.2.2.1 u.2.2.2 H1 ∧ Ext t0 u.1) (fun _ : (Nat → Nat) × (Nat → Nat) × (Nat → Nat → Nat) × Dt => none) Am) args s (rm_X12_meet b0 s0).cells (rm_X12_meet b0 s0).slots Am) (F0 m 131 ls [.ref z0]) := by
  intro p l e s m args below meth c D tc h0 sa Am b0 s0 t0 post   X hr hT hA0 hAm9   y0 y1 y2 y3 y4 y6 z0 tS nS rS wS bS sS H locs ls AS cells slots hw hB hky0 hky3 hky4 hky6 hkz0 hAS hAF hX hc hs hS hl
  have hx := X.1
  have hb := X.2.1
  have hown := X.2.2.2.1
  have hU := X.2.2.2.2.1.1
  unfold wp_X12_meet_131 at hw
  refine lv_astore (lv' := [(7, .ref z0), (0, .ref y0), (1, .int y1), (2, .int y2), (3, .ref y3), (4, .ref y4), (6, .ref y6)]) hx hb dX12_meet_131 hl (by decide) rfl (fun ls hl => ?_)
  refine lv_aload_n hx hb dX12_meet_133 rfl (lv_at hl 4 rfl) ?_
  refine g_getN X dX12_meet_134 f_X12_125 (hB.one (k := 3) hky3 rfl) 0 (v := .int (wS y3 2)) rfl rfl ?_
  refine lv_aload_n hx hb dX12_meet_137 rfl (lv_at hl 4 rfl) ?_
  refine g_getN X dX12_meet_138 f_X12_125 (hB.one (k := 3) hky3 rfl) 0 (v := .int (wS y3 2)) rfl rfl ?_
  refine lv_imul hx hb dX12_meet_141 ?_
  refine lv_aload hx hb dX12_meet_142 (lv_at hl 5 rfl) ?_
  refine g_getN X dX12_meet_144 f_X12_125 (hB.one (k := 3) hky4 rfl) 0 (v := .int (wS y4 2)) rfl rfl ?_
  refine lv_aload hx hb dX12_meet_147 (lv_at hl 5 rfl) ?_
  refine g_getN X dX12_meet_149 f_X12_125 (hB.one (k := 3) hky4 rfl) 0 (v := .int (wS y4 2)) rfl rfl ?_
  refine lv_imul hx hb dX12_meet_152 ?_
  refine lv_iadd hx hb dX12_meet_153 ?_
  refine lv_topi (fun v15 ev15 => ?_)
  have hw := hw v15 ev15
  refine lv_istore (lv' := [(8, .int v15), (7, .ref z0), (0, .ref y0), (1, .int y1), (2, .int y2), (3, .ref y3), (4, .ref y4), (6, .ref y6)]) hx hb dX12_meet_154 hl (by decide) rfl (fun ls hl => ?_)
  refine lv_iconst (v := 0) hx hb dX12_meet_156 (by decide) ?_
  refine lv_istore (lv' := [(9, .int 0), (8, .int v15), (7, .ref z0), (0, .ref y0), (1, .int y1), (2, .int y2), (3, .ref y3), (4, .ref y4), (6, .ref y6)]) hx hb dX12_meet_157 hl (by decide) rfl (fun ls hl => ?_)
  obtain ⟨k9, hw⟩ := hw
  exact t_X12_meet_159 X hr hT hA0 hAm9  k9 y0 y1 y2 y3 y6 z0 v15 0 tS nS rS wS bS sS _ _ _ _ _ _ hw hB hky0 hky3 hky6 hkz0 hAS hAF hX hc hs hS (lv_sub hl [3, 4, 5, 6, 8, 2, 1, 0] rfl)
def wp_X12_meet_117 (post : (Nat → Nat) → (Nat → Nat) → (Nat → Nat → Nat) → Dt → Prop)   (y0 : Nat) (y1 : Int32) (y2 : Int32) (y3 : Nat) (y4 : Nat) (z0 : Nat) (tS : Nat → Nat) (nS : Nat → Nat) (rS : Nat → Nat → Nat) (wS : Dt) (bS : Nat) (sS : Nat) : Prop := (¬ z0 = y3 → wp_X12_meet_131 post   y0 y1 y2 y3 y4 z0 y3 tS nS rS wS bS sS) ∧ (z0 = y3 → wp_X12_meet_131 post   y0 y1 y2 y3 y4 z0 y4 tS nS rS wS bS sS)
set_option maxHeartbeats 4000000 in
set_option maxRecDepth 100000 in
theorem t_X12_meet_117 : ∀ {p : Program} {l : Launch} {e : Env} {s : State} {m : MethodId} {args : Array Value} {below : List Frame} {meth : Method} {c : Code} {D : va_G} {tc : Nat → ClassId} {h0 : Nat} {sa : Nat → Nat} {Am : Nat → Prop} {b0 s0 : Nat} {t0 : Nat → Nat} {post : (Nat → Nat) → (Nat → Nat) → (Nat → Nat → Nat) → Dt → Prop}   (X : Cx p c s m meth cX12_meet 10 RX12 D tc) (hr : meth.sig.returnType = (Option.none : Option FieldType)) (hT : ST h0 sa s s.heap) (hA0 : ∀ q, Am q → h0 ≤ q) (hAm9 : ∀ x, s.heap.size ≤ x → Am x) , ∀ (y0 : Nat) (y1 : Int32) (y2 : Int32) (y3 : Nat) (y4 : Nat) (z0 : Nat) (tS : Nat → Nat) (nS : Nat → Nat) (rS : Nat → Nat → Nat) (wS : Dt) (bS : Nat) (sS : Nat) (H : Heap) (locs : List Loc) (ls : Array Slot) (AS : Nat → Prop) (cells slots : Nat), wp_X12_meet_117 post   y0 y1 y2 y3 y4 z0 tS nS rS wS bS sS → SB D tc (sa 3) AS tS nS rS wS H → (tS y0 = 4) → (tS y3 = 3) → (tS y4 = 3) → (tS z0 = 3) → (∀ x, AS x → Am x) → (∀ x, H.size ≤ x → AS x) → Ext t0 tS → cells + bS ≤ b0 → slots + sS ≤ s0 → va_S Am s.heap H locs → lv_has ls 10 [(0, .ref y0), (1, .int y1), (2, .int y2), (3, .ref y3), (4, .ref y4)] → W p l e (rm_X12_meet b0 s0) s m args below meth c H locs cells slots (MQ below (QB (fun u : (Nat → Nat) × (Nat → Nat) × (Nat → Nat → Nat) × Dt => post u.1 u.2.1 u.2.2.1 u.2.2.2) (fun (u : (Nat → Nat) × (Nat → Nat) × (Nat → Nat → Nat) × Dt) (H1 : Heap) => SB D tc (sa 3) Am u.1 u.2.1 u.2.2.1 u.2.2.2 H1 ∧ Ext t0 u.1) (fun _ : (Nat → Nat) × (Nat → Nat) × (Nat → Nat → Nat) × Dt => none) Am) args s (rm_X12_meet b0 s0).cells (rm_X12_meet b0 s0).slots Am) (F0 m 117 ls [.ref z0]) := by
  intro p l e s m args below meth c D tc h0 sa Am b0 s0 t0 post   X hr hT hA0 hAm9   y0 y1 y2 y3 y4 z0 tS nS rS wS bS sS H locs ls AS cells slots hw hB hky0 hky3 hky4 hkz0 hAS hAF hX hc hs hS hl
  have hx := X.1
  have hb := X.2.1
  have hown := X.2.2.2.1
  have hU := X.2.2.2.2.1.1
  unfold wp_X12_meet_117 at hw
  refine lv_astore (lv' := [(6, .ref z0), (0, .ref y0), (1, .int y1), (2, .int y2), (3, .ref y3), (4, .ref y4)]) hx hb dX12_meet_117 hl (by decide) rfl (fun ls hl => ?_)
  refine lv_aload hx hb dX12_meet_119 (lv_at hl 0 rfl) ?_
  refine lv_aload_n hx hb dX12_meet_121 rfl (lv_at hl 4 rfl) ?_
  refine lv_acmp_ne (tgt := 130) (rx := some z0) (ry := some y3) hx hb dX12_meet_122 (by decide) (fun c14 => ?_) (fun c14 => ?_)
  · have hw := hw.1 (fun z => c14 (congrArg some z))
    refine lv_aload_n hx hb dX12_meet_130 rfl (lv_at hl 4 rfl) ?_
    exact t_X12_meet_131 X hr hT hA0 hAm9  y0 y1 y2 y3 y4 z0 y3 tS nS rS wS bS sS _ _ _ _ _ _ hw hB hky0 hky3 hky4 hkz0 hky3 hAS hAF hX hc hs hS (lv_sub hl [1, 2, 3, 4, 5, 0] rfl)
  · have hw := hw.2 (Option.some.inj c14)
    refine lv_aload hx hb dX12_meet_125 (lv_at hl 5 rfl) ?_
    refine lv_goto (tgt := 131) hx hb dX12_meet_127 (by decide) ?_
    exact t_X12_meet_131 X hr hT hA0 hAm9  y0 y1 y2 y3 y4 z0 y4 tS nS rS wS bS sS _ _ _ _ _ _ hw hB hky0 hky3 hky4 hkz0 hky4 hAS hAF hX hc hs hS (lv_sub hl [1, 2, 3, 4, 5, 0] rfl)
def wp_X12_meet (post : (Nat → Nat) → (Nat → Nat) → (Nat → Nat → Nat) → Dt → Prop)  (tS : Nat → Nat) (nS : Nat → Nat) (rS : Nat → Nat → Nat) (wS : Dt) (bS : Nat) (sS : Nat) (x0 : Nat) (x1 : Int32) (x2 : Int32) : Prop := vp_in x1 (nS (rS x0 8)) ∧ (vp_in x2 (nS (rS x0 8)) ∧ (wp_J9_floorMod_7cf53 (fun r7 => (¬ (wS (rS (rS x0 8) x1.toNatClampNeg) 5) = 0 → wp_X12_meet_100 post   tS nS rS wS bS sS) ∧ ((wS (rS (rS x0 8) x1.toNatClampNeg) 5) = 0 → (¬ (wS (rS (rS x0 8) x2.toNatClampNeg) 5) = 0 → wp_X12_meet_100 post   tS nS rS wS bS sS) ∧ ((wS (rS (rS x0 8) x2.toNatClampNeg) 5) = 0 → (¬ (wS (rS (rS x0 8) x1.toNatClampNeg) 0) = (wS (rS (rS x0 8) x2.toNatClampNeg) 0) → wp_X12_meet_100 post   tS nS rS wS bS sS) ∧ ((wS (rS (rS x0 8) x1.toNatClampNeg) 0) = (wS (rS (rS x0 8) x2.toNatClampNeg) 0) → ((if (3600 - r7) < r7 then (3600 - r7) else r7) < (((wS (rS (rS x0 8) x1.toNatClampNeg) 2) + (wS (rS (rS x0 8) x2.toNatClampNeg) 2)) / 2) → wp_X12_wins (fun r12 => (r12 = 0 → wp_X12_meet_117 post   x0 x1 x2 (rS (rS x0 8) x1.toNatClampNeg) (rS (rS x0 8) x2.toNatClampNeg) (rS (rS x0 8) x2.toNatClampNeg) tS nS rS wS bS sS) ∧ (¬ r12 = 0 → wp_X12_meet_117 post   x0 x1 x2 (rS (rS x0 8) x1.toNatClampNeg) (rS (rS x0 8) x2.toNatClampNeg) (rS (rS x0 8) x1.toNatClampNeg) tS nS rS wS bS sS)) tS nS rS wS x0 (rS (rS x0 8) x1.toNatClampNeg) (rS (rS x0 8) x2.toNatClampNeg)) ∧ (¬ (if (3600 - r7) < r7 then (3600 - r7) else r7) < (((wS (rS (rS x0 8) x1.toNatClampNeg) 2) + (wS (rS (rS x0 8) x2.toNatClampNeg) 2)) / 2) → wp_X12_meet_100 post   tS nS rS wS bS sS))))) ((wS (rS (rS x0 8) x1.toNatClampNeg) 1) - (wS (rS (rS x0 8) x2.toNatClampNeg) 1)) 3600))
set_option maxHeartbeats 4000000 in
set_option maxRecDepth 100000 in
theorem c_X12_meet (l : Launch) (D : va_G) (tc : Nat → ClassId) (h0 : Nat) (sa : Nat → Nat) (x0 : Nat) (x1 : Int32) (x2 : Int32) (b0 s0 : Nat) {Am : Nat → Prop} (H0 : Heap) {tS nS : Nat → Nat} {rS : Nat → Nat → Nat} {wS : Dt} (hB : SB D tc (sa 3) Am tS nS rS wS H0) (hkx0 : tS x0 = 4) (hA0 : ∀ q, Am q → h0 ≤ q) (hAF : ∀ x, H0.size ≤ x → Am x) {post : (Nat → Nat) → (Nat → Nat) → (Nat → Nat → Nat) → Dt → Prop} (hw : wp_X12_meet post  tS nS rS wS b0 s0 x0 x1 x2) : MB l yX12_meet cX12_meet 10 (Option.none : Option FieldType) (rm_X12_meet b0 s0) Am [.ref x0, .int x1, .int x2] D tc h0 sa H0 (fun u : (Nat → Nat) × (Nat → Nat) × (Nat → Nat → Nat) × Dt => post u.1 u.2.1 u.2.2.1 u.2.2.2) (fun (u : (Nat → Nat) × (Nat → Nat) × (Nat → Nat → Nat) × Dt) (H1 : Heap) => SB D tc (sa 3) Am u.1 u.2.1 u.2.2.1 u.2.2.2 H1 ∧ Ext tS u.1) (fun _ : (Nat → Nat) × (Nat → Nat) × (Nat → Nat → Nat) × Dt => none) := by
  refine MB.of RX12 [(0, .ref x0), (1, .int x1), (2, .int x2)] (by decide +kernel) rfl (Nat.le_of_ble_eq_true rfl) rfl ?_
  intro p e s m below meth c ls X hr hin hT hH hS hl
  subst hH
  have hx := X.1
  have hb := X.2.1
  have hown := X.2.2.2.1
  have hU := X.2.2.2.2.1.1
  unfold wp_X12_meet at hw
  obtain ⟨A, eA⟩ : ∃ z, z = Am := ⟨_, rfl⟩
  have hB : SB D tc (sa 3) A tS nS rS wS s.heap := by rw [eA]; exact hB
  have hAm9 := hAF
  have hAF : ∀ x, s.heap.size ≤ x → A x := by rw [eA]; exact hAF
  have hAS : ∀ x, A x → Am x := by rw [eA]; exact fun _ h => h
  have hX : Ext tS tS := Ext.rf
  obtain ⟨bS, ebS⟩ : ∃ z, z = b0 := ⟨_, rfl⟩
  obtain ⟨sS, esS⟩ : ∃ z, z = s0 := ⟨_, rfl⟩
  rw [← ebS, ← esS] at hw
  refine W_bud (b := bS) (s1 := sS) (B := b0) (S := s0) (show 0 + bS ≤ b0 by omega) (show 0 + sS ≤ s0 by omega) (fun cells slots hc hs => ?_)
  refine lv_aload_n hx hb dX12_meet_0 rfl (lv_at hl 0 rfl) ?_
  refine g_get X dX12_meet_1 f_X12_33 (hB.one (k := 4) hkx0 rfl) 0 (v := .ref (rS x0 8)) rfl rfl ?_
  have k1 : tS (rS x0 8) = 8 := (hB.wtk hkx0).2.2.2.2.1
  refine lv_iload_n hx hb dX12_meet_4 rfl (lv_at hl 1 rfl) ?_
  obtain ⟨fs9, hat9⟩ := hB.lat (isL_of k1)
  obtain ⟨o2, hw⟩ := hw
  refine g_after5 (st0 := [.int x1, .ref (rS x0 8)]) (rest := []) (g_F X mf_X12_130 (c_get l D tc h0 sa _ (rS x0 8) hB (isL_of k1) o2) rfl hat9 hT hS hA0 dX12_meet_5 hl.1 rfl rfl ⟨Nat.le_of_ble_eq_true rfl, Nat.le_of_ble_eq_true rfl⟩ (Nat.le_of_ble_eq_true rfl) ⟨show cells + 0 ≤ b0 by omega, show slots + 0 ≤ s0 by omega⟩) hS (fun _ h => h.elim) (fun u => .ref (rS (rS x0 8) x1.toNatClampNeg) :: []) (fun _ => rfl) (fun u H9 locs hu hP9 hz9 hk9 hS => ?_)
  have e9 : H9 = _ := hP9
  rw [e9] at hS ⊢
  refine W.widen (k := cells) (n := slots) (Nat.le_refl _) (Nat.le_refl _) ?_
  have k3 : tS (rS (rS x0 8) x1.toNatClampNeg) = 3 := hB.elt k1 (lt10 o2)
  refine x_cast X w_1731 rfl (hB.at (k := 3) k3 rfl) dX12_meet_10 ?_
  refine lv_astore_n (lv' := [(3, .ref (rS (rS x0 8) x1.toNatClampNeg)), (0, .ref x0), (1, .int x1), (2, .int x2)]) hx hb dX12_meet_13 rfl hl (by decide) rfl (fun ls hl => ?_)
  refine lv_aload_n hx hb dX12_meet_14 rfl (lv_at hl 1 rfl) ?_
  refine g_get X dX12_meet_15 f_X12_33 (hB.one (k := 4) hkx0 rfl) 0 (v := .ref (rS x0 8)) rfl rfl ?_
  have k4 : tS (rS x0 8) = 8 := (hB.wtk hkx0).2.2.2.2.1
  refine lv_iload_n hx hb dX12_meet_18 rfl (lv_at hl 3 rfl) ?_
  obtain ⟨fs9, hat9⟩ := hB.lat (isL_of k4)
  obtain ⟨o5, hw⟩ := hw
  refine g_after5 (st0 := [.int x2, .ref (rS x0 8)]) (rest := []) (g_F X mf_X12_130 (c_get l D tc h0 sa _ (rS x0 8) hB (isL_of k4) o5) rfl hat9 hT hS hA0 dX12_meet_19 hl.1 rfl rfl ⟨Nat.le_of_ble_eq_true rfl, Nat.le_of_ble_eq_true rfl⟩ (Nat.le_of_ble_eq_true rfl) ⟨show cells + 0 ≤ b0 by omega, show slots + 0 ≤ s0 by omega⟩) hS (fun _ h => h.elim) (fun u => .ref (rS (rS x0 8) x2.toNatClampNeg) :: []) (fun _ => rfl) (fun u H9 locs hu hP9 hz9 hk9 hS => ?_)
  have e9 : H9 = _ := hP9
  rw [e9] at hS ⊢
  refine W.widen (k := cells) (n := slots) (Nat.le_refl _) (Nat.le_refl _) ?_
  have k6 : tS (rS (rS x0 8) x2.toNatClampNeg) = 3 := hB.elt k4 (lt10 o5)
  refine x_cast X w_1731 rfl (hB.at (k := 3) k6 rfl) dX12_meet_24 ?_
  refine lv_astore (lv' := [(4, .ref (rS (rS x0 8) x2.toNatClampNeg)), (3, .ref (rS (rS x0 8) x1.toNatClampNeg)), (0, .ref x0), (1, .int x1), (2, .int x2)]) hx hb dX12_meet_27 hl (by decide) rfl (fun ls hl => ?_)
  refine lv_aload_n hx hb dX12_meet_29 rfl (lv_at hl 1 rfl) ?_
  refine g_getN X dX12_meet_30 f_X12_134 (hB.one (k := 3) k3 rfl) 0 (v := .int (wS (rS (rS x0 8) x1.toNatClampNeg) 1)) rfl rfl ?_
  refine lv_aload hx hb dX12_meet_33 (lv_at hl 0 rfl) ?_
  refine g_getN X dX12_meet_35 f_X12_134 (hB.one (k := 3) k6 rfl) 0 (v := .int (wS (rS (rS x0 8) x2.toNatClampNeg) 1)) rfl rfl ?_
  refine lv_isub hx hb dX12_meet_38 ?_
  refine lv_sipush (v := 3600) hx hb dX12_meet_39 (by decide) ?_
  refine g_after (st0 := [.int 3600, .int ((wS (rS (rS x0 8) x1.toNatClampNeg) 1) - (wS (rS (rS x0 8) x2.toNatClampNeg) 1))]) (rest := []) (g_S X m_X12_137 (c_J9_floorMod_7cf53 l D tc h0 sa ((wS (rS (rS x0 8) x1.toNatClampNeg) 1) - (wS (rS (rS x0 8) x2.toNatClampNeg) 1)) 3600 _ hw) hT hS hA0 dX12_meet_42 hl.1 rfl rfl ⟨Nat.le_of_ble_eq_true rfl, Nat.le_of_ble_eq_true rfl⟩ (Nat.le_of_ble_eq_true rfl) ⟨show cells + 0 ≤ b0 by omega, show slots + 0 ≤ s0 by omega⟩) hS (fun _ h => h.elim) (fun u => .int u :: []) (fun _ => rfl) (fun u H9 locs hw hP9 hz9 hk9 hS => ?_)
  have e9 : H9 = _ := hP9
  rw [e9] at hS ⊢
  refine W.widen (k := cells) (n := slots) (Nat.le_refl _) (Nat.le_refl _) ?_
  obtain ⟨r7, rfl⟩ : ∃ z, z = u := ⟨_, rfl⟩
  try dsimp only at hw
  refine lv_istore (lv' := [(5, .int r7), (4, .ref (rS (rS x0 8) x2.toNatClampNeg)), (3, .ref (rS (rS x0 8) x1.toNatClampNeg)), (0, .ref x0), (1, .int x1), (2, .int x2)]) hx hb dX12_meet_45 hl (by decide) rfl (fun ls hl => ?_)
  refine lv_aload_n hx hb dX12_meet_47 rfl (lv_at hl 2 rfl) ?_
  refine g_getN X dX12_meet_48 f_X12_140 (hB.one (k := 3) k3 rfl) 0 (v := .int (wS (rS (rS x0 8) x1.toNatClampNeg) 5)) rfl rfl ?_
  refine lv_if_ne (tgt := 100) hx hb dX12_meet_51 (by decide) (fun c8 => ?_) (fun c8 => ?_)
  · have hw := hw.1 c8
    exact t_X12_meet_100 X hr hT hA0 hAm9  tS nS rS wS bS sS _ _ _ _ _ _ hw hB  hAS hAF hX hc hs hS (lv_sub hl [] rfl)
  · have hw := hw.2 c8
    refine lv_aload hx hb dX12_meet_54 (lv_at hl 1 rfl) ?_
    refine g_getN X dX12_meet_56 f_X12_140 (hB.one (k := 3) k6 rfl) 0 (v := .int (wS (rS (rS x0 8) x2.toNatClampNeg) 5)) rfl rfl ?_
    refine lv_if_ne (tgt := 100) hx hb dX12_meet_59 (by decide) (fun c9 => ?_) (fun c9 => ?_)
    · have hw := hw.1 c9
      exact t_X12_meet_100 X hr hT hA0 hAm9  tS nS rS wS bS sS _ _ _ _ _ _ hw hB  hAS hAF hX hc hs hS (lv_sub hl [] rfl)
    · have hw := hw.2 c9
      refine lv_aload_n hx hb dX12_meet_62 rfl (lv_at hl 2 rfl) ?_
      refine g_getN X dX12_meet_63 f_X12_144 (hB.one (k := 3) k3 rfl) 0 (v := .int (wS (rS (rS x0 8) x1.toNatClampNeg) 0)) rfl rfl ?_
      refine lv_aload hx hb dX12_meet_66 (lv_at hl 1 rfl) ?_
      refine g_getN X dX12_meet_68 f_X12_144 (hB.one (k := 3) k6 rfl) 0 (v := .int (wS (rS (rS x0 8) x2.toNatClampNeg) 0)) rfl rfl ?_
      refine lv_icmp_ne (tgt := 100) hx hb dX12_meet_71 (by decide) (fun c10 => ?_) (fun c10 => ?_)
      · have hw := hw.1 c10
        exact t_X12_meet_100 X hr hT hA0 hAm9  tS nS rS wS bS sS _ _ _ _ _ _ hw hB  hAS hAF hX hc hs hS (lv_sub hl [] rfl)
      · have hw := hw.2 c10
        refine lv_iload hx hb dX12_meet_74 (lv_at hl 0 rfl) ?_
        refine lv_sipush (v := 3600) hx hb dX12_meet_76 (by decide) ?_
        refine lv_iload hx hb dX12_meet_79 (lv_at hl 0 rfl) ?_
        refine lv_isub hx hb dX12_meet_81 ?_
        refine g_min X hl.1 dX12_meet_82 w_1396 w_607 w_21 w_608 ⟨Nat.le_of_ble_eq_true rfl, Nat.le_of_ble_eq_true rfl, show cells ≤ b0 by omega, show slots ≤ s0 by omega⟩ ?_
        refine lv_aload_n hx hb dX12_meet_85 rfl (lv_at hl 2 rfl) ?_
        refine g_getN X dX12_meet_86 f_X12_125 (hB.one (k := 3) k3 rfl) 0 (v := .int (wS (rS (rS x0 8) x1.toNatClampNeg) 2)) rfl rfl ?_
        refine lv_aload hx hb dX12_meet_89 (lv_at hl 1 rfl) ?_
        refine g_getN X dX12_meet_91 f_X12_125 (hB.one (k := 3) k6 rfl) 0 (v := .int (wS (rS (rS x0 8) x2.toNatClampNeg) 2)) rfl rfl ?_
        refine lv_iadd hx hb dX12_meet_94 ?_
        refine lv_iconst (v := 2) hx hb dX12_meet_95 (by decide) ?_
        refine lv_idiv hx hb dX12_meet_96 (by decide) ?_
        refine lv_icmp_lt (tgt := 101) hx hb dX12_meet_97 (by decide) (fun c11 => ?_) (fun c11 => ?_)
        · have hw := hw.1 c11
          refine lv_aload_n hx hb dX12_meet_101 rfl (lv_at hl 3 rfl) ?_
          refine lv_aload_n hx hb dX12_meet_102 rfl (lv_at hl 2 rfl) ?_
          refine lv_aload hx hb dX12_meet_103 (lv_at hl 1 rfl) ?_
          refine g_after (st0 := [.ref (rS (rS x0 8) x2.toNatClampNeg), .ref (rS (rS x0 8) x1.toNatClampNeg), .ref x0]) (rest := []) (g_V X m_X12_147 (c_X12_wins l D tc h0 sa x0 (rS (rS x0 8) x1.toNatClampNeg) (rS (rS x0 8) x2.toNatClampNeg) _ hB hkx0 k3 k6 hw) (recv1 X.2.2.2.2.1 rfl (hB.at (k := 4) hkx0 rfl)) hT hS hA0 dX12_meet_105 hl.1 rfl rfl ⟨Nat.le_of_ble_eq_true rfl, Nat.le_of_ble_eq_true rfl⟩ (Nat.le_of_ble_eq_true rfl) ⟨show cells + 0 ≤ b0 by omega, show slots + 0 ≤ s0 by omega⟩) hS (fun _ h => h.elim) (fun u => .int u :: []) (fun _ => rfl) (fun u H9 locs hw hP9 hz9 hk9 hS => ?_)
          obtain ⟨r12, rfl⟩ : ∃ z, z = u := ⟨_, rfl⟩
          try dsimp only at hw hP9
          have e9 : H9 = _ := hP9
          rw [e9] at hS ⊢
          refine W.widen (k := cells) (n := slots) (Nat.le_refl _) (Nat.le_refl _) ?_
          refine lv_if_eq (tgt := 115) hx hb dX12_meet_108 (by decide) (fun c13 => ?_) (fun c13 => ?_)
          · have hw := hw.1 c13
            refine lv_aload hx hb dX12_meet_115 (lv_at hl 1 rfl) ?_
            exact t_X12_meet_117 X hr hT hA0 hAm9  x0 x1 x2 (rS (rS x0 8) x1.toNatClampNeg) (rS (rS x0 8) x2.toNatClampNeg) (rS (rS x0 8) x2.toNatClampNeg) tS nS rS wS bS sS _ _ _ _ _ _ hw hB hkx0 k3 k6 k6 hAS hAF hX hc hs hS (lv_sub hl [3, 4, 5, 2, 1] rfl)
          · have hw := hw.2 c13
            refine lv_aload_n hx hb dX12_meet_111 rfl (lv_at hl 2 rfl) ?_
            refine lv_goto (tgt := 117) hx hb dX12_meet_112 (by decide) ?_
            exact t_X12_meet_117 X hr hT hA0 hAm9  x0 x1 x2 (rS (rS x0 8) x1.toNatClampNeg) (rS (rS x0 8) x2.toNatClampNeg) (rS (rS x0 8) x1.toNatClampNeg) tS nS rS wS bS sS _ _ _ _ _ _ hw hB hkx0 k3 k6 k3 hAS hAF hX hc hs hS (lv_sub hl [3, 4, 5, 2, 1] rfl)
        · have hw := hw.2 c11
          exact t_X12_meet_100 X hr hT hA0 hAm9  tS nS rS wS bS sS _ _ _ _ _ _ hw hB  hAS hAF hX hc hs hS (lv_sub hl [] rfl)
abbrev rm_X12_storms (b0 s0 : Nat) : Room := { frames := 9, cells := b0, slots := s0, locals := 242 }
def wp_X12_storms_378 (post : (Nat → Nat) → (Nat → Nat) → (Nat → Nat → Nat) → Dt → Prop)  (K236 : Nat → Int32 → Int32 → (Nat → Nat) → (Nat → Nat) → (Nat → Nat → Nat) → (Dt) → (Nat) → (Nat) → Prop) (y0 : Nat) (y1 : Int32) (y2 : Int32) (tS : Nat → Nat) (nS : Nat → Nat) (rS : Nat → Nat → Nat) (wS : Dt) (bS : Nat) (sS : Nat) : Prop := K236 y0 y1 (y2 + 1) tS nS rS wS bS sS
set_option maxHeartbeats 4000000 in
set_option maxRecDepth 100000 in
theorem t_X12_storms_378 : ∀ {p : Program} {l : Launch} {e : Env} {s : State} {m : MethodId} {args : Array Value} {below : List Frame} {meth : Method} {c : Code} {D : va_G} {tc : Nat → ClassId} {h0 : Nat} {sa : Nat → Nat} {Am : Nat → Prop} {b0 s0 : Nat} {t0 : Nat → Nat} {post : (Nat → Nat) → (Nat → Nat) → (Nat → Nat → Nat) → Dt → Prop}  {K236 : Nat → Int32 → Int32 → (Nat → Nat) → (Nat → Nat) → (Nat → Nat → Nat) → (Dt) → (Nat) → (Nat) → Prop} (X : Cx p c s m meth cX12_storms 5 RX12 D tc) (hr : meth.sig.returnType = (Option.none : Option FieldType)) (hT : ST h0 sa s s.heap) (hA0 : ∀ q, Am q → h0 ≤ q) (hAm9 : ∀ x, s.heap.size ≤ x → Am x) (hK236 : ∀ (y0 : Nat) (y1 : Int32) (y2 : Int32) (tS : Nat → Nat) (nS : Nat → Nat) (rS : Nat → Nat → Nat) (wS : Dt) (bS : Nat) (sS : Nat) (H : Heap) (locs : List Loc) (ls : Array Slot) (AS : Nat → Prop) (cells slots : Nat), K236 y0 y1 y2 tS nS rS wS bS sS → SB D tc (sa 3) AS tS nS rS wS H → (tS y0 = 4) → (∀ x, AS x → Am x) → (∀ x, H.size ≤ x → AS x) → Ext t0 tS → cells + bS ≤ b0 → slots + sS ≤ s0 → va_S Am s.heap H locs → lv_has ls 5 [(0, .ref y0), (1, .int y1), (2, .int y2)] → W p l e (rm_X12_storms b0 s0) s m args below meth c H locs cells slots (MQ below (QB (fun u : (Nat → Nat) × (Nat → Nat) × (Nat → Nat → Nat) × Dt => post u.1 u.2.1 u.2.2.1 u.2.2.2) (fun (u : (Nat → Nat) × (Nat → Nat) × (Nat → Nat → Nat) × Dt) (H1 : Heap) => SB D tc (sa 3) Am u.1 u.2.1 u.2.2.1 u.2.2.2 H1 ∧ Ext t0 u.1) (fun _ : (Nat → Nat) × (Nat → Nat) × (Nat → Nat → Nat) × Dt => none) Am) args s (rm_X12_storms b0 s0).cells (rm_X12_storms b0 s0).slots Am) (F0 m 236 ls [])), ∀ (y0 : Nat) (y1 : Int32) (y2 : Int32) (tS : Nat → Nat) (nS : Nat → Nat) (rS : Nat → Nat → Nat) (wS : Dt) (bS : Nat) (sS : Nat) (H : Heap) (locs : List Loc) (ls : Array Slot) (AS : Nat → Prop) (cells slots : Nat), wp_X12_storms_378 post  K236 y0 y1 y2 tS nS rS wS bS sS → SB D tc (sa 3) AS tS nS rS wS H → (tS y0 = 4) → (∀ x, AS x → Am x) → (∀ x, H.size ≤ x → AS x) → Ext t0 tS → cells + bS ≤ b0 → slots + sS ≤ s0 → va_S Am s.heap H locs → lv_has ls 5 [(0, .ref y0), (1, .int y1), (2, .int y2)] → W p l e (rm_X12_storms b0 s0) s m args below meth c H locs cells slots (MQ below (QB (fun u : (Nat → Nat) × (Nat → Nat) × (Nat → Nat → Nat) × Dt => post u.1 u.2.1 u.2.2.1 u.2.2.2) (fun (u : (Nat → Nat) × (Nat → Nat) × (Nat → Nat → Nat) × Dt) (H1 : Heap) => SB D tc (sa 3) Am u.1 u.2.1 u.2.2.1 u.2.2.2 H1 ∧ Ext t0 u.1) (fun _ : (Nat → Nat) × (Nat → Nat) × (Nat → Nat → Nat) × Dt => none) Am) args s (rm_X12_storms b0 s0).cells (rm_X12_storms b0 s0).slots Am) (F0 m 378 ls []) := by
  intro p l e s m args below meth c D tc h0 sa Am b0 s0 t0 post  K236 X hr hT hA0 hAm9 hK236  y0 y1 y2 tS nS rS wS bS sS H locs ls AS cells slots hw hB hky0 hAS hAF hX hc hs hS hl
  have hx := X.1
  have hb := X.2.1
  have hown := X.2.2.2.1
  have hU := X.2.2.2.2.1.1
  unfold wp_X12_storms_378 at hw
  refine lv_iinc (lv' := [(2, .int (y2 + 1)), (0, .ref y0), (1, .int y1)]) hx hb dX12_storms_378 hl (k := 2) rfl (by rfl) (by decide) rfl (fun ls hl => ?_)
  refine lv_goto (tgt := 236) hx hb dX12_storms_381 (by decide) ?_
  exact hK236 y0 y1 (y2 + 1) tS nS rS wS bS sS _ _ _ _ _ _ hw hB hky0 hAS hAF hX hc hs hS (lv_sub hl [1, 2, 0] rfl)
def wp_X12_storms_236 (post : (Nat → Nat) → (Nat → Nat) → (Nat → Nat → Nat) → Dt → Prop)   : Nat → (Nat) → (Int32) → (Int32) → (Nat → Nat) → (Nat → Nat) → (Nat → Nat → Nat) → (Dt) → (Nat) → (Nat) → Prop
  | 0, _, _, _, _, _, _, _, _, _ => False
  | n9 + 1, y0, y1, y2, tS, nS, rS, wS, bS, sS => (y1 ≤ y2 → post tS nS rS wS) ∧ (¬ y1 ≤ y2 → vp_in y2 (nS (rS y0 8)) ∧ ((¬ (wS (rS (rS y0 8) y2.toNatClampNeg) 5) = 0 → wp_X12_storms_378 post  (fun a0 a1 a2 a3 a4 a5 a6 a7 a8 => wp_X12_storms_236 post   n9 a0 a1 a2 a3 a4 a5 a6 a7 a8) y0 y1 y2 tS nS rS wS bS sS) ∧ ((wS (rS (rS y0 8) y2.toNatClampNeg) 5) = 0 → ((wS (rS (rS y0 8) y2.toNatClampNeg) 2) ≤ 300 → wp_X12_storms_378 post  (fun a0 a1 a2 a3 a4 a5 a6 a7 a8 => wp_X12_storms_236 post   n9 a0 a1 a2 a3 a4 a5 a6 a7 a8) y0 y1 y2 tS nS rS wS bS sS) ∧ (¬ (wS (rS (rS y0 8) y2.toNatClampNeg) 2) ≤ 300 → (12 ≤ (nI (nS (rS y0 8))) → wp_X12_storms_378 post  (fun a0 a1 a2 a3 a4 a5 a6 a7 a8 => wp_X12_storms_236 post   n9 a0 a1 a2 a3 a4 a5 a6 a7 a8) y0 y1 y2 tS nS rS wS bS sS) ∧ (¬ 12 ≤ (nI (nS (rS y0 8))) → 1 ≤ bS ∧ (7 ≤ sS ∧ (∀ q20 : Nat, tS q20 = 0 → (∀ tS25 : Nat → Nat, tS25 = va_up tS q20 3 → (∀ wS26 : Dt, wS26 = va_up wS q20 stW → (∀ wS29 : Dt, wS29 = up2 wS26 q20 0 (wS26 (rS (rS y0 8) y2.toNatClampNeg) 0) → (wp_J9_floorMod_7cf53 (fun r30 => ∀ wS31 : Dt, wS31 = up2 wS29 q20 1 r30 → (∀ wS32 : Dt, wS32 = up2 wS31 q20 2 ((wS31 (rS (rS y0 8) y2.toNatClampNeg) 2) / 3) → (∀ wS33 : Dt, wS33 = up2 wS32 (rS (rS y0 8) y2.toNatClampNeg) 2 ((wS32 (rS (rS y0 8) y2.toNatClampNeg) 2) - (wS32 q20 2)) → (nS (rS y0 8) < 400 ∧ (1 ≤ (bS - 1) ∧ ((2 * (nS (rS y0 8)) + 10) ≤ (sS - 7) ∧ (∀ nS38 : Nat → Nat, nS38 = va_up nS (rS y0 8) (nS (rS y0 8) + 1) → (∀ rS39 : Nat → Nat → Nat, rS39 = va_up rS (rS y0 8) (va_up (rS (rS y0 8)) (nS (rS y0 8)) q20) → (∀ wS40 : Dt, wS40 = up2 wS33 (rS y0 8) 0 (wS33 (rS y0 8) 0 + 1) → (∃ b42 s43 : Nat, b42 ≤ ((bS - 1) - 1) ∧ s43 ≤ ((sS - 7) - (2 * (nS (rS y0 8)) + 10)) ∧ (wp_X12_notes (fun tS46 nS47 rS48 wS49 => wp_X12_storms_378 post  (fun a0 a1 a2 a3 a4 a5 a6 a7 a8 => wp_X12_storms_236 post   n9 a0 a1 a2 a3 a4 a5 a6 a7 a8) y0 y1 y2 tS46 nS47 rS48 wS49 (((bS - 1) - 1) - b42) (((sS - 7) - (2 * (nS (rS y0 8)) + 10)) - s43)) tS25 nS38 rS39 wS40 b42 s43 y0 115 ((nI (nS38 (rS39 y0 8))) - 1)))))))))))) ((wS29 (rS (rS y0 8) y2.toNatClampNeg) 1) + (wS29 (rS (rS y0 8) y2.toNatClampNeg) 2)) 3600)))))))))))
set_option maxHeartbeats 4000000 in
set_option maxRecDepth 100000 in
theorem t_X12_storms_236 : ∀ {p : Program} {l : Launch} {e : Env} {s : State} {m : MethodId} {args : Array Value} {below : List Frame} {meth : Method} {c : Code} {D : va_G} {tc : Nat → ClassId} {h0 : Nat} {sa : Nat → Nat} {Am : Nat → Prop} {b0 s0 : Nat} {t0 : Nat → Nat} {post : (Nat → Nat) → (Nat → Nat) → (Nat → Nat → Nat) → Dt → Prop}   (X : Cx p c s m meth cX12_storms 5 RX12 D tc) (hr : meth.sig.returnType = (Option.none : Option FieldType)) (hT : ST h0 sa s s.heap) (hA0 : ∀ q, Am q → h0 ≤ q) (hAm9 : ∀ x, s.heap.size ≤ x → Am x)  (n9 : Nat), ∀ (y0 : Nat) (y1 : Int32) (y2 : Int32) (tS : Nat → Nat) (nS : Nat → Nat) (rS : Nat → Nat → Nat) (wS : Dt) (bS : Nat) (sS : Nat) (H : Heap) (locs : List Loc) (ls : Array Slot) (AS : Nat → Prop) (cells slots : Nat), wp_X12_storms_236 post   n9 y0 y1 y2 tS nS rS wS bS sS → SB D tc (sa 3) AS tS nS rS wS H → (tS y0 = 4) → (∀ x, AS x → Am x) → (∀ x, H.size ≤ x → AS x) → Ext t0 tS → cells + bS ≤ b0 → slots + sS ≤ s0 → va_S Am s.heap H locs → lv_has ls 5 [(0, .ref y0), (1, .int y1), (2, .int y2)] → W p l e (rm_X12_storms b0 s0) s m args below meth c H locs cells slots (MQ below (QB (fun u : (Nat → Nat) × (Nat → Nat) × (Nat → Nat → Nat) × Dt => post u.1 u.2.1 u.2.2.1 u.2.2.2) (fun (u : (Nat → Nat) × (Nat → Nat) × (Nat → Nat → Nat) × Dt) (H1 : Heap) => SB D tc (sa 3) Am u.1 u.2.1 u.2.2.1 u.2.2.2 H1 ∧ Ext t0 u.1) (fun _ : (Nat → Nat) × (Nat → Nat) × (Nat → Nat → Nat) × Dt => none) Am) args s (rm_X12_storms b0 s0).cells (rm_X12_storms b0 s0).slots Am) (F0 m 236 ls []) := by
  intro p l e s m args below meth c D tc h0 sa Am b0 s0 t0 post   X hr hT hA0 hAm9  n9
  have hx := X.1
  have hb := X.2.1
  have hown := X.2.2.2.1
  have hU := X.2.2.2.2.1.1
  induction n9 with
  | zero =>
    intro  y0 y1 y2 tS nS rS wS bS sS H locs ls AS cells slots hw
    exact hw.elim
  | succ n9 ih =>
    intro  y0 y1 y2 tS nS rS wS bS sS H locs ls AS cells slots hw hB hky0 hAS hAF hX hc hs hS hl
    unfold wp_X12_storms_236 at hw
    refine lv_iload_n hx hb dX12_storms_236 rfl (lv_at hl 2 rfl) ?_
    refine lv_iload_n hx hb dX12_storms_237 rfl (lv_at hl 1 rfl) ?_
    refine lv_icmp_ge (tgt := 384) hx hb dX12_storms_238 (by decide) (fun c12 => ?_) (fun c12 => ?_)
    · have hw := hw.1 c12
      exact e_v X hr dX12_storms_384 hS (tS, nS, rS, wS) rfl hw ⟨hB.regs hAS, hX⟩ ⟨show cells ≤ b0 by omega, show slots ≤ s0 by omega⟩
    · have hw := hw.2 c12
      refine lv_aload_n hx hb dX12_storms_241 rfl (lv_at hl 0 rfl) ?_
      refine g_get X dX12_storms_242 f_X12_33 (hB.one (k := 4) hky0 rfl) 0 (v := .ref (rS y0 8)) rfl rfl ?_
      have k13 : tS (rS y0 8) = 8 := (hB.wtk hky0).2.2.2.2.1
      refine lv_iload_n hx hb dX12_storms_245 rfl (lv_at hl 2 rfl) ?_
      obtain ⟨fs9, hat9⟩ := hB.lat (isL_of k13)
      obtain ⟨o14, hw⟩ := hw
      refine g_after5 (st0 := [.int y2, .ref (rS y0 8)]) (rest := []) (g_F X mf_X12_130 (c_get l D tc h0 sa _ (rS y0 8) hB (isL_of k13) o14) rfl hat9 hT hS hA0 dX12_storms_246 hl.1 rfl rfl ⟨Nat.le_of_ble_eq_true rfl, Nat.le_of_ble_eq_true rfl⟩ (Nat.le_of_ble_eq_true rfl) ⟨show cells + 0 ≤ b0 by omega, show slots + 0 ≤ s0 by omega⟩) hS (fun _ h => h.elim) (fun u => .ref (rS (rS y0 8) y2.toNatClampNeg) :: []) (fun _ => rfl) (fun u H9 locs hu hP9 hz9 hk9 hS => ?_)
      have e9 : H9 = _ := hP9
      rw [e9] at hS ⊢
      refine W.widen (k := cells) (n := slots) (Nat.le_refl _) (Nat.le_refl _) ?_
      have k15 : tS (rS (rS y0 8) y2.toNatClampNeg) = 3 := hB.elt k13 (lt10 o14)
      refine x_cast X w_1731 rfl (hB.at (k := 3) k15 rfl) dX12_storms_251 ?_
      refine lv_astore_n (lv' := [(3, .ref (rS (rS y0 8) y2.toNatClampNeg)), (0, .ref y0), (1, .int y1), (2, .int y2)]) hx hb dX12_storms_254 rfl hl (by decide) rfl (fun ls hl => ?_)
      refine lv_aload_n hx hb dX12_storms_255 rfl (lv_at hl 0 rfl) ?_
      refine g_getN X dX12_storms_256 f_X12_140 (hB.one (k := 3) k15 rfl) 0 (v := .int (wS (rS (rS y0 8) y2.toNatClampNeg) 5)) rfl rfl ?_
      refine lv_if_ne (tgt := 378) hx hb dX12_storms_259 (by decide) (fun c16 => ?_) (fun c16 => ?_)
      · have hw := hw.1 c16
        exact t_X12_storms_378 X hr hT hA0 hAm9 ih y0 y1 y2 tS nS rS wS bS sS _ _ _ _ _ _ hw hB hky0 hAS hAF hX hc hs hS (lv_sub hl [1, 2, 3] rfl)
      · have hw := hw.2 c16
        refine lv_aload_n hx hb dX12_storms_262 rfl (lv_at hl 0 rfl) ?_
        refine g_getN X dX12_storms_263 f_X12_125 (hB.one (k := 3) k15 rfl) 0 (v := .int (wS (rS (rS y0 8) y2.toNatClampNeg) 2)) rfl rfl ?_
        refine lv_sipush (v := 300) hx hb dX12_storms_266 (by decide) ?_
        refine lv_icmp_le (tgt := 378) hx hb dX12_storms_269 (by decide) (fun c17 => ?_) (fun c17 => ?_)
        · have hw := hw.1 c17
          exact t_X12_storms_378 X hr hT hA0 hAm9 ih y0 y1 y2 tS nS rS wS bS sS _ _ _ _ _ _ hw hB hky0 hAS hAF hX hc hs hS (lv_sub hl [1, 2, 3] rfl)
        · have hw := hw.2 c17
          refine lv_aload_n hx hb dX12_storms_272 rfl (lv_at hl 1 rfl) ?_
          refine g_get X dX12_storms_273 f_X12_33 (hB.one (k := 4) hky0 rfl) 0 (v := .ref (rS y0 8)) rfl rfl ?_
          have k18 : tS (rS y0 8) = 8 := (hB.wtk hky0).2.2.2.2.1
          obtain ⟨fs9, hat9⟩ := hB.lat (isL_of k18)
          refine g_after5 (st0 := [.ref (rS y0 8)]) (rest := []) (g_F X mf_X12_115 (c_size l D tc h0 sa _ (rS y0 8) hB (isL_of k18)) rfl hat9 hT hS hA0 dX12_storms_276 hl.1 rfl rfl ⟨Nat.le_of_ble_eq_true rfl, Nat.le_of_ble_eq_true rfl⟩ (Nat.le_of_ble_eq_true rfl) ⟨show cells + 0 ≤ b0 by omega, show slots + 0 ≤ s0 by omega⟩) hS (fun _ h => h.elim) (fun u => .int (nI (nS (rS y0 8))) :: []) (fun _ => rfl) (fun u H9 locs hu hP9 hz9 hk9 hS => ?_)
          have e9 : H9 = _ := hP9
          rw [e9] at hS ⊢
          refine W.widen (k := cells) (n := slots) (Nat.le_refl _) (Nat.le_refl _) ?_
          refine lv_bipush (v := 12) hx hb dX12_storms_281 (by decide) ?_
          refine lv_icmp_ge (tgt := 378) hx hb dX12_storms_283 (by decide) (fun c19 => ?_) (fun c19 => ?_)
          · have hw := hw.1 c19
            exact t_X12_storms_378 X hr hT hA0 hAm9 ih y0 y1 y2 tS nS rS wS bS sS _ _ _ _ _ _ hw hB hky0 hAS hAF hX hc hs hS (lv_sub hl [1, 2, 3] rfl)
          · have hw := hw.2 c19
            obtain ⟨o21, hw⟩ := hw
            obtain ⟨o22, hw⟩ := hw
            refine x_new (A := Am) X nw_X12_75 (fs := [.int 0, .int 0, .int 0, .int 0, .int 0, .int 0, .int 0]) (fun j hj => by rcases (show j = 0 ∨ j = 1 ∨ j = 2 ∨ j = 3 ∨ j = 4 ∨ j = 5 ∨ j = 6 by omega) with e | e | e | e | e | e | e <;> subst e <;> rfl) hS hAm9 ⟨show cells + 1 ≤ b0 by omega, show slots + 7 ≤ s0 by omega⟩ dX12_storms_286 (fun q20 H hq9 hat9 hAq hz9 hqz o1 hS => ?_)
            refine lv_dup hx hb dX12_storms_289 rfl ?_
            refine g_after (st0 := .ref q20 :: [.ref q20]) (rest := [.ref q20]) (g_IN X m_X12_168 (c_in3 l D tc h0 sa _ q20 hat9 (hA0 _ hAq)) hT hS hA0 dX12_storms_290 hl.1 rfl rfl ⟨Nat.le_of_ble_eq_true rfl, Nat.le_of_ble_eq_true rfl⟩ (Nat.le_of_ble_eq_true rfl) ⟨show (cells + 1) + 0 ≤ b0 by omega, show (slots + 7) + 0 ≤ s0 by omega⟩) hS (fun x h => h ▸ hAq) (fun u => [.ref q20]) (fun _ => rfl) (fun u H locs hu hP9 hz8 hk9 hS => ?_)
            have o2 := fun x hx => (hk9 x (by omega) (fun e => by omega)).trans (o1 x hx)
            have hat9 := hP9
            obtain ⟨z23, hB, hX9, k24⟩ := hB.make (k := 3) (W := stW) (hAF q20 hq9) hq9 o2 rfl hat9 trivial
            have hAF : ∀ x, H.size ≤ x → AS x := fun x h => hAF x (by omega)
            have hw := hw q20 z23
            obtain ⟨tS25, etS25⟩ : ∃ z : Nat → Nat, z = va_up tS q20 3 := ⟨_, rfl⟩
            rw [← etS25] at hB hX9 k24
            have hw := hw tS25 etS25
            obtain ⟨wS26, ewS26⟩ : ∃ z : Dt, z = va_up wS q20 stW := ⟨_, rfl⟩
            rw [← ewS26] at hB
            have hw := hw wS26 ewS26
            have hX := hX.trans hX9
            have k27 : tS25 (rS (rS y0 8) y2.toNatClampNeg) = 3 := hX9.to k15
            have k28 : tS25 y0 = 4 := hX9.to hky0
            refine W_bud (b := (bS - 1)) (s1 := (sS - 7)) (B := b0) (S := s0) (show (cells + 1 + 0) + (bS - 1) ≤ b0 by omega) (show (slots + 7 + 0) + (sS - 7) ≤ s0 by omega) (fun cells slots hc hs => ?_)
            refine lv_astore (lv' := [(4, .ref q20), (3, .ref (rS (rS y0 8) y2.toNatClampNeg)), (0, .ref y0), (1, .int y1), (2, .int y2)]) hx hb dX12_storms_293 hl (by decide) rfl (fun ls hl => ?_)
            refine lv_aload hx hb dX12_storms_295 (lv_at hl 0 rfl) ?_
            refine lv_aload_n hx hb dX12_storms_297 rfl (lv_at hl 1 rfl) ?_
            refine g_getN X dX12_storms_298 f_X12_144 (hB.one (k := 3) k27 rfl) 0 (v := .int (wS26 (rS (rS y0 8) y2.toNatClampNeg) 0)) rfl rfl ?_
            refine g_putiN X dX12_storms_301 f_X12_144 (hB.oneB (k := 3) hAS k24 rfl) hS (x := (wS26 (rS (rS y0 8) y2.toNatClampNeg) 0)) rfl rfl rfl (fun H locs hb9 oq hS => ?_)
            have hB := hB.putB k24 rfl hb9 oq
            have hAF : ∀ x, H.size ≤ x → AS x := fun x h => hAF x (Nat.le_trans (sz_of oq (hB.lt (by rw [k24]; decide)).1) h)
            obtain ⟨wS29, ewS29⟩ : ∃ z : Dt, z = up2 wS26 q20 0 (wS26 (rS (rS y0 8) y2.toNatClampNeg) 0) := ⟨_, rfl⟩
            rw [← ewS29] at hB
            have hw := hw wS29 ewS29
            refine lv_aload hx hb dX12_storms_304 (lv_at hl 0 rfl) ?_
            refine lv_aload_n hx hb dX12_storms_306 rfl (lv_at hl 1 rfl) ?_
            refine g_getN X dX12_storms_307 f_X12_134 (hB.one (k := 3) k27 rfl) 0 (v := .int (wS29 (rS (rS y0 8) y2.toNatClampNeg) 1)) rfl rfl ?_
            refine lv_aload_n hx hb dX12_storms_310 rfl (lv_at hl 1 rfl) ?_
            refine g_getN X dX12_storms_311 f_X12_125 (hB.one (k := 3) k27 rfl) 0 (v := .int (wS29 (rS (rS y0 8) y2.toNatClampNeg) 2)) rfl rfl ?_
            refine lv_iadd hx hb dX12_storms_314 ?_
            refine lv_sipush (v := 3600) hx hb dX12_storms_315 (by decide) ?_
            refine g_after (st0 := [.int 3600, .int ((wS29 (rS (rS y0 8) y2.toNatClampNeg) 1) + (wS29 (rS (rS y0 8) y2.toNatClampNeg) 2)), .ref q20]) (rest := [.ref q20]) (g_S X m_X12_137 (c_J9_floorMod_7cf53 l D tc h0 sa ((wS29 (rS (rS y0 8) y2.toNatClampNeg) 1) + (wS29 (rS (rS y0 8) y2.toNatClampNeg) 2)) 3600 _ hw) hT hS hA0 dX12_storms_318 hl.1 rfl rfl ⟨Nat.le_of_ble_eq_true rfl, Nat.le_of_ble_eq_true rfl⟩ (Nat.le_of_ble_eq_true rfl) ⟨show cells + 0 ≤ b0 by omega, show slots + 0 ≤ s0 by omega⟩) hS (fun _ h => h.elim) (fun u => .int u :: [.ref q20]) (fun _ => rfl) (fun u H9 locs hw hP9 hz9 hk9 hS => ?_)
            have e9 : H9 = _ := hP9
            rw [e9] at hS ⊢
            refine W.widen (k := cells) (n := slots) (Nat.le_refl _) (Nat.le_refl _) ?_
            obtain ⟨r30, rfl⟩ : ∃ z, z = u := ⟨_, rfl⟩
            try dsimp only at hw
            refine g_putiN X dX12_storms_321 f_X12_134 (hB.oneB (k := 3) hAS k24 rfl) hS (x := r30) rfl rfl rfl (fun H locs hb9 oq hS => ?_)
            have hB := hB.putB k24 rfl hb9 oq
            have hAF : ∀ x, H.size ≤ x → AS x := fun x h => hAF x (Nat.le_trans (sz_of oq (hB.lt (by rw [k24]; decide)).1) h)
            obtain ⟨wS31, ewS31⟩ : ∃ z : Dt, z = up2 wS29 q20 1 r30 := ⟨_, rfl⟩
            rw [← ewS31] at hB
            have hw := hw wS31 ewS31
            refine lv_aload hx hb dX12_storms_324 (lv_at hl 0 rfl) ?_
            refine lv_aload_n hx hb dX12_storms_326 rfl (lv_at hl 1 rfl) ?_
            refine g_getN X dX12_storms_327 f_X12_125 (hB.one (k := 3) k27 rfl) 0 (v := .int (wS31 (rS (rS y0 8) y2.toNatClampNeg) 2)) rfl rfl ?_
            refine lv_iconst (v := 3) hx hb dX12_storms_330 (by decide) ?_
            refine lv_idiv hx hb dX12_storms_331 (by decide) ?_
            refine g_putiN X dX12_storms_332 f_X12_125 (hB.oneB (k := 3) hAS k24 rfl) hS (x := ((wS31 (rS (rS y0 8) y2.toNatClampNeg) 2) / 3)) rfl rfl rfl (fun H locs hb9 oq hS => ?_)
            have hB := hB.putB k24 rfl hb9 oq
            have hAF : ∀ x, H.size ≤ x → AS x := fun x h => hAF x (Nat.le_trans (sz_of oq (hB.lt (by rw [k24]; decide)).1) h)
            obtain ⟨wS32, ewS32⟩ : ∃ z : Dt, z = up2 wS31 q20 2 ((wS31 (rS (rS y0 8) y2.toNatClampNeg) 2) / 3) := ⟨_, rfl⟩
            rw [← ewS32] at hB
            have hw := hw wS32 ewS32
            refine lv_aload_n hx hb dX12_storms_335 rfl (lv_at hl 1 rfl) ?_
            refine lv_dup hx hb dX12_storms_336 rfl ?_
            refine g_getN X dX12_storms_337 f_X12_125 (hB.one (k := 3) k27 rfl) 0 (v := .int (wS32 (rS (rS y0 8) y2.toNatClampNeg) 2)) rfl rfl ?_
            refine lv_aload hx hb dX12_storms_340 (lv_at hl 0 rfl) ?_
            refine g_getN X dX12_storms_342 f_X12_125 (hB.one (k := 3) k24 rfl) 0 (v := .int (wS32 q20 2)) rfl rfl ?_
            refine lv_isub hx hb dX12_storms_345 ?_
            refine g_putiN X dX12_storms_346 f_X12_125 (hB.oneB (k := 3) hAS k27 rfl) hS (x := ((wS32 (rS (rS y0 8) y2.toNatClampNeg) 2) - (wS32 q20 2))) rfl rfl rfl (fun H locs hb9 oq hS => ?_)
            have hB := hB.putB k27 rfl hb9 oq
            have hAF : ∀ x, H.size ≤ x → AS x := fun x h => hAF x (Nat.le_trans (sz_of oq (hB.lt (by rw [k27]; decide)).1) h)
            obtain ⟨wS33, ewS33⟩ : ∃ z : Dt, z = up2 wS32 (rS (rS y0 8) y2.toNatClampNeg) 2 ((wS32 (rS (rS y0 8) y2.toNatClampNeg) 2) - (wS32 q20 2)) := ⟨_, rfl⟩
            rw [← ewS33] at hB
            have hw := hw wS33 ewS33
            refine lv_aload_n hx hb dX12_storms_349 rfl (lv_at hl 2 rfl) ?_
            refine g_get X dX12_storms_350 f_X12_33 (hB.one (k := 4) k28 rfl) 0 (v := .ref (rS y0 8)) rfl rfl ?_
            have k34 : tS25 (rS y0 8) = 8 := (hB.wtk k28).2.2.2.2.1
            refine lv_aload hx hb dX12_storms_353 (lv_at hl 0 rfl) ?_
            obtain ⟨fs9, hat9⟩ := hB.lat (isL_of k34)
            obtain ⟨o35, hw⟩ := hw
            obtain ⟨o36, hw⟩ := hw
            obtain ⟨o37, hw⟩ := hw
            refine g_after5 (st0 := [.ref q20, .ref (rS y0 8)]) (rest := []) (g_F X mf_X12_81 (c_add l D tc h0 sa _ (rS y0 8) q20 hB (isL_of k34) (by rw [k34, k24]; rfl) o35 (fun x h => hA0 x (hAS x h)) hAF) rfl hat9 hT hS hA0 dX12_storms_355 hl.1 rfl rfl ⟨Nat.le_of_ble_eq_true rfl, Nat.le_of_ble_eq_true rfl⟩ (Nat.le_of_ble_eq_true rfl) ⟨show cells + 1 ≤ b0 by omega, show slots + (2 * (nS (rS y0 8)) + 10) ≤ s0 by omega⟩) hS hAS (fun u => .int 1 :: []) (fun _ => rfl) (fun u H locs hu hP9 hz9 hk9 hS => ?_)
            have hB := hP9
            have hAF : ∀ x, H.size ≤ x → AS x := fun x h => hAF x (by omega)
            refine W_bud (b := ((bS - 1) - 1)) (s1 := ((sS - 7) - (2 * (nS (rS y0 8)) + 10))) (B := b0) (S := s0) (show (cells + 1) + ((bS - 1) - 1) ≤ b0 by omega) (show (slots + (2 * (nS (rS y0 8)) + 10)) + ((sS - 7) - (2 * (nS (rS y0 8)) + 10)) ≤ s0 by omega) (fun cells slots hc hs => ?_)
            obtain ⟨nS38, enS38⟩ : ∃ z : Nat → Nat, z = va_up nS (rS y0 8) (nS (rS y0 8) + 1) := ⟨_, rfl⟩
            rw [← enS38] at hB
            have hw := hw nS38 enS38
            obtain ⟨rS39, erS39⟩ : ∃ z : Nat → Nat → Nat, z = va_up rS (rS y0 8) (va_up (rS (rS y0 8)) (nS (rS y0 8)) q20) := ⟨_, rfl⟩
            rw [← erS39] at hB
            have hw := hw rS39 erS39
            obtain ⟨wS40, ewS40⟩ : ∃ z : Dt, z = up2 wS33 (rS y0 8) 0 (wS33 (rS y0 8) 0 + 1) := ⟨_, rfl⟩
            rw [← ewS40] at hB
            have hw := hw wS40 ewS40
            refine lv_pop hx hb dX12_storms_360 rfl ?_
            refine lv_aload_n hx hb dX12_storms_361 rfl (lv_at hl 2 rfl) ?_
            refine lv_bipush (v := 115) hx hb dX12_storms_362 (by decide) ?_
            refine lv_aload_n hx hb dX12_storms_364 rfl (lv_at hl 2 rfl) ?_
            refine g_get X dX12_storms_365 f_X12_33 (hB.one (k := 4) k28 rfl) 0 (v := .ref (rS39 y0 8)) rfl rfl ?_
            have k41 : tS25 (rS39 y0 8) = 8 := (hB.wtk k28).2.2.2.2.1
            obtain ⟨fs9, hat9⟩ := hB.lat (isL_of k41)
            refine g_after5 (st0 := [.ref (rS39 y0 8), .int 115, .ref y0]) (rest := [.int 115, .ref y0]) (g_F X mf_X12_115 (c_size l D tc h0 sa _ (rS39 y0 8) hB (isL_of k41)) rfl hat9 hT hS hA0 dX12_storms_368 hl.1 rfl rfl ⟨Nat.le_of_ble_eq_true rfl, Nat.le_of_ble_eq_true rfl⟩ (Nat.le_of_ble_eq_true rfl) ⟨show cells + 0 ≤ b0 by omega, show slots + 0 ≤ s0 by omega⟩) hS (fun _ h => h.elim) (fun u => .int (nI (nS38 (rS39 y0 8))) :: [.int 115, .ref y0]) (fun _ => rfl) (fun u H9 locs hu hP9 hz9 hk9 hS => ?_)
            have e9 : H9 = _ := hP9
            rw [e9] at hS ⊢
            refine W.widen (k := cells) (n := slots) (Nat.le_refl _) (Nat.le_refl _) ?_
            refine lv_iconst (v := 1) hx hb dX12_storms_373 (by decide) ?_
            refine lv_isub hx hb dX12_storms_374 ?_
            obtain ⟨b42, s43, o44, o45, hw⟩ := hw
            refine g_after (st0 := [.int ((nI (nS38 (rS39 y0 8))) - 1), .int 115, .ref y0]) (rest := []) (g_V X m_X12_158 (c_X12_notes l D tc h0 sa y0 115 ((nI (nS38 (rS39 y0 8))) - 1) b42 s43 _ hB k28 (fun x h => hA0 x (hAS x h)) hAF hw) (recv1 X.2.2.2.2.1 rfl (hB.at (k := 4) k28 rfl)) hT hS hA0 dX12_storms_375 hl.1 rfl rfl ⟨Nat.le_of_ble_eq_true rfl, Nat.le_of_ble_eq_true rfl⟩ (Nat.le_of_ble_eq_true rfl) ⟨show cells + b42 ≤ b0 by omega, show slots + s43 ≤ s0 by omega⟩) hS hAS (fun u => []) (fun _ => rfl) (fun u H locs hw hP9 hz9 hk9 hS => ?_)
            obtain ⟨tS46, nS47, rS48, wS49⟩ := u
            try dsimp only at hw hP9
            obtain ⟨hB, hX9⟩ := hP9
            have hAF : ∀ x, H.size ≤ x → AS x := fun x h => hAF x (by omega)
            have hX := hX.trans hX9
            refine W_bud (b := (((bS - 1) - 1) - b42)) (s1 := (((sS - 7) - (2 * (nS (rS y0 8)) + 10)) - s43)) (B := b0) (S := s0) (show (cells + b42) + (((bS - 1) - 1) - b42) ≤ b0 by omega) (show (slots + s43) + (((sS - 7) - (2 * (nS (rS y0 8)) + 10)) - s43) ≤ s0 by omega) (fun cells slots hc hs => ?_)
            have k50 : tS46 q20 = 3 := hX9.to k24
            have k51 : tS46 (rS (rS y0 8) y2.toNatClampNeg) = 3 := hX9.to k27
            have k52 : tS46 y0 = 4 := hX9.to k28
            exact t_X12_storms_378 X hr hT hA0 hAm9 ih y0 y1 y2 tS46 nS47 rS48 wS49 (((bS - 1) - 1) - b42) (((sS - 7) - (2 * (nS (rS y0 8)) + 10)) - s43) _ _ _ _ _ _ hw hB k52 hAS hAF hX hc hs hS (lv_sub hl [2, 3, 4] rfl)
def wp_X12_storms_218 (post : (Nat → Nat) → (Nat → Nat) → (Nat → Nat → Nat) → Dt → Prop)  (K124 : Nat → Int32 → (Nat → Nat) → (Nat → Nat) → (Nat → Nat → Nat) → (Dt) → (Nat) → (Nat) → Prop) (y0 : Nat) (y1 : Int32) (tS : Nat → Nat) (nS : Nat → Nat) (rS : Nat → Nat → Nat) (wS : Dt) (bS : Nat) (sS : Nat) : Prop := K124 y0 (y1 + 1) tS nS rS wS bS sS
set_option maxHeartbeats 4000000 in
set_option maxRecDepth 100000 in
theorem t_X12_storms_218 : ∀ {p : Program} {l : Launch} {e : Env} {s : State} {m : MethodId} {args : Array Value} {below : List Frame} {meth : Method} {c : Code} {D : va_G} {tc : Nat → ClassId} {h0 : Nat} {sa : Nat → Nat} {Am : Nat → Prop} {b0 s0 : Nat} {t0 : Nat → Nat} {post : (Nat → Nat) → (Nat → Nat) → (Nat → Nat → Nat) → Dt → Prop}  {K124 : Nat → Int32 → (Nat → Nat) → (Nat → Nat) → (Nat → Nat → Nat) → (Dt) → (Nat) → (Nat) → Prop} (X : Cx p c s m meth cX12_storms 5 RX12 D tc) (hr : meth.sig.returnType = (Option.none : Option FieldType)) (hT : ST h0 sa s s.heap) (hA0 : ∀ q, Am q → h0 ≤ q) (hAm9 : ∀ x, s.heap.size ≤ x → Am x) (hK124 : ∀ (y0 : Nat) (y1 : Int32) (tS : Nat → Nat) (nS : Nat → Nat) (rS : Nat → Nat → Nat) (wS : Dt) (bS : Nat) (sS : Nat) (H : Heap) (locs : List Loc) (ls : Array Slot) (AS : Nat → Prop) (cells slots : Nat), K124 y0 y1 tS nS rS wS bS sS → SB D tc (sa 3) AS tS nS rS wS H → (tS y0 = 4) → (∀ x, AS x → Am x) → (∀ x, H.size ≤ x → AS x) → Ext t0 tS → cells + bS ≤ b0 → slots + sS ≤ s0 → va_S Am s.heap H locs → lv_has ls 5 [(0, .ref y0), (1, .int y1)] → W p l e (rm_X12_storms b0 s0) s m args below meth c H locs cells slots (MQ below (QB (fun u : (Nat → Nat) × (Nat → Nat) × (Nat → Nat → Nat) × Dt => post u.1 u.2.1 u.2.2.1 u.2.2.2) (fun (u : (Nat → Nat) × (Nat → Nat) × (Nat → Nat → Nat) × Dt) (H1 : Heap) => SB D tc (sa 3) Am u.1 u.2.1 u.2.2.1 u.2.2.2 H1 ∧ Ext t0 u.1) (fun _ : (Nat → Nat) × (Nat → Nat) × (Nat → Nat → Nat) × Dt => none) Am) args s (rm_X12_storms b0 s0).cells (rm_X12_storms b0 s0).slots Am) (F0 m 124 ls [])), ∀ (y0 : Nat) (y1 : Int32) (tS : Nat → Nat) (nS : Nat → Nat) (rS : Nat → Nat → Nat) (wS : Dt) (bS : Nat) (sS : Nat) (H : Heap) (locs : List Loc) (ls : Array Slot) (AS : Nat → Prop) (cells slots : Nat), wp_X12_storms_218 post  K124 y0 y1 tS nS rS wS bS sS → SB D tc (sa 3) AS tS nS rS wS H → (tS y0 = 4) → (∀ x, AS x → Am x) → (∀ x, H.size ≤ x → AS x) → Ext t0 tS → cells + bS ≤ b0 → slots + sS ≤ s0 → va_S Am s.heap H locs → lv_has ls 5 [(0, .ref y0), (1, .int y1)] → W p l e (rm_X12_storms b0 s0) s m args below meth c H locs cells slots (MQ below (QB (fun u : (Nat → Nat) × (Nat → Nat) × (Nat → Nat → Nat) × Dt => post u.1 u.2.1 u.2.2.1 u.2.2.2) (fun (u : (Nat → Nat) × (Nat → Nat) × (Nat → Nat → Nat) × Dt) (H1 : Heap) => SB D tc (sa 3) Am u.1 u.2.1 u.2.2.1 u.2.2.2 H1 ∧ Ext t0 u.1) (fun _ : (Nat → Nat) × (Nat → Nat) × (Nat → Nat → Nat) × Dt => none) Am) args s (rm_X12_storms b0 s0).cells (rm_X12_storms b0 s0).slots Am) (F0 m 218 ls []) := by
  intro p l e s m args below meth c D tc h0 sa Am b0 s0 t0 post  K124 X hr hT hA0 hAm9 hK124  y0 y1 tS nS rS wS bS sS H locs ls AS cells slots hw hB hky0 hAS hAF hX hc hs hS hl
  have hx := X.1
  have hb := X.2.1
  have hown := X.2.2.2.1
  have hU := X.2.2.2.2.1.1
  unfold wp_X12_storms_218 at hw
  refine lv_iinc (lv' := [(1, .int (y1 + 1)), (0, .ref y0)]) hx hb dX12_storms_218 hl (k := 1) rfl (by rfl) (by decide) rfl (fun ls hl => ?_)
  refine lv_goto (tgt := 124) hx hb dX12_storms_221 (by decide) ?_
  exact hK124 y0 (y1 + 1) tS nS rS wS bS sS _ _ _ _ _ _ hw hB hky0 hAS hAF hX hc hs hS (lv_sub hl [1, 0] rfl)
def wp_X12_storms_124 (post : (Nat → Nat) → (Nat → Nat) → (Nat → Nat → Nat) → Dt → Prop)   : Nat → (Nat) → (Int32) → (Nat → Nat) → (Nat → Nat) → (Nat → Nat → Nat) → (Dt) → (Nat) → (Nat) → Prop
  | 0, _, _, _, _, _, _, _, _ => False
  | n9 + 1, y0, y1, tS, nS, rS, wS, bS, sS => ((nI (nS (rS y0 8))) ≤ y1 → ∃ k9 : Nat, wp_X12_storms_236 post   k9 y0 (nI (nS (rS y0 8))) 0 tS nS rS wS bS sS) ∧ (¬ (nI (nS (rS y0 8))) ≤ y1 → vp_in y1 (nS (rS y0 8)) ∧ ((¬ (wS (rS (rS y0 8) y1.toNatClampNeg) 5) = 0 → wp_X12_storms_218 post  (fun a0 a1 a2 a3 a4 a5 a6 a7 => wp_X12_storms_124 post   n9 a0 a1 a2 a3 a4 a5 a6 a7) y0 y1 tS nS rS wS bS sS) ∧ ((wS (rS (rS y0 8) y1.toNatClampNeg) 5) = 0 → wp_X12_shear (fun r57 => (r57 ≤ 100 → wp_X12_storms_218 post  (fun a0 a1 a2 a3 a4 a5 a6 a7 => wp_X12_storms_124 post   n9 a0 a1 a2 a3 a4 a5 a6 a7) y0 y1 tS nS rS wS bS sS) ∧ (¬ r57 ≤ 100 → ∀ wS59 : Dt, wS59 = up2 wS (rS (rS y0 8) y1.toNatClampNeg) 2 ((wS (rS (rS y0 8) y1.toNatClampNeg) 2) - (if 1 < ((wS (rS (rS y0 8) y1.toNatClampNeg) 2) / 10) then ((wS (rS (rS y0 8) y1.toNatClampNeg) 2) / 10) else 1)) → ((10 ≤ (wS59 (rS (rS y0 8) y1.toNatClampNeg) 2) → wp_X12_storms_218 post  (fun a0 a1 a2 a3 a4 a5 a6 a7 => wp_X12_storms_124 post   n9 a0 a1 a2 a3 a4 a5 a6 a7) y0 y1 tS nS rS wS59 bS sS) ∧ (¬ 10 ≤ (wS59 (rS (rS y0 8) y1.toNatClampNeg) 2) → ∀ wS61 : Dt, wS61 = up2 wS59 (rS (rS y0 8) y1.toNatClampNeg) 5 1 → (∀ wS62 : Dt, wS62 = up2 wS61 (rS (rS y0 8) y1.toNatClampNeg) 4 45 → (∃ b63 s64 : Nat, b63 ≤ bS ∧ s64 ≤ sS ∧ (wp_X12_notes (fun tS67 nS68 rS69 wS70 => wp_X12_storms_218 post  (fun a0 a1 a2 a3 a4 a5 a6 a7 => wp_X12_storms_124 post   n9 a0 a1 a2 a3 a4 a5 a6 a7) y0 y1 tS67 nS68 rS69 wS70 (bS - b63) (sS - s64)) tS nS rS wS62 b63 s64 y0 100 y1))))))) tS nS rS wS y0 (wS (rS (rS y0 8) y1.toNatClampNeg) 0))))
set_option maxHeartbeats 4000000 in
set_option maxRecDepth 100000 in
theorem t_X12_storms_124 : ∀ {p : Program} {l : Launch} {e : Env} {s : State} {m : MethodId} {args : Array Value} {below : List Frame} {meth : Method} {c : Code} {D : va_G} {tc : Nat → ClassId} {h0 : Nat} {sa : Nat → Nat} {Am : Nat → Prop} {b0 s0 : Nat} {t0 : Nat → Nat} {post : (Nat → Nat) → (Nat → Nat) → (Nat → Nat → Nat) → Dt → Prop}   (X : Cx p c s m meth cX12_storms 5 RX12 D tc) (hr : meth.sig.returnType = (Option.none : Option FieldType)) (hT : ST h0 sa s s.heap) (hA0 : ∀ q, Am q → h0 ≤ q) (hAm9 : ∀ x, s.heap.size ≤ x → Am x)  (n9 : Nat), ∀ (y0 : Nat) (y1 : Int32) (tS : Nat → Nat) (nS : Nat → Nat) (rS : Nat → Nat → Nat) (wS : Dt) (bS : Nat) (sS : Nat) (H : Heap) (locs : List Loc) (ls : Array Slot) (AS : Nat → Prop) (cells slots : Nat), wp_X12_storms_124 post   n9 y0 y1 tS nS rS wS bS sS → SB D tc (sa 3) AS tS nS rS wS H → (tS y0 = 4) → (∀ x, AS x → Am x) → (∀ x, H.size ≤ x → AS x) → Ext t0 tS → cells + bS ≤ b0 → slots + sS ≤ s0 → va_S Am s.heap H locs → lv_has ls 5 [(0, .ref y0), (1, .int y1)] → W p l e (rm_X12_storms b0 s0) s m args below meth c H locs cells slots (MQ below (QB (fun u : (Nat → Nat) × (Nat → Nat) × (Nat → Nat → Nat) × Dt => post u.1 u.2.1 u.2.2.1 u.2.2.2) (fun (u : (Nat → Nat) × (Nat → Nat) × (Nat → Nat → Nat) × Dt) (H1 : Heap) => SB D tc (sa 3) Am u.1 u.2.1 u.2.2.1 u.2.2.2 H1 ∧ Ext t0 u.1) (fun _ : (Nat → Nat) × (Nat → Nat) × (Nat → Nat → Nat) × Dt => none) Am) args s (rm_X12_storms b0 s0).cells (rm_X12_storms b0 s0).slots Am) (F0 m 124 ls []) := by
  intro p l e s m args below meth c D tc h0 sa Am b0 s0 t0 post   X hr hT hA0 hAm9  n9
  have hx := X.1
  have hb := X.2.1
  have hown := X.2.2.2.1
  have hU := X.2.2.2.2.1.1
  induction n9 with
  | zero =>
    intro  y0 y1 tS nS rS wS bS sS H locs ls AS cells slots hw
    exact hw.elim
  | succ n9 ih =>
    intro  y0 y1 tS nS rS wS bS sS H locs ls AS cells slots hw hB hky0 hAS hAF hX hc hs hS hl
    unfold wp_X12_storms_124 at hw
    refine lv_iload_n hx hb dX12_storms_124 rfl (lv_at hl 1 rfl) ?_
    refine lv_aload_n hx hb dX12_storms_125 rfl (lv_at hl 0 rfl) ?_
    refine g_get X dX12_storms_126 f_X12_33 (hB.one (k := 4) hky0 rfl) 0 (v := .ref (rS y0 8)) rfl rfl ?_
    have k9 : tS (rS y0 8) = 8 := (hB.wtk hky0).2.2.2.2.1
    obtain ⟨fs9, hat9⟩ := hB.lat (isL_of k9)
    refine g_after5 (st0 := [.ref (rS y0 8), .int y1]) (rest := [.int y1]) (g_F X mf_X12_115 (c_size l D tc h0 sa _ (rS y0 8) hB (isL_of k9)) rfl hat9 hT hS hA0 dX12_storms_129 hl.1 rfl rfl ⟨Nat.le_of_ble_eq_true rfl, Nat.le_of_ble_eq_true rfl⟩ (Nat.le_of_ble_eq_true rfl) ⟨show cells + 0 ≤ b0 by omega, show slots + 0 ≤ s0 by omega⟩) hS (fun _ h => h.elim) (fun u => .int (nI (nS (rS y0 8))) :: [.int y1]) (fun _ => rfl) (fun u H9 locs hu hP9 hz9 hk9 hS => ?_)
    have e9 : H9 = _ := hP9
    rw [e9] at hS ⊢
    refine W.widen (k := cells) (n := slots) (Nat.le_refl _) (Nat.le_refl _) ?_
    refine lv_icmp_ge (tgt := 224) hx hb dX12_storms_134 (by decide) (fun c10 => ?_) (fun c10 => ?_)
    · have hw := hw.1 c10
      refine lv_aload_n hx hb dX12_storms_224 rfl (lv_at hl 0 rfl) ?_
      refine g_get X dX12_storms_225 f_X12_33 (hB.one (k := 4) hky0 rfl) 0 (v := .ref (rS y0 8)) rfl rfl ?_
      have k11 : tS (rS y0 8) = 8 := (hB.wtk hky0).2.2.2.2.1
      obtain ⟨fs9, hat9⟩ := hB.lat (isL_of k11)
      refine g_after5 (st0 := [.ref (rS y0 8)]) (rest := []) (g_F X mf_X12_115 (c_size l D tc h0 sa _ (rS y0 8) hB (isL_of k11)) rfl hat9 hT hS hA0 dX12_storms_228 hl.1 rfl rfl ⟨Nat.le_of_ble_eq_true rfl, Nat.le_of_ble_eq_true rfl⟩ (Nat.le_of_ble_eq_true rfl) ⟨show cells + 0 ≤ b0 by omega, show slots + 0 ≤ s0 by omega⟩) hS (fun _ h => h.elim) (fun u => .int (nI (nS (rS y0 8))) :: []) (fun _ => rfl) (fun u H9 locs hu hP9 hz9 hk9 hS => ?_)
      have e9 : H9 = _ := hP9
      rw [e9] at hS ⊢
      refine W.widen (k := cells) (n := slots) (Nat.le_refl _) (Nat.le_refl _) ?_
      refine lv_istore_n (lv' := [(1, .int (nI (nS (rS y0 8)))), (0, .ref y0)]) hx hb dX12_storms_233 rfl hl (by decide) rfl (fun ls hl => ?_)
      refine lv_iconst (v := 0) hx hb dX12_storms_234 (by decide) ?_
      refine lv_istore_n (lv' := [(2, .int 0), (1, .int (nI (nS (rS y0 8)))), (0, .ref y0)]) hx hb dX12_storms_235 rfl hl (by decide) rfl (fun ls hl => ?_)
      obtain ⟨k9, hw⟩ := hw
      exact t_X12_storms_236 X hr hT hA0 hAm9  k9 y0 (nI (nS (rS y0 8))) 0 tS nS rS wS bS sS _ _ _ _ _ _ hw hB hky0 hAS hAF hX hc hs hS (lv_sub hl [2, 1, 0] rfl)
    · have hw := hw.2 c10
      refine lv_aload_n hx hb dX12_storms_137 rfl (lv_at hl 0 rfl) ?_
      refine g_get X dX12_storms_138 f_X12_33 (hB.one (k := 4) hky0 rfl) 0 (v := .ref (rS y0 8)) rfl rfl ?_
      have k53 : tS (rS y0 8) = 8 := (hB.wtk hky0).2.2.2.2.1
      refine lv_iload_n hx hb dX12_storms_141 rfl (lv_at hl 1 rfl) ?_
      obtain ⟨fs9, hat9⟩ := hB.lat (isL_of k53)
      obtain ⟨o54, hw⟩ := hw
      refine g_after5 (st0 := [.int y1, .ref (rS y0 8)]) (rest := []) (g_F X mf_X12_130 (c_get l D tc h0 sa _ (rS y0 8) hB (isL_of k53) o54) rfl hat9 hT hS hA0 dX12_storms_142 hl.1 rfl rfl ⟨Nat.le_of_ble_eq_true rfl, Nat.le_of_ble_eq_true rfl⟩ (Nat.le_of_ble_eq_true rfl) ⟨show cells + 0 ≤ b0 by omega, show slots + 0 ≤ s0 by omega⟩) hS (fun _ h => h.elim) (fun u => .ref (rS (rS y0 8) y1.toNatClampNeg) :: []) (fun _ => rfl) (fun u H9 locs hu hP9 hz9 hk9 hS => ?_)
      have e9 : H9 = _ := hP9
      rw [e9] at hS ⊢
      refine W.widen (k := cells) (n := slots) (Nat.le_refl _) (Nat.le_refl _) ?_
      have k55 : tS (rS (rS y0 8) y1.toNatClampNeg) = 3 := hB.elt k53 (lt10 o54)
      refine x_cast X w_1731 rfl (hB.at (k := 3) k55 rfl) dX12_storms_147 ?_
      refine lv_astore_n (lv' := [(2, .ref (rS (rS y0 8) y1.toNatClampNeg)), (0, .ref y0), (1, .int y1)]) hx hb dX12_storms_150 rfl hl (by decide) rfl (fun ls hl => ?_)
      refine lv_aload_n hx hb dX12_storms_151 rfl (lv_at hl 0 rfl) ?_
      refine g_getN X dX12_storms_152 f_X12_140 (hB.one (k := 3) k55 rfl) 0 (v := .int (wS (rS (rS y0 8) y1.toNatClampNeg) 5)) rfl rfl ?_
      refine lv_if_ne (tgt := 218) hx hb dX12_storms_155 (by decide) (fun c56 => ?_) (fun c56 => ?_)
      · have hw := hw.1 c56
        exact t_X12_storms_218 X hr hT hA0 hAm9 ih y0 y1 tS nS rS wS bS sS _ _ _ _ _ _ hw hB hky0 hAS hAF hX hc hs hS (lv_sub hl [1, 2] rfl)
      · have hw := hw.2 c56
        refine lv_aload_n hx hb dX12_storms_158 rfl (lv_at hl 1 rfl) ?_
        refine lv_aload_n hx hb dX12_storms_159 rfl (lv_at hl 0 rfl) ?_
        refine g_getN X dX12_storms_160 f_X12_144 (hB.one (k := 3) k55 rfl) 0 (v := .int (wS (rS (rS y0 8) y1.toNatClampNeg) 0)) rfl rfl ?_
        refine g_after (st0 := [.int (wS (rS (rS y0 8) y1.toNatClampNeg) 0), .ref y0]) (rest := []) (g_V X m_X12_165 (c_X12_shear l D tc h0 sa y0 (wS (rS (rS y0 8) y1.toNatClampNeg) 0) _ hB hky0 hw) (recv1 X.2.2.2.2.1 rfl (hB.at (k := 4) hky0 rfl)) hT hS hA0 dX12_storms_163 hl.1 rfl rfl ⟨Nat.le_of_ble_eq_true rfl, Nat.le_of_ble_eq_true rfl⟩ (Nat.le_of_ble_eq_true rfl) ⟨show cells + 0 ≤ b0 by omega, show slots + 0 ≤ s0 by omega⟩) hS (fun _ h => h.elim) (fun u => .int u :: []) (fun _ => rfl) (fun u H9 locs hw hP9 hz9 hk9 hS => ?_)
        obtain ⟨r57, rfl⟩ : ∃ z, z = u := ⟨_, rfl⟩
        try dsimp only at hw hP9
        have e9 : H9 = _ := hP9
        rw [e9] at hS ⊢
        refine W.widen (k := cells) (n := slots) (Nat.le_refl _) (Nat.le_refl _) ?_
        refine lv_bipush (v := 100) hx hb dX12_storms_166 (by decide) ?_
        refine lv_icmp_le (tgt := 218) hx hb dX12_storms_168 (by decide) (fun c58 => ?_) (fun c58 => ?_)
        · have hw := hw.1 c58
          exact t_X12_storms_218 X hr hT hA0 hAm9 ih y0 y1 tS nS rS wS bS sS _ _ _ _ _ _ hw hB hky0 hAS hAF hX hc hs hS (lv_sub hl [1, 2] rfl)
        · have hw := hw.2 c58
          refine lv_aload_n hx hb dX12_storms_171 rfl (lv_at hl 0 rfl) ?_
          refine lv_dup hx hb dX12_storms_172 rfl ?_
          refine g_getN X dX12_storms_173 f_X12_125 (hB.one (k := 3) k55 rfl) 0 (v := .int (wS (rS (rS y0 8) y1.toNatClampNeg) 2)) rfl rfl ?_
          refine lv_iconst (v := 1) hx hb dX12_storms_176 (by decide) ?_
          refine lv_aload_n hx hb dX12_storms_177 rfl (lv_at hl 0 rfl) ?_
          refine g_getN X dX12_storms_178 f_X12_125 (hB.one (k := 3) k55 rfl) 0 (v := .int (wS (rS (rS y0 8) y1.toNatClampNeg) 2)) rfl rfl ?_
          refine lv_bipush (v := 10) hx hb dX12_storms_181 (by decide) ?_
          refine lv_idiv hx hb dX12_storms_183 (by decide) ?_
          refine g_max X hl.1 dX12_storms_184 w_1394 w_604 w_21 w_605 ⟨Nat.le_of_ble_eq_true rfl, Nat.le_of_ble_eq_true rfl, show cells ≤ b0 by omega, show slots ≤ s0 by omega⟩ ?_
          refine lv_isub hx hb dX12_storms_187 ?_
          refine g_putiN X dX12_storms_188 f_X12_125 (hB.oneB (k := 3) hAS k55 rfl) hS (x := ((wS (rS (rS y0 8) y1.toNatClampNeg) 2) - (if 1 < ((wS (rS (rS y0 8) y1.toNatClampNeg) 2) / 10) then ((wS (rS (rS y0 8) y1.toNatClampNeg) 2) / 10) else 1))) rfl rfl rfl (fun H locs hb9 oq hS => ?_)
          have hB := hB.putB k55 rfl hb9 oq
          have hAF : ∀ x, H.size ≤ x → AS x := fun x h => hAF x (Nat.le_trans (sz_of oq (hB.lt (by rw [k55]; decide)).1) h)
          obtain ⟨wS59, ewS59⟩ : ∃ z : Dt, z = up2 wS (rS (rS y0 8) y1.toNatClampNeg) 2 ((wS (rS (rS y0 8) y1.toNatClampNeg) 2) - (if 1 < ((wS (rS (rS y0 8) y1.toNatClampNeg) 2) / 10) then ((wS (rS (rS y0 8) y1.toNatClampNeg) 2) / 10) else 1)) := ⟨_, rfl⟩
          rw [← ewS59] at hB
          have hw := hw wS59 ewS59
          refine lv_aload_n hx hb dX12_storms_191 rfl (lv_at hl 0 rfl) ?_
          refine g_getN X dX12_storms_192 f_X12_125 (hB.one (k := 3) k55 rfl) 0 (v := .int (wS59 (rS (rS y0 8) y1.toNatClampNeg) 2)) rfl rfl ?_
          refine lv_bipush (v := 10) hx hb dX12_storms_195 (by decide) ?_
          refine lv_icmp_ge (tgt := 218) hx hb dX12_storms_197 (by decide) (fun c60 => ?_) (fun c60 => ?_)
          · have hw := hw.1 c60
            exact t_X12_storms_218 X hr hT hA0 hAm9 ih y0 y1 tS nS rS wS59 bS sS _ _ _ _ _ _ hw hB hky0 hAS hAF hX hc hs hS (lv_sub hl [1, 2] rfl)
          · have hw := hw.2 c60
            refine lv_aload_n hx hb dX12_storms_200 rfl (lv_at hl 0 rfl) ?_
            refine lv_iconst (v := 1) hx hb dX12_storms_201 (by decide) ?_
            refine g_putiN X dX12_storms_202 f_X12_140 (hB.oneB (k := 3) hAS k55 rfl) hS (x := 1) rfl rfl rfl (fun H locs hb9 oq hS => ?_)
            have hB := hB.putB k55 rfl hb9 oq
            have hAF : ∀ x, H.size ≤ x → AS x := fun x h => hAF x (Nat.le_trans (sz_of oq (hB.lt (by rw [k55]; decide)).1) h)
            obtain ⟨wS61, ewS61⟩ : ∃ z : Dt, z = up2 wS59 (rS (rS y0 8) y1.toNatClampNeg) 5 1 := ⟨_, rfl⟩
            rw [← ewS61] at hB
            have hw := hw wS61 ewS61
            refine lv_aload_n hx hb dX12_storms_205 rfl (lv_at hl 0 rfl) ?_
            refine lv_bipush (v := 45) hx hb dX12_storms_206 (by decide) ?_
            refine g_putiN X dX12_storms_208 f_X12_151 (hB.oneB (k := 3) hAS k55 rfl) hS (x := 45) rfl rfl rfl (fun H locs hb9 oq hS => ?_)
            have hB := hB.putB k55 rfl hb9 oq
            have hAF : ∀ x, H.size ≤ x → AS x := fun x h => hAF x (Nat.le_trans (sz_of oq (hB.lt (by rw [k55]; decide)).1) h)
            obtain ⟨wS62, ewS62⟩ : ∃ z : Dt, z = up2 wS61 (rS (rS y0 8) y1.toNatClampNeg) 4 45 := ⟨_, rfl⟩
            rw [← ewS62] at hB
            have hw := hw wS62 ewS62
            refine lv_aload_n hx hb dX12_storms_211 rfl (lv_at hl 1 rfl) ?_
            refine lv_bipush (v := 100) hx hb dX12_storms_212 (by decide) ?_
            refine lv_iload_n hx hb dX12_storms_214 rfl (lv_at hl 2 rfl) ?_
            obtain ⟨b63, s64, o65, o66, hw⟩ := hw
            refine g_after (st0 := [.int y1, .int 100, .ref y0]) (rest := []) (g_V X m_X12_158 (c_X12_notes l D tc h0 sa y0 100 y1 b63 s64 _ hB hky0 (fun x h => hA0 x (hAS x h)) hAF hw) (recv1 X.2.2.2.2.1 rfl (hB.at (k := 4) hky0 rfl)) hT hS hA0 dX12_storms_215 hl.1 rfl rfl ⟨Nat.le_of_ble_eq_true rfl, Nat.le_of_ble_eq_true rfl⟩ (Nat.le_of_ble_eq_true rfl) ⟨show cells + b63 ≤ b0 by omega, show slots + s64 ≤ s0 by omega⟩) hS hAS (fun u => []) (fun _ => rfl) (fun u H locs hw hP9 hz9 hk9 hS => ?_)
            obtain ⟨tS67, nS68, rS69, wS70⟩ := u
            try dsimp only at hw hP9
            obtain ⟨hB, hX9⟩ := hP9
            have hAF : ∀ x, H.size ≤ x → AS x := fun x h => hAF x (by omega)
            have hX := hX.trans hX9
            refine W_bud (b := (bS - b63)) (s1 := (sS - s64)) (B := b0) (S := s0) (show (cells + b63) + (bS - b63) ≤ b0 by omega) (show (slots + s64) + (sS - s64) ≤ s0 by omega) (fun cells slots hc hs => ?_)
            have k71 : tS67 (rS (rS y0 8) y1.toNatClampNeg) = 3 := hX9.to k55
            have k72 : tS67 y0 = 4 := hX9.to hky0
            exact t_X12_storms_218 X hr hT hA0 hAm9 ih y0 y1 tS67 nS68 rS69 wS70 (bS - b63) (sS - s64) _ _ _ _ _ _ hw hB k72 hAS hAF hX hc hs hS (lv_sub hl [1, 2] rfl)
def wp_X12_storms_91 (post : (Nat → Nat) → (Nat → Nat) → (Nat → Nat → Nat) → Dt → Prop)  (K74 : Nat → Int32 → (Nat → Nat) → (Nat → Nat) → (Nat → Nat → Nat) → (Dt) → (Nat) → (Nat) → Prop) : Nat → (Nat) → (Int32) → (Int32) → (Nat → Nat) → (Nat → Nat) → (Nat → Nat → Nat) → (Dt) → (Nat) → (Nat) → Prop
  | 0, _, _, _, _, _, _, _, _, _ => False
  | n9 + 1, y0, y1, y2, tS, nS, rS, wS, bS, sS => ((nI (nS (rS y0 8))) ≤ y2 → K74 y0 (y1 + 1) tS nS rS wS bS sS) ∧ (¬ (nI (nS (rS y0 8))) ≤ y2 → ∃ b75 s76 : Nat, b75 ≤ bS ∧ s76 ≤ sS ∧ (wp_X12_meet (fun tS79 nS80 rS81 wS82 => wp_X12_storms_91 post  K74 n9 y0 y1 (y2 + 1) tS79 nS80 rS81 wS82 (bS - b75) (sS - s76)) tS nS rS wS b75 s76 y0 y1 y2))
set_option maxHeartbeats 4000000 in
set_option maxRecDepth 100000 in
theorem t_X12_storms_91 : ∀ {p : Program} {l : Launch} {e : Env} {s : State} {m : MethodId} {args : Array Value} {below : List Frame} {meth : Method} {c : Code} {D : va_G} {tc : Nat → ClassId} {h0 : Nat} {sa : Nat → Nat} {Am : Nat → Prop} {b0 s0 : Nat} {t0 : Nat → Nat} {post : (Nat → Nat) → (Nat → Nat) → (Nat → Nat → Nat) → Dt → Prop}  {K74 : Nat → Int32 → (Nat → Nat) → (Nat → Nat) → (Nat → Nat → Nat) → (Dt) → (Nat) → (Nat) → Prop} (X : Cx p c s m meth cX12_storms 5 RX12 D tc) (hr : meth.sig.returnType = (Option.none : Option FieldType)) (hT : ST h0 sa s s.heap) (hA0 : ∀ q, Am q → h0 ≤ q) (hAm9 : ∀ x, s.heap.size ≤ x → Am x) (hK74 : ∀ (y0 : Nat) (y1 : Int32) (tS : Nat → Nat) (nS : Nat → Nat) (rS : Nat → Nat → Nat) (wS : Dt) (bS : Nat) (sS : Nat) (H : Heap) (locs : List Loc) (ls : Array Slot) (AS : Nat → Prop) (cells slots : Nat), K74 y0 y1 tS nS rS wS bS sS → SB D tc (sa 3) AS tS nS rS wS H → (tS y0 = 4) → (∀ x, AS x → Am x) → (∀ x, H.size ≤ x → AS x) → Ext t0 tS → cells + bS ≤ b0 → slots + sS ≤ s0 → va_S Am s.heap H locs → lv_has ls 5 [(0, .ref y0), (1, .int y1)] → W p l e (rm_X12_storms b0 s0) s m args below meth c H locs cells slots (MQ below (QB (fun u : (Nat → Nat) × (Nat → Nat) × (Nat → Nat → Nat) × Dt => post u.1 u.2.1 u.2.2.1 u.2.2.2) (fun (u : (Nat → Nat) × (Nat → Nat) × (Nat → Nat → Nat) × Dt) (H1 : Heap) => SB D tc (sa 3) Am u.1 u.2.1 u.2.2.1 u.2.2.2 H1 ∧ Ext t0 u.1) (fun _ : (Nat → Nat) × (Nat → Nat) × (Nat → Nat → Nat) × Dt => none) Am) args s (rm_X12_storms b0 s0).cells (rm_X12_storms b0 s0).slots Am) (F0 m 74 ls [])) (n9 : Nat), ∀ (y0 : Nat) (y1 : Int32) (y2 : Int32) (tS : Nat → Nat) (nS : Nat → Nat) (rS : Nat → Nat → Nat) (wS : Dt) (bS : Nat) (sS : Nat) (H : Heap) (locs : List Loc) (ls : Array Slot) (AS : Nat → Prop) (cells slots : Nat), wp_X12_storms_91 post  K74 n9 y0 y1 y2 tS nS rS wS bS sS → SB D tc (sa 3) AS tS nS rS wS H → (tS y0 = 4) → (∀ x, AS x → Am x) → (∀ x, H.size ≤ x → AS x) → Ext t0 tS → cells + bS ≤ b0 → slots + sS ≤ s0 → va_S Am s.heap H locs → lv_has ls 5 [(0, .ref y0), (1, .int y1), (2, .int y2)] → W p l e (rm_X12_storms b0 s0) s m args below meth c H locs cells slots (MQ below (QB (fun u : (Nat → Nat) × (Nat → Nat) × (Nat → Nat → Nat) × Dt => post u.1 u.2.1 u.2.2.1 u.2.2.2) (fun (u : (Nat → Nat) × (Nat → Nat) × (Nat → Nat → Nat) × Dt) (H1 : Heap) => SB D tc (sa 3) Am u.1 u.2.1 u.2.2.1 u.2.2.2 H1 ∧ Ext t0 u.1) (fun _ : (Nat → Nat) × (Nat → Nat) × (Nat → Nat → Nat) × Dt => none) Am) args s (rm_X12_storms b0 s0).cells (rm_X12_storms b0 s0).slots Am) (F0 m 91 ls []) := by
  intro p l e s m args below meth c D tc h0 sa Am b0 s0 t0 post  K74 X hr hT hA0 hAm9 hK74 n9
  have hx := X.1
  have hb := X.2.1
  have hown := X.2.2.2.1
  have hU := X.2.2.2.2.1.1
  induction n9 with
  | zero =>
    intro  y0 y1 y2 tS nS rS wS bS sS H locs ls AS cells slots hw
    exact hw.elim
  | succ n9 ih =>
    intro  y0 y1 y2 tS nS rS wS bS sS H locs ls AS cells slots hw hB hky0 hAS hAF hX hc hs hS hl
    unfold wp_X12_storms_91 at hw
    refine lv_iload_n hx hb dX12_storms_91 rfl (lv_at hl 2 rfl) ?_
    refine lv_aload_n hx hb dX12_storms_92 rfl (lv_at hl 0 rfl) ?_
    refine g_get X dX12_storms_93 f_X12_33 (hB.one (k := 4) hky0 rfl) 0 (v := .ref (rS y0 8)) rfl rfl ?_
    have k73 : tS (rS y0 8) = 8 := (hB.wtk hky0).2.2.2.2.1
    obtain ⟨fs9, hat9⟩ := hB.lat (isL_of k73)
    refine g_after5 (st0 := [.ref (rS y0 8), .int y2]) (rest := [.int y2]) (g_F X mf_X12_115 (c_size l D tc h0 sa _ (rS y0 8) hB (isL_of k73)) rfl hat9 hT hS hA0 dX12_storms_96 hl.1 rfl rfl ⟨Nat.le_of_ble_eq_true rfl, Nat.le_of_ble_eq_true rfl⟩ (Nat.le_of_ble_eq_true rfl) ⟨show cells + 0 ≤ b0 by omega, show slots + 0 ≤ s0 by omega⟩) hS (fun _ h => h.elim) (fun u => .int (nI (nS (rS y0 8))) :: [.int y2]) (fun _ => rfl) (fun u H9 locs hu hP9 hz9 hk9 hS => ?_)
    have e9 : H9 = _ := hP9
    rw [e9] at hS ⊢
    refine W.widen (k := cells) (n := slots) (Nat.le_refl _) (Nat.le_refl _) ?_
    refine lv_icmp_ge (tgt := 116) hx hb dX12_storms_101 (by decide) (fun c74 => ?_) (fun c74 => ?_)
    · have hw := hw.1 c74
      refine lv_iinc (lv' := [(1, .int (y1 + 1)), (0, .ref y0), (2, .int y2)]) hx hb dX12_storms_116 hl (k := 1) rfl (by rfl) (by decide) rfl (fun ls hl => ?_)
      refine lv_goto (tgt := 74) hx hb dX12_storms_119 (by decide) ?_
      exact hK74 y0 (y1 + 1) tS nS rS wS bS sS _ _ _ _ _ _ hw hB hky0 hAS hAF hX hc hs hS (lv_sub hl [1, 0] rfl)
    · have hw := hw.2 c74
      refine lv_aload_n hx hb dX12_storms_104 rfl (lv_at hl 0 rfl) ?_
      refine lv_iload_n hx hb dX12_storms_105 rfl (lv_at hl 1 rfl) ?_
      refine lv_iload_n hx hb dX12_storms_106 rfl (lv_at hl 2 rfl) ?_
      obtain ⟨b75, s76, o77, o78, hw⟩ := hw
      refine g_after (st0 := [.int y2, .int y1, .ref y0]) (rest := []) (g_V X m_X12_161 (c_X12_meet l D tc h0 sa y0 y1 y2 b75 s76 _ hB hky0 (fun x h => hA0 x (hAS x h)) hAF hw) (recv1 X.2.2.2.2.1 rfl (hB.at (k := 4) hky0 rfl)) hT hS hA0 dX12_storms_107 hl.1 rfl rfl ⟨Nat.le_of_ble_eq_true rfl, Nat.le_of_ble_eq_true rfl⟩ (Nat.le_of_ble_eq_true rfl) ⟨show cells + b75 ≤ b0 by omega, show slots + s76 ≤ s0 by omega⟩) hS hAS (fun u => []) (fun _ => rfl) (fun u H locs hw hP9 hz9 hk9 hS => ?_)
      obtain ⟨tS79, nS80, rS81, wS82⟩ := u
      try dsimp only at hw hP9
      obtain ⟨hB, hX9⟩ := hP9
      have hAF : ∀ x, H.size ≤ x → AS x := fun x h => hAF x (by omega)
      have hX := hX.trans hX9
      refine W_bud (b := (bS - b75)) (s1 := (sS - s76)) (B := b0) (S := s0) (show (cells + b75) + (bS - b75) ≤ b0 by omega) (show (slots + s76) + (sS - s76) ≤ s0 by omega) (fun cells slots hc hs => ?_)
      have k83 : tS79 y0 = 4 := hX9.to hky0
      refine lv_iinc (lv' := [(2, .int (y2 + 1)), (0, .ref y0), (1, .int y1)]) hx hb dX12_storms_110 hl (k := 2) rfl (by rfl) (by decide) rfl (fun ls hl => ?_)
      refine lv_goto (tgt := 91) hx hb dX12_storms_113 (by decide) ?_
      exact ih y0 y1 (y2 + 1) tS79 nS80 rS81 wS82 (bS - b75) (sS - s76) _ _ _ _ _ _ hw hB k83 hAS hAF hX hc hs hS (lv_sub hl [1, 2, 0] rfl)
def wp_X12_storms_74 (post : (Nat → Nat) → (Nat → Nat) → (Nat → Nat → Nat) → Dt → Prop)   : Nat → (Nat) → (Int32) → (Nat → Nat) → (Nat → Nat) → (Nat → Nat → Nat) → (Dt) → (Nat) → (Nat) → Prop
  | 0, _, _, _, _, _, _, _, _ => False
  | n9 + 1, y0, y1, tS, nS, rS, wS, bS, sS => ((nI (nS (rS y0 8))) ≤ y1 → ∃ k9 : Nat, wp_X12_storms_124 post   k9 y0 0 tS nS rS wS bS sS) ∧ (¬ (nI (nS (rS y0 8))) ≤ y1 → ∃ k9 : Nat, wp_X12_storms_91 post  (fun a0 a1 a2 a3 a4 a5 a6 a7 => wp_X12_storms_74 post   n9 a0 a1 a2 a3 a4 a5 a6 a7) k9 y0 y1 (y1 + 1) tS nS rS wS bS sS)
set_option maxHeartbeats 4000000 in
set_option maxRecDepth 100000 in
theorem t_X12_storms_74 : ∀ {p : Program} {l : Launch} {e : Env} {s : State} {m : MethodId} {args : Array Value} {below : List Frame} {meth : Method} {c : Code} {D : va_G} {tc : Nat → ClassId} {h0 : Nat} {sa : Nat → Nat} {Am : Nat → Prop} {b0 s0 : Nat} {t0 : Nat → Nat} {post : (Nat → Nat) → (Nat → Nat) → (Nat → Nat → Nat) → Dt → Prop}   (X : Cx p c s m meth cX12_storms 5 RX12 D tc) (hr : meth.sig.returnType = (Option.none : Option FieldType)) (hT : ST h0 sa s s.heap) (hA0 : ∀ q, Am q → h0 ≤ q) (hAm9 : ∀ x, s.heap.size ≤ x → Am x)  (n9 : Nat), ∀ (y0 : Nat) (y1 : Int32) (tS : Nat → Nat) (nS : Nat → Nat) (rS : Nat → Nat → Nat) (wS : Dt) (bS : Nat) (sS : Nat) (H : Heap) (locs : List Loc) (ls : Array Slot) (AS : Nat → Prop) (cells slots : Nat), wp_X12_storms_74 post   n9 y0 y1 tS nS rS wS bS sS → SB D tc (sa 3) AS tS nS rS wS H → (tS y0 = 4) → (∀ x, AS x → Am x) → (∀ x, H.size ≤ x → AS x) → Ext t0 tS → cells + bS ≤ b0 → slots + sS ≤ s0 → va_S Am s.heap H locs → lv_has ls 5 [(0, .ref y0), (1, .int y1)] → W p l e (rm_X12_storms b0 s0) s m args below meth c H locs cells slots (MQ below (QB (fun u : (Nat → Nat) × (Nat → Nat) × (Nat → Nat → Nat) × Dt => post u.1 u.2.1 u.2.2.1 u.2.2.2) (fun (u : (Nat → Nat) × (Nat → Nat) × (Nat → Nat → Nat) × Dt) (H1 : Heap) => SB D tc (sa 3) Am u.1 u.2.1 u.2.2.1 u.2.2.2 H1 ∧ Ext t0 u.1) (fun _ : (Nat → Nat) × (Nat → Nat) × (Nat → Nat → Nat) × Dt => none) Am) args s (rm_X12_storms b0 s0).cells (rm_X12_storms b0 s0).slots Am) (F0 m 74 ls []) := by
  intro p l e s m args below meth c D tc h0 sa Am b0 s0 t0 post   X hr hT hA0 hAm9  n9
  have hx := X.1
  have hb := X.2.1
  have hown := X.2.2.2.1
  have hU := X.2.2.2.2.1.1
  induction n9 with
  | zero =>
    intro  y0 y1 tS nS rS wS bS sS H locs ls AS cells slots hw
    exact hw.elim
  | succ n9 ih =>
    intro  y0 y1 tS nS rS wS bS sS H locs ls AS cells slots hw hB hky0 hAS hAF hX hc hs hS hl
    unfold wp_X12_storms_74 at hw
    refine lv_iload_n hx hb dX12_storms_74 rfl (lv_at hl 1 rfl) ?_
    refine lv_aload_n hx hb dX12_storms_75 rfl (lv_at hl 0 rfl) ?_
    refine g_get X dX12_storms_76 f_X12_33 (hB.one (k := 4) hky0 rfl) 0 (v := .ref (rS y0 8)) rfl rfl ?_
    have k7 : tS (rS y0 8) = 8 := (hB.wtk hky0).2.2.2.2.1
    obtain ⟨fs9, hat9⟩ := hB.lat (isL_of k7)
    refine g_after5 (st0 := [.ref (rS y0 8), .int y1]) (rest := [.int y1]) (g_F X mf_X12_115 (c_size l D tc h0 sa _ (rS y0 8) hB (isL_of k7)) rfl hat9 hT hS hA0 dX12_storms_79 hl.1 rfl rfl ⟨Nat.le_of_ble_eq_true rfl, Nat.le_of_ble_eq_true rfl⟩ (Nat.le_of_ble_eq_true rfl) ⟨show cells + 0 ≤ b0 by omega, show slots + 0 ≤ s0 by omega⟩) hS (fun _ h => h.elim) (fun u => .int (nI (nS (rS y0 8))) :: [.int y1]) (fun _ => rfl) (fun u H9 locs hu hP9 hz9 hk9 hS => ?_)
    have e9 : H9 = _ := hP9
    rw [e9] at hS ⊢
    refine W.widen (k := cells) (n := slots) (Nat.le_refl _) (Nat.le_refl _) ?_
    refine lv_icmp_ge (tgt := 122) hx hb dX12_storms_84 (by decide) (fun c8 => ?_) (fun c8 => ?_)
    · have hw := hw.1 c8
      refine lv_iconst (v := 0) hx hb dX12_storms_122 (by decide) ?_
      refine lv_istore_n (lv' := [(1, .int 0), (0, .ref y0)]) hx hb dX12_storms_123 rfl hl (by decide) rfl (fun ls hl => ?_)
      obtain ⟨k9, hw⟩ := hw
      exact t_X12_storms_124 X hr hT hA0 hAm9  k9 y0 0 tS nS rS wS bS sS _ _ _ _ _ _ hw hB hky0 hAS hAF hX hc hs hS (lv_sub hl [1, 0] rfl)
    · have hw := hw.2 c8
      refine lv_iload_n hx hb dX12_storms_87 rfl (lv_at hl 1 rfl) ?_
      refine lv_iconst (v := 1) hx hb dX12_storms_88 (by decide) ?_
      refine lv_iadd hx hb dX12_storms_89 ?_
      refine lv_istore_n (lv' := [(2, .int (y1 + 1)), (0, .ref y0), (1, .int y1)]) hx hb dX12_storms_90 rfl hl (by decide) rfl (fun ls hl => ?_)
      obtain ⟨k9, hw⟩ := hw
      exact t_X12_storms_91 X hr hT hA0 hAm9 ih k9 y0 y1 (y1 + 1) tS nS rS wS bS sS _ _ _ _ _ _ hw hB hky0 hAS hAF hX hc hs hS (lv_sub hl [1, 2, 0] rfl)
def wp_X12_storms_69 (post : (Nat → Nat) → (Nat → Nat) → (Nat → Nat → Nat) → Dt → Prop)  (K10 : Nat → Nat → Int32 → Int32 → (Nat → Nat) → (Nat → Nat) → (Nat → Nat → Nat) → (Dt) → (Nat) → (Nat) → Prop) (y0 : Nat) (ay1 : Nat) (cy1 : Int32) (my1 : Int32) (tS : Nat → Nat) (nS : Nat → Nat) (rS : Nat → Nat → Nat) (wS : Dt) (bS : Nat) (sS : Nat) : Prop := K10 y0 ay1 cy1 my1 tS nS rS wS bS sS
set_option maxHeartbeats 4000000 in
set_option maxRecDepth 100000 in
theorem t_X12_storms_69 : ∀ {p : Program} {l : Launch} {e : Env} {s : State} {m : MethodId} {args : Array Value} {below : List Frame} {meth : Method} {c : Code} {D : va_G} {tc : Nat → ClassId} {h0 : Nat} {sa : Nat → Nat} {Am : Nat → Prop} {b0 s0 : Nat} {t0 : Nat → Nat} {post : (Nat → Nat) → (Nat → Nat) → (Nat → Nat → Nat) → Dt → Prop}  {K10 : Nat → Nat → Int32 → Int32 → (Nat → Nat) → (Nat → Nat) → (Nat → Nat → Nat) → (Dt) → (Nat) → (Nat) → Prop} (X : Cx p c s m meth cX12_storms 5 RX12 D tc) (hr : meth.sig.returnType = (Option.none : Option FieldType)) (hT : ST h0 sa s s.heap) (hA0 : ∀ q, Am q → h0 ≤ q) (hAm9 : ∀ x, s.heap.size ≤ x → Am x) (hK10 : ∀ (qy1 : Nat) (y0 : Nat) (ay1 : Nat) (cy1 : Int32) (my1 : Int32) (tS : Nat → Nat) (nS : Nat → Nat) (rS : Nat → Nat → Nat) (wS : Dt) (bS : Nat) (sS : Nat) (H : Heap) (locs : List Loc) (ls : Array Slot) (AS : Nat → Prop) (cells slots : Nat), K10 y0 ay1 cy1 my1 tS nS rS wS bS sS → SB D tc (sa 3) AS tS nS rS wS H → (tS y0 = 4) → (tS ay1 = 8) → (IT D qy1 ay1 cy1 my1 H) → (¬ AS qy1) → (Am qy1) → (∀ x, AS x → Am x) → (∀ x, H.size ≤ x → AS x) → Ext t0 tS → cells + bS ≤ b0 → slots + sS ≤ s0 → va_S Am s.heap H locs → lv_has ls 5 [(0, .ref y0), (1, .ref qy1)] → W p l e (rm_X12_storms b0 s0) s m args below meth c H locs cells slots (MQ below (QB (fun u : (Nat → Nat) × (Nat → Nat) × (Nat → Nat → Nat) × Dt => post u.1 u.2.1 u.2.2.1 u.2.2.2) (fun (u : (Nat → Nat) × (Nat → Nat) × (Nat → Nat → Nat) × Dt) (H1 : Heap) => SB D tc (sa 3) Am u.1 u.2.1 u.2.2.1 u.2.2.2 H1 ∧ Ext t0 u.1) (fun _ : (Nat → Nat) × (Nat → Nat) × (Nat → Nat → Nat) × Dt => none) Am) args s (rm_X12_storms b0 s0).cells (rm_X12_storms b0 s0).slots Am) (F0 m 10 ls [])), ∀ (qy1 : Nat) (y0 : Nat) (ay1 : Nat) (cy1 : Int32) (my1 : Int32) (tS : Nat → Nat) (nS : Nat → Nat) (rS : Nat → Nat → Nat) (wS : Dt) (bS : Nat) (sS : Nat) (H : Heap) (locs : List Loc) (ls : Array Slot) (AS : Nat → Prop) (cells slots : Nat), wp_X12_storms_69 post  K10 y0 ay1 cy1 my1 tS nS rS wS bS sS → SB D tc (sa 3) AS tS nS rS wS H → (tS y0 = 4) → (tS ay1 = 8) → (IT D qy1 ay1 cy1 my1 H) → (¬ AS qy1) → (Am qy1) → (∀ x, AS x → Am x) → (∀ x, H.size ≤ x → AS x) → Ext t0 tS → cells + bS ≤ b0 → slots + sS ≤ s0 → va_S Am s.heap H locs → lv_has ls 5 [(0, .ref y0), (1, .ref qy1)] → W p l e (rm_X12_storms b0 s0) s m args below meth c H locs cells slots (MQ below (QB (fun u : (Nat → Nat) × (Nat → Nat) × (Nat → Nat → Nat) × Dt => post u.1 u.2.1 u.2.2.1 u.2.2.2) (fun (u : (Nat → Nat) × (Nat → Nat) × (Nat → Nat → Nat) × Dt) (H1 : Heap) => SB D tc (sa 3) Am u.1 u.2.1 u.2.2.1 u.2.2.2 H1 ∧ Ext t0 u.1) (fun _ : (Nat → Nat) × (Nat → Nat) × (Nat → Nat → Nat) × Dt => none) Am) args s (rm_X12_storms b0 s0).cells (rm_X12_storms b0 s0).slots Am) (F0 m 69 ls []) := by
  intro p l e s m args below meth c D tc h0 sa Am b0 s0 t0 post  K10 X hr hT hA0 hAm9 hK10 qy1 y0 ay1 cy1 my1 tS nS rS wS bS sS H locs ls AS cells slots hw hB hky0 hky1 hIy1 hny1 hmy1 hAS hAF hX hc hs hS hl
  have hx := X.1
  have hb := X.2.1
  have hown := X.2.2.2.1
  have hU := X.2.2.2.2.1.1
  unfold wp_X12_storms_69 at hw
  refine lv_goto (tgt := 10) hx hb dX12_storms_69 (by decide) ?_
  exact hK10 qy1 y0 ay1 cy1 my1 tS nS rS wS bS sS _ _ _ _ _ _ hw hB hky0 hky1 hIy1 hny1 hmy1 hAS hAF hX hc hs hS (lv_sub hl [0, 1] rfl)
def wp_X12_storms_10 (post : (Nat → Nat) → (Nat → Nat) → (Nat → Nat → Nat) → Dt → Prop)   : Nat → (Nat) → (Nat) → (Int32) → (Int32) → (Nat → Nat) → (Nat → Nat) → (Nat → Nat → Nat) → (Dt) → (Nat) → (Nat) → Prop
  | 0, _, _, _, _, _, _, _, _, _, _ => False
  | n9 + 1, y0, ay1, cy1, my1, tS, nS, rS, wS, bS, sS => (cy1 = nI (nS ay1) → ∃ k9 : Nat, wp_X12_storms_74 post   k9 y0 0 tS nS rS wS bS sS) ∧ (¬ cy1 = nI (nS ay1) → vp_in cy1 (nS ay1) ∧ (wS ay1 0 = my1 ∧ ((¬ (wS (rS ay1 cy1.toNatClampNeg) 5) = 0 → wp_X12_storms_69 post  (fun a0 a1 a2 a3 a4 a5 a6 a7 a8 a9 => wp_X12_storms_10 post   n9 a0 a1 a2 a3 a4 a5 a6 a7 a8 a9) y0 ay1 (cy1 + 1) my1 tS nS rS wS bS sS) ∧ ((wS (rS ay1 cy1.toNatClampNeg) 5) = 0 → wp_X12_wind (fun r88 => wp_J9_floorMod_7cf53 (fun r89 => ∀ wS91 : Dt, wS91 = up2 wS (rS ay1 cy1.toNatClampNeg) 1 r89 → (∀ wS93 : Dt, wS93 = up2 wS91 (rS ay1 cy1.toNatClampNeg) 3 ((wS91 (rS ay1 cy1.toNatClampNeg) 3) + 1) → (wp_X12_storms_69 post  (fun a0 a1 a2 a3 a4 a5 a6 a7 a8 a9 => wp_X12_storms_10 post   n9 a0 a1 a2 a3 a4 a5 a6 a7 a8 a9) y0 ay1 (cy1 + 1) my1 tS nS rS wS93 bS sS))) ((wS (rS ay1 cy1.toNatClampNeg) 1) + r88) 3600) tS nS rS wS y0 (wS (rS ay1 cy1.toNatClampNeg) 0)))))
set_option maxHeartbeats 4000000 in
set_option maxRecDepth 100000 in
theorem t_X12_storms_10 : ∀ {p : Program} {l : Launch} {e : Env} {s : State} {m : MethodId} {args : Array Value} {below : List Frame} {meth : Method} {c : Code} {D : va_G} {tc : Nat → ClassId} {h0 : Nat} {sa : Nat → Nat} {Am : Nat → Prop} {b0 s0 : Nat} {t0 : Nat → Nat} {post : (Nat → Nat) → (Nat → Nat) → (Nat → Nat → Nat) → Dt → Prop}   (X : Cx p c s m meth cX12_storms 5 RX12 D tc) (hr : meth.sig.returnType = (Option.none : Option FieldType)) (hT : ST h0 sa s s.heap) (hA0 : ∀ q, Am q → h0 ≤ q) (hAm9 : ∀ x, s.heap.size ≤ x → Am x)  (n9 : Nat), ∀ (qy1 : Nat) (y0 : Nat) (ay1 : Nat) (cy1 : Int32) (my1 : Int32) (tS : Nat → Nat) (nS : Nat → Nat) (rS : Nat → Nat → Nat) (wS : Dt) (bS : Nat) (sS : Nat) (H : Heap) (locs : List Loc) (ls : Array Slot) (AS : Nat → Prop) (cells slots : Nat), wp_X12_storms_10 post   n9 y0 ay1 cy1 my1 tS nS rS wS bS sS → SB D tc (sa 3) AS tS nS rS wS H → (tS y0 = 4) → (tS ay1 = 8) → (IT D qy1 ay1 cy1 my1 H) → (¬ AS qy1) → (Am qy1) → (∀ x, AS x → Am x) → (∀ x, H.size ≤ x → AS x) → Ext t0 tS → cells + bS ≤ b0 → slots + sS ≤ s0 → va_S Am s.heap H locs → lv_has ls 5 [(0, .ref y0), (1, .ref qy1)] → W p l e (rm_X12_storms b0 s0) s m args below meth c H locs cells slots (MQ below (QB (fun u : (Nat → Nat) × (Nat → Nat) × (Nat → Nat → Nat) × Dt => post u.1 u.2.1 u.2.2.1 u.2.2.2) (fun (u : (Nat → Nat) × (Nat → Nat) × (Nat → Nat → Nat) × Dt) (H1 : Heap) => SB D tc (sa 3) Am u.1 u.2.1 u.2.2.1 u.2.2.2 H1 ∧ Ext t0 u.1) (fun _ : (Nat → Nat) × (Nat → Nat) × (Nat → Nat → Nat) × Dt => none) Am) args s (rm_X12_storms b0 s0).cells (rm_X12_storms b0 s0).slots Am) (F0 m 10 ls []) := by
  intro p l e s m args below meth c D tc h0 sa Am b0 s0 t0 post   X hr hT hA0 hAm9  n9
  have hx := X.1
  have hb := X.2.1
  have hown := X.2.2.2.1
  have hU := X.2.2.2.2.1.1
  induction n9 with
  | zero =>
    intro qy1 y0 ay1 cy1 my1 tS nS rS wS bS sS H locs ls AS cells slots hw
    exact hw.elim
  | succ n9 ih =>
    intro qy1 y0 ay1 cy1 my1 tS nS rS wS bS sS H locs ls AS cells slots hw hB hky0 hky1 hIy1 hny1 hmy1 hAS hAF hX hc hs hS hl
    unfold wp_X12_storms_10 at hw
    refine lv_aload_n hx hb dX12_storms_10 rfl (lv_at hl 1 rfl) ?_
    have hI9 := hIy1
    obtain ⟨lr9, hat9⟩ := hI9
    refine g_after5 (st0 := [.ref qy1]) (rest := []) (g_F X mf_X12_65 (c_hn l D tc h0 sa _ qy1 ay1 hB (isL_of hky1) hIy1) rfl hat9 hT hS hA0 dX12_storms_11 hl.1 rfl rfl ⟨Nat.le_of_ble_eq_true rfl, Nat.le_of_ble_eq_true rfl⟩ (Nat.le_of_ble_eq_true rfl) ⟨show cells + 0 ≤ b0 by omega, show slots + 0 ≤ s0 by omega⟩) hS (fun _ h => h.elim) (fun u => .int (if cy1 = nI (nS ay1) then 0 else 1) :: []) (fun _ => rfl) (fun u H9 locs hu hP9 hz9 hk9 hS => ?_)
    have e9 : H9 = _ := hP9
    rw [e9] at hS ⊢
    refine W.widen (k := cells) (n := slots) (Nat.le_refl _) (Nat.le_refl _) ?_
    refine lv_if_eq (tgt := 72) hx hb dX12_storms_16 (by decide) (fun c6 => ?_) (fun c6 => ?_)
    · have hw := hw.1 (hn_eq c6)
      refine lv_iconst (v := 0) hx hb dX12_storms_72 (by decide) ?_
      refine lv_istore_n (lv' := [(1, .int 0), (0, .ref y0)]) hx hb dX12_storms_73 rfl hl (by decide) rfl (fun ls hl => ?_)
      obtain ⟨k9, hw⟩ := hw
      exact t_X12_storms_74 X hr hT hA0 hAm9  k9 y0 0 tS nS rS wS bS sS _ _ _ _ _ _ hw hB hky0 hAS hAF hX hc hs hS (lv_sub hl [1, 0] rfl)
    · have hw := hw.2 (hn_ne c6)
      refine lv_aload_n hx hb dX12_storms_19 rfl (lv_at hl 1 rfl) ?_
      have hI9 := hIy1
      obtain ⟨lr9, hat9⟩ := hI9
      obtain ⟨o84, hw⟩ := hw
      obtain ⟨o85, hw⟩ := hw
      refine g_after5 (st0 := [.ref qy1]) (rest := []) (g_F X mf_X12_71 (c_nx l D tc h0 sa _ qy1 ay1 hB (isL_of hky1) hIy1 o85 o84 hny1 (hA0 _ hmy1)) rfl hat9 hT hS hA0 dX12_storms_20 hl.1 rfl rfl ⟨Nat.le_of_ble_eq_true rfl, Nat.le_of_ble_eq_true rfl⟩ (Nat.le_of_ble_eq_true rfl) ⟨show cells + 0 ≤ b0 by omega, show slots + 0 ≤ s0 by omega⟩) hS (fun x h => h ▸ hmy1) (fun u => .ref (rS ay1 cy1.toNatClampNeg) :: []) (fun _ => rfl) (fun u H locs hu hP9 hz9 hk9 hS => ?_)
      refine W.widen (k := cells) (n := slots) (Nat.le_refl _) (Nat.le_refl _) ?_
      have hB := hB.kept (fun x hx hA => hk9 x hx (fun e => hny1 (e ▸ hA)))
      have hAF : ∀ x, H.size ≤ x → AS x := fun x h => hAF x (by omega)
      have hIy1 := hP9
      have k86 : tS (rS ay1 cy1.toNatClampNeg) = 3 := hB.elt hky1 (lt10 o84)
      refine x_cast X w_1731 rfl (hB.at (k := 3) k86 rfl) dX12_storms_25 ?_
      refine lv_astore_n (lv' := [(2, .ref (rS ay1 cy1.toNatClampNeg)), (0, .ref y0), (1, .ref qy1)]) hx hb dX12_storms_28 rfl hl (by decide) rfl (fun ls hl => ?_)
      refine lv_aload_n hx hb dX12_storms_29 rfl (lv_at hl 0 rfl) ?_
      refine g_getN X dX12_storms_30 f_X12_140 (hB.one (k := 3) k86 rfl) 0 (v := .int (wS (rS ay1 cy1.toNatClampNeg) 5)) rfl rfl ?_
      refine lv_if_ne (tgt := 69) hx hb dX12_storms_33 (by decide) (fun c87 => ?_) (fun c87 => ?_)
      · have hw := hw.1 c87
        exact t_X12_storms_69 X hr hT hA0 hAm9 ih qy1 y0 ay1 (cy1 + 1) my1 tS nS rS wS bS sS _ _ _ _ _ _ hw hB hky0 hky1 hIy1 hny1 hmy1 hAS hAF hX hc hs hS (lv_sub hl [1, 2] rfl)
      · have hw := hw.2 c87
        refine lv_aload_n hx hb dX12_storms_36 rfl (lv_at hl 0 rfl) ?_
        refine lv_aload_n hx hb dX12_storms_37 rfl (lv_at hl 0 rfl) ?_
        refine g_getN X dX12_storms_38 f_X12_134 (hB.one (k := 3) k86 rfl) 0 (v := .int (wS (rS ay1 cy1.toNatClampNeg) 1)) rfl rfl ?_
        refine lv_aload_n hx hb dX12_storms_41 rfl (lv_at hl 1 rfl) ?_
        refine lv_aload_n hx hb dX12_storms_42 rfl (lv_at hl 0 rfl) ?_
        refine g_getN X dX12_storms_43 f_X12_144 (hB.one (k := 3) k86 rfl) 0 (v := .int (wS (rS ay1 cy1.toNatClampNeg) 0)) rfl rfl ?_
        refine g_after (st0 := [.int (wS (rS ay1 cy1.toNatClampNeg) 0), .ref y0, .int (wS (rS ay1 cy1.toNatClampNeg) 1), .ref (rS ay1 cy1.toNatClampNeg)]) (rest := [.int (wS (rS ay1 cy1.toNatClampNeg) 1), .ref (rS ay1 cy1.toNatClampNeg)]) (g_V X m_X12_106 (c_X12_wind l D tc h0 sa y0 (wS (rS ay1 cy1.toNatClampNeg) 0) _ hB hky0 hw) (recv1 X.2.2.2.2.1 rfl (hB.at (k := 4) hky0 rfl)) hT hS hA0 dX12_storms_46 hl.1 rfl rfl ⟨Nat.le_of_ble_eq_true rfl, Nat.le_of_ble_eq_true rfl⟩ (Nat.le_of_ble_eq_true rfl) ⟨show cells + 0 ≤ b0 by omega, show slots + 0 ≤ s0 by omega⟩) hS (fun _ h => h.elim) (fun u => .int u :: [.int (wS (rS ay1 cy1.toNatClampNeg) 1), .ref (rS ay1 cy1.toNatClampNeg)]) (fun _ => rfl) (fun u H9 locs hw hP9 hz9 hk9 hS => ?_)
        obtain ⟨r88, rfl⟩ : ∃ z, z = u := ⟨_, rfl⟩
        try dsimp only at hw hP9
        have e9 : H9 = _ := hP9
        rw [e9] at hS ⊢
        refine W.widen (k := cells) (n := slots) (Nat.le_refl _) (Nat.le_refl _) ?_
        refine lv_iadd hx hb dX12_storms_49 ?_
        refine lv_sipush (v := 3600) hx hb dX12_storms_50 (by decide) ?_
        refine g_after (st0 := [.int 3600, .int ((wS (rS ay1 cy1.toNatClampNeg) 1) + r88), .ref (rS ay1 cy1.toNatClampNeg)]) (rest := [.ref (rS ay1 cy1.toNatClampNeg)]) (g_S X m_X12_137 (c_J9_floorMod_7cf53 l D tc h0 sa ((wS (rS ay1 cy1.toNatClampNeg) 1) + r88) 3600 _ hw) hT hS hA0 dX12_storms_53 hl.1 rfl rfl ⟨Nat.le_of_ble_eq_true rfl, Nat.le_of_ble_eq_true rfl⟩ (Nat.le_of_ble_eq_true rfl) ⟨show cells + 0 ≤ b0 by omega, show slots + 0 ≤ s0 by omega⟩) hS (fun _ h => h.elim) (fun u => .int u :: [.ref (rS ay1 cy1.toNatClampNeg)]) (fun _ => rfl) (fun u H9 locs hw hP9 hz9 hk9 hS => ?_)
        have e9 : H9 = _ := hP9
        rw [e9] at hS ⊢
        refine W.widen (k := cells) (n := slots) (Nat.le_refl _) (Nat.le_refl _) ?_
        obtain ⟨r89, rfl⟩ : ∃ z, z = u := ⟨_, rfl⟩
        try dsimp only at hw
        have A90 := (hB.lt (by rw [k86]; decide)).2
        refine g_putiN X dX12_storms_56 f_X12_134 (hB.oneB (k := 3) hAS k86 rfl) hS (x := r89) rfl rfl rfl (fun H locs hb9 oq hS => ?_)
        have hB := hB.putB k86 rfl hb9 oq
        have hIy1 := hIy1.kept (fun x hx e => oq x (fun e9 => hny1 (by rw [← e, e9]; exact A90)))
        have hAF : ∀ x, H.size ≤ x → AS x := fun x h => hAF x (Nat.le_trans (sz_of oq (hB.lt (by rw [k86]; decide)).1) h)
        obtain ⟨wS91, ewS91⟩ : ∃ z : Dt, z = up2 wS (rS ay1 cy1.toNatClampNeg) 1 r89 := ⟨_, rfl⟩
        rw [← ewS91] at hB
        have hw := hw wS91 ewS91
        refine lv_aload_n hx hb dX12_storms_59 rfl (lv_at hl 0 rfl) ?_
        refine lv_dup hx hb dX12_storms_60 rfl ?_
        refine g_getN X dX12_storms_61 f_X12_127 (hB.one (k := 3) k86 rfl) 0 (v := .int (wS91 (rS ay1 cy1.toNatClampNeg) 3)) rfl rfl ?_
        refine lv_iconst (v := 1) hx hb dX12_storms_64 (by decide) ?_
        refine lv_iadd hx hb dX12_storms_65 ?_
        have A92 := (hB.lt (by rw [k86]; decide)).2
        refine g_putiN X dX12_storms_66 f_X12_127 (hB.oneB (k := 3) hAS k86 rfl) hS (x := ((wS91 (rS ay1 cy1.toNatClampNeg) 3) + 1)) rfl rfl rfl (fun H locs hb9 oq hS => ?_)
        have hB := hB.putB k86 rfl hb9 oq
        have hIy1 := hIy1.kept (fun x hx e => oq x (fun e9 => hny1 (by rw [← e, e9]; exact A92)))
        have hAF : ∀ x, H.size ≤ x → AS x := fun x h => hAF x (Nat.le_trans (sz_of oq (hB.lt (by rw [k86]; decide)).1) h)
        obtain ⟨wS93, ewS93⟩ : ∃ z : Dt, z = up2 wS91 (rS ay1 cy1.toNatClampNeg) 3 ((wS91 (rS ay1 cy1.toNatClampNeg) 3) + 1) := ⟨_, rfl⟩
        rw [← ewS93] at hB
        have hw := hw wS93 ewS93
        exact t_X12_storms_69 X hr hT hA0 hAm9 ih qy1 y0 ay1 (cy1 + 1) my1 tS nS rS wS93 bS sS _ _ _ _ _ _ hw hB hky0 hky1 hIy1 hny1 hmy1 hAS hAF hX hc hs hS (lv_sub hl [1, 2] rfl)
def wp_X12_storms (post : (Nat → Nat) → (Nat → Nat) → (Nat → Nat → Nat) → Dt → Prop)  (tS : Nat → Nat) (nS : Nat → Nat) (rS : Nat → Nat → Nat) (wS : Dt) (bS : Nat) (sS : Nat) (x0 : Nat) : Prop := 1 ≤ bS ∧ (4 ≤ sS ∧ (∃ k9 : Nat, wp_X12_storms_10 post   k9 x0 (rS x0 8) (0 : Int32) (wS (rS x0 8) 0) tS nS rS wS (bS - 1) (sS - 4)))
set_option maxHeartbeats 4000000 in
set_option maxRecDepth 100000 in
theorem c_X12_storms (l : Launch) (D : va_G) (tc : Nat → ClassId) (h0 : Nat) (sa : Nat → Nat) (x0 : Nat) (b0 s0 : Nat) {Am : Nat → Prop} (H0 : Heap) {tS nS : Nat → Nat} {rS : Nat → Nat → Nat} {wS : Dt} (hB : SB D tc (sa 3) Am tS nS rS wS H0) (hkx0 : tS x0 = 4) (hA0 : ∀ q, Am q → h0 ≤ q) (hAF : ∀ x, H0.size ≤ x → Am x) {post : (Nat → Nat) → (Nat → Nat) → (Nat → Nat → Nat) → Dt → Prop} (hw : wp_X12_storms post  tS nS rS wS b0 s0 x0) : MB l yX12_storms cX12_storms 5 (Option.none : Option FieldType) (rm_X12_storms b0 s0) Am [.ref x0] D tc h0 sa H0 (fun u : (Nat → Nat) × (Nat → Nat) × (Nat → Nat → Nat) × Dt => post u.1 u.2.1 u.2.2.1 u.2.2.2) (fun (u : (Nat → Nat) × (Nat → Nat) × (Nat → Nat → Nat) × Dt) (H1 : Heap) => SB D tc (sa 3) Am u.1 u.2.1 u.2.2.1 u.2.2.2 H1 ∧ Ext tS u.1) (fun _ : (Nat → Nat) × (Nat → Nat) × (Nat → Nat → Nat) × Dt => none) := by
  refine MB.of RX12 [(0, .ref x0)] (by decide +kernel) rfl (Nat.le_of_ble_eq_true rfl) rfl ?_
  intro p e s m below meth c ls X hr hin hT hH hS hl
  subst hH
  have hx := X.1
  have hb := X.2.1
  have hown := X.2.2.2.1
  have hU := X.2.2.2.2.1.1
  unfold wp_X12_storms at hw
  obtain ⟨A, eA⟩ : ∃ z, z = Am := ⟨_, rfl⟩
  have hB : SB D tc (sa 3) A tS nS rS wS s.heap := by rw [eA]; exact hB
  have hAm9 := hAF
  have hAF : ∀ x, s.heap.size ≤ x → A x := by rw [eA]; exact hAF
  have hAS : ∀ x, A x → Am x := by rw [eA]; exact fun _ h => h
  have hX : Ext tS tS := Ext.rf
  obtain ⟨bS, ebS⟩ : ∃ z, z = b0 := ⟨_, rfl⟩
  obtain ⟨sS, esS⟩ : ∃ z, z = s0 := ⟨_, rfl⟩
  rw [← ebS, ← esS] at hw
  refine W_bud (b := bS) (s1 := sS) (B := b0) (S := s0) (show 0 + bS ≤ b0 by omega) (show 0 + sS ≤ s0 by omega) (fun cells slots hc hs => ?_)
  refine lv_aload_n hx hb dX12_storms_0 rfl (lv_at hl 0 rfl) ?_
  refine g_get X dX12_storms_1 f_X12_33 (hB.one (k := 4) hkx0 rfl) 0 (v := .ref (rS x0 8)) rfl rfl ?_
  have k1 : tS (rS x0 8) = 8 := (hB.wtk hkx0).2.2.2.2.1
  obtain ⟨fs9, hat9⟩ := hB.lat (isL_of k1)
  obtain ⟨o2, hw⟩ := hw
  obtain ⟨o3, hw⟩ := hw
  refine g_after5 (st0 := [.ref (rS x0 8)]) (rest := []) (g_F X mf_X12_59 (c_itr l D tc h0 sa _ (rS x0 8) hB (isL_of k1) (fun x h => hA0 x (hAS x (hAF x h)))) rfl hat9 hT hS hA0 dX12_storms_4 hl.1 rfl rfl ⟨Nat.le_of_ble_eq_true rfl, Nat.le_of_ble_eq_true rfl⟩ (Nat.le_of_ble_eq_true rfl) ⟨show cells + 1 ≤ b0 by omega, show slots + 4 ≤ s0 by omega⟩) hS (fun x h => hAS x (hAF x h)) (fun qi4 => .ref qi4 :: []) (fun _ => rfl) (fun qi4 H9 locs hu hP9 hz9 hk9 hS => ?_)
  obtain ⟨hq9, hqz, hIi4⟩ := hP9
  have o1 := fun x hx => hk9 x hx (fun h => by omega)
  have hmi4 : Am qi4 := hAS _ (hAF _ hq9)
  have hB := hB.off hq9 o1
  have hni4 : ¬ (fun x => A x ∧ x ≠ qi4) qi4 := fun h => h.2 rfl
  have hAF : ∀ x, H9.size ≤ x → (fun x => A x ∧ x ≠ qi4) x := fun x h => ⟨hAF x (by omega), fun e => by omega⟩
  have hAS : ∀ x, (fun x => A x ∧ x ≠ qi4) x → Am x := fun x h => hAS x h.1
  obtain ⟨AS5, eAS5⟩ : ∃ z : Nat → Prop, z = (fun x => A x ∧ x ≠ qi4) := ⟨_, rfl⟩
  rw [← eAS5] at hB hAF hAS hni4 
  refine W_bud (b := (bS - 1)) (s1 := (sS - 4)) (B := b0) (S := s0) (show (cells + 1) + (bS - 1) ≤ b0 by omega) (show (slots + 4) + (sS - 4) ≤ s0 by omega) (fun cells slots hc hs => ?_)
  refine lv_astore_n (lv' := [(1, .ref qi4), (0, .ref x0)]) hx hb dX12_storms_9 rfl hl (by decide) rfl (fun ls hl => ?_)
  obtain ⟨k9, hw⟩ := hw
  exact t_X12_storms_10 X hr hT hA0 hAm9  k9 qi4 x0 (rS x0 8) (0 : Int32) (wS (rS x0 8) 0) tS nS rS wS (bS - 1) (sS - 4) _ _ _ _ _ _ hw hB hkx0 k1 hIi4 hni4 hmi4 hAS hAF hX hc hs hS (lv_sub hl [1, 0] rfl)
abbrev rm_X12_lasts (b0 s0 : Nat) : Room := { frames := 10, cells := b0, slots := s0, locals := 266 }
def wp_X12_lasts_22 (post : (Nat → Nat) → (Nat → Nat) → (Nat → Nat → Nat) → Dt → Prop)   : Nat → (Nat) → (Nat) → (Int32) → (Int32) → (Nat → Nat) → (Nat → Nat) → (Nat → Nat → Nat) → (Dt) → (Nat) → (Nat) → Prop
  | 0, _, _, _, _, _, _, _, _, _, _ => False
  | n9 + 1, y0, ay1, cy1, my1, tS, nS, rS, wS, bS, sS => (cy1 = nI (nS ay1) → ∀ wS19 : Dt, wS19 = up2 wS y0 11 ((wS y0 11) + 1) → (post tS nS rS wS19)) ∧ (¬ cy1 = nI (nS ay1) → vp_in cy1 (nS ay1) ∧ (wS ay1 0 = my1 ∧ (wp_X12_shear (fun r23 => ∀ wS25 : Dt, wS25 = up2 wS (rS ay1 cy1.toNatClampNeg) 2 ((wS (rS ay1 cy1.toNatClampNeg) 2) + (1 + (r23 / 20))) → (wp_X12_lasts_22 post   n9 y0 ay1 (cy1 + 1) my1 tS nS rS wS25 bS sS)) tS nS rS wS y0 (wS (rS ay1 cy1.toNatClampNeg) 0))))
set_option maxHeartbeats 4000000 in
set_option maxRecDepth 100000 in
theorem t_X12_lasts_22 : ∀ {p : Program} {l : Launch} {e : Env} {s : State} {m : MethodId} {args : Array Value} {below : List Frame} {meth : Method} {c : Code} {D : va_G} {tc : Nat → ClassId} {h0 : Nat} {sa : Nat → Nat} {Am : Nat → Prop} {b0 s0 : Nat} {t0 : Nat → Nat} {post : (Nat → Nat) → (Nat → Nat) → (Nat → Nat → Nat) → Dt → Prop}   (X : Cx p c s m meth cX12_lasts 3 RX12 D tc) (hr : meth.sig.returnType = (Option.none : Option FieldType)) (hT : ST h0 sa s s.heap) (hA0 : ∀ q, Am q → h0 ≤ q) (hAm9 : ∀ x, s.heap.size ≤ x → Am x)  (n9 : Nat), ∀ (qy1 : Nat) (y0 : Nat) (ay1 : Nat) (cy1 : Int32) (my1 : Int32) (tS : Nat → Nat) (nS : Nat → Nat) (rS : Nat → Nat → Nat) (wS : Dt) (bS : Nat) (sS : Nat) (H : Heap) (locs : List Loc) (ls : Array Slot) (AS : Nat → Prop) (cells slots : Nat), wp_X12_lasts_22 post   n9 y0 ay1 cy1 my1 tS nS rS wS bS sS → SB D tc (sa 3) AS tS nS rS wS H → (tS y0 = 4) → (tS ay1 = 9) → (IT D qy1 ay1 cy1 my1 H) → (¬ AS qy1) → (Am qy1) → (∀ x, AS x → Am x) → (∀ x, H.size ≤ x → AS x) → Ext t0 tS → cells + bS ≤ b0 → slots + sS ≤ s0 → va_S Am s.heap H locs → lv_has ls 3 [(0, .ref y0), (1, .ref qy1)] → W p l e (rm_X12_lasts b0 s0) s m args below meth c H locs cells slots (MQ below (QB (fun u : (Nat → Nat) × (Nat → Nat) × (Nat → Nat → Nat) × Dt => post u.1 u.2.1 u.2.2.1 u.2.2.2) (fun (u : (Nat → Nat) × (Nat → Nat) × (Nat → Nat → Nat) × Dt) (H1 : Heap) => SB D tc (sa 3) Am u.1 u.2.1 u.2.2.1 u.2.2.2 H1 ∧ Ext t0 u.1) (fun _ : (Nat → Nat) × (Nat → Nat) × (Nat → Nat → Nat) × Dt => none) Am) args s (rm_X12_lasts b0 s0).cells (rm_X12_lasts b0 s0).slots Am) (F0 m 22 ls []) := by
  intro p l e s m args below meth c D tc h0 sa Am b0 s0 t0 post   X hr hT hA0 hAm9  n9
  have hx := X.1
  have hb := X.2.1
  have hown := X.2.2.2.1
  have hU := X.2.2.2.2.1.1
  induction n9 with
  | zero =>
    intro qy1 y0 ay1 cy1 my1 tS nS rS wS bS sS H locs ls AS cells slots hw
    exact hw.elim
  | succ n9 ih =>
    intro qy1 y0 ay1 cy1 my1 tS nS rS wS bS sS H locs ls AS cells slots hw hB hky0 hky1 hIy1 hny1 hmy1 hAS hAF hX hc hs hS hl
    unfold wp_X12_lasts_22 at hw
    refine lv_aload_n hx hb dX12_lasts_22 rfl (lv_at hl 1 rfl) ?_
    have hI9 := hIy1
    obtain ⟨lr9, hat9⟩ := hI9
    refine g_after5 (st0 := [.ref qy1]) (rest := []) (g_F X mf_X12_65 (c_hn l D tc h0 sa _ qy1 ay1 hB (isL_of hky1) hIy1) rfl hat9 hT hS hA0 dX12_lasts_23 hl.1 rfl rfl ⟨Nat.le_of_ble_eq_true rfl, Nat.le_of_ble_eq_true rfl⟩ (Nat.le_of_ble_eq_true rfl) ⟨show cells + 0 ≤ b0 by omega, show slots + 0 ≤ s0 by omega⟩) hS (fun _ h => h.elim) (fun u => .int (if cy1 = nI (nS ay1) then 0 else 1) :: []) (fun _ => rfl) (fun u H9 locs hu hP9 hz9 hk9 hS => ?_)
    have e9 : H9 = _ := hP9
    rw [e9] at hS ⊢
    refine W.widen (k := cells) (n := slots) (Nat.le_refl _) (Nat.le_refl _) ?_
    refine lv_if_eq (tgt := 62) hx hb dX12_lasts_28 (by decide) (fun c17 => ?_) (fun c17 => ?_)
    · have hw := hw.1 (hn_eq c17)
      refine lv_aload_n hx hb dX12_lasts_62 rfl (lv_at hl 0 rfl) ?_
      refine lv_dup hx hb dX12_lasts_63 rfl ?_
      refine g_get X dX12_lasts_64 f_X12_93 (hB.one (k := 4) hky0 rfl) 0 (v := .int (wS y0 11)) rfl rfl ?_
      refine lv_iconst (v := 1) hx hb dX12_lasts_67 (by decide) ?_
      refine lv_iadd hx hb dX12_lasts_68 ?_
      have A18 := (hB.lt (by rw [hky0]; decide)).2
      refine g_puti X dX12_lasts_69 f_X12_93 (hB.oneB (k := 4) hAS hky0 rfl) hS 0 rfl (x := ((wS y0 11) + 1)) rfl rfl rfl (fun H locs hb9 oq hS => ?_)
      have hB := hB.putB hky0 rfl hb9 oq
      have hIy1 := hIy1.kept (fun x hx e => oq x (fun e9 => hny1 (by rw [← e, e9]; exact A18)))
      have hAF : ∀ x, H.size ≤ x → AS x := fun x h => hAF x (Nat.le_trans (sz_of oq (hB.lt (by rw [hky0]; decide)).1) h)
      obtain ⟨wS19, ewS19⟩ : ∃ z : Dt, z = up2 wS y0 11 ((wS y0 11) + 1) := ⟨_, rfl⟩
      rw [← ewS19] at hB
      have hw := hw wS19 ewS19
      exact e_v X hr dX12_lasts_72 hS (tS, nS, rS, wS19) rfl hw ⟨hB.regs hAS, hX⟩ ⟨show cells ≤ b0 by omega, show slots ≤ s0 by omega⟩
    · have hw := hw.2 (hn_ne c17)
      refine lv_aload_n hx hb dX12_lasts_31 rfl (lv_at hl 1 rfl) ?_
      have hI9 := hIy1
      obtain ⟨lr9, hat9⟩ := hI9
      obtain ⟨o20, hw⟩ := hw
      obtain ⟨o21, hw⟩ := hw
      refine g_after5 (st0 := [.ref qy1]) (rest := []) (g_F X mf_X12_71 (c_nx l D tc h0 sa _ qy1 ay1 hB (isL_of hky1) hIy1 o21 o20 hny1 (hA0 _ hmy1)) rfl hat9 hT hS hA0 dX12_lasts_32 hl.1 rfl rfl ⟨Nat.le_of_ble_eq_true rfl, Nat.le_of_ble_eq_true rfl⟩ (Nat.le_of_ble_eq_true rfl) ⟨show cells + 0 ≤ b0 by omega, show slots + 0 ≤ s0 by omega⟩) hS (fun x h => h ▸ hmy1) (fun u => .ref (rS ay1 cy1.toNatClampNeg) :: []) (fun _ => rfl) (fun u H locs hu hP9 hz9 hk9 hS => ?_)
      refine W.widen (k := cells) (n := slots) (Nat.le_refl _) (Nat.le_refl _) ?_
      have hB := hB.kept (fun x hx hA => hk9 x hx (fun e => hny1 (e ▸ hA)))
      have hAF : ∀ x, H.size ≤ x → AS x := fun x h => hAF x (by omega)
      have hIy1 := hP9
      have k22 : tS (rS ay1 cy1.toNatClampNeg) = 23 := hB.elt hky1 (lt10 o20)
      refine x_casta X w_1746 (hB.at (k := 23) k22 rfl) dX12_lasts_37 ?_
      refine lv_astore_n (lv' := [(2, .ref (rS ay1 cy1.toNatClampNeg)), (0, .ref y0), (1, .ref qy1)]) hx hb dX12_lasts_40 rfl hl (by decide) rfl (fun ls hl => ?_)
      refine lv_aload_n hx hb dX12_lasts_41 rfl (lv_at hl 0 rfl) ?_
      refine lv_iconst (v := 2) hx hb dX12_lasts_42 (by decide) ?_
      refine lv_dup2_11 hx hb dX12_lasts_43 rfl rfl ?_
      refine g_iald X dX12_lasts_44 (hB.one (k := 23) k22 rfl) 0 rfl (by unfold vp_in; decide) (k := 2) (by decide) ?_
      refine lv_iconst (v := 1) hx hb dX12_lasts_45 (by decide) ?_
      refine lv_aload_n hx hb dX12_lasts_46 rfl (lv_at hl 1 rfl) ?_
      refine lv_aload_n hx hb dX12_lasts_47 rfl (lv_at hl 0 rfl) ?_
      refine lv_iconst (v := 0) hx hb dX12_lasts_48 (by decide) ?_
      refine g_iald X dX12_lasts_49 (hB.one (k := 23) k22 rfl) 0 rfl (by unfold vp_in; decide) (k := 0) (by decide) ?_
      refine g_after (st0 := [.int (wS (rS ay1 cy1.toNatClampNeg) 0), .ref y0, .int 1, .int (wS (rS ay1 cy1.toNatClampNeg) 2), .int 2, .ref (rS ay1 cy1.toNatClampNeg)]) (rest := [.int 1, .int (wS (rS ay1 cy1.toNatClampNeg) 2), .int 2, .ref (rS ay1 cy1.toNatClampNeg)]) (g_V X m_X12_165 (c_X12_shear l D tc h0 sa y0 (wS (rS ay1 cy1.toNatClampNeg) 0) _ hB hky0 hw) (recv1 X.2.2.2.2.1 rfl (hB.at (k := 4) hky0 rfl)) hT hS hA0 dX12_lasts_50 hl.1 rfl rfl ⟨Nat.le_of_ble_eq_true rfl, Nat.le_of_ble_eq_true rfl⟩ (Nat.le_of_ble_eq_true rfl) ⟨show cells + 0 ≤ b0 by omega, show slots + 0 ≤ s0 by omega⟩) hS (fun _ h => h.elim) (fun u => .int u :: [.int 1, .int (wS (rS ay1 cy1.toNatClampNeg) 2), .int 2, .ref (rS ay1 cy1.toNatClampNeg)]) (fun _ => rfl) (fun u H9 locs hw hP9 hz9 hk9 hS => ?_)
      obtain ⟨r23, rfl⟩ : ∃ z, z = u := ⟨_, rfl⟩
      try dsimp only at hw hP9
      have e9 : H9 = _ := hP9
      rw [e9] at hS ⊢
      refine W.widen (k := cells) (n := slots) (Nat.le_refl _) (Nat.le_refl _) ?_
      refine lv_bipush (v := 20) hx hb dX12_lasts_53 (by decide) ?_
      refine lv_idiv hx hb dX12_lasts_55 (by decide) ?_
      refine lv_iadd hx hb dX12_lasts_56 ?_
      refine lv_iadd hx hb dX12_lasts_57 ?_
      have A24 := (hB.lt (by rw [k22]; decide)).2
      refine g_iast X dX12_lasts_58 (hB.oneB (k := 23) hAS k22 rfl) hS 0 rfl (by unfold vp_in; decide) (k := 2) (by decide) (fun H locs hb9 oq hS => ?_)
      have hB := hB.putB k22 rfl hb9 oq
      have hIy1 := hIy1.kept (fun x hx e => oq x (fun e9 => hny1 (by rw [← e, e9]; exact A24)))
      have hAF : ∀ x, H.size ≤ x → AS x := fun x h => hAF x (Nat.le_trans (sz_of oq (hB.lt (by rw [k22]; decide)).1) h)
      obtain ⟨wS25, ewS25⟩ : ∃ z : Dt, z = up2 wS (rS ay1 cy1.toNatClampNeg) 2 ((wS (rS ay1 cy1.toNatClampNeg) 2) + (1 + (r23 / 20))) := ⟨_, rfl⟩
      rw [← ewS25] at hB
      have hw := hw wS25 ewS25
      refine lv_goto (tgt := 22) hx hb dX12_lasts_59 (by decide) ?_
      exact ih qy1 y0 ay1 (cy1 + 1) my1 tS nS rS wS25 bS sS _ _ _ _ _ _ hw hB hky0 hky1 hIy1 hny1 hmy1 hAS hAF hX hc hs hS (lv_sub hl [1, 2] rfl)
def wp_X12_lasts (post : (Nat → Nat) → (Nat → Nat) → (Nat → Nat → Nat) → Dt → Prop)  (tS : Nat → Nat) (nS : Nat → Nat) (rS : Nat → Nat → Nat) (wS : Dt) (bS : Nat) (sS : Nat) (x0 : Nat) : Prop := wp_X12_column (fun wS1 => wp_X12_drags (fun wS2 => ∃ b3 s4 : Nat, b3 ≤ bS ∧ s4 ≤ sS ∧ (wp_X12_storms (fun tS7 nS8 rS9 wS10 => 1 ≤ (bS - b3) ∧ (4 ≤ (sS - s4) ∧ (∃ k9 : Nat, wp_X12_lasts_22 post   k9 x0 (rS9 x0 9) (0 : Int32) (wS10 (rS9 x0 9) 0) tS7 nS8 rS9 wS10 ((bS - b3) - 1) ((sS - s4) - 4)))) tS nS rS wS2 b3 s4 x0)) tS nS rS wS1 x0) tS nS rS wS x0
set_option maxHeartbeats 4000000 in
set_option maxRecDepth 100000 in
theorem c_X12_lasts (l : Launch) (D : va_G) (tc : Nat → ClassId) (h0 : Nat) (sa : Nat → Nat) (x0 : Nat) (b0 s0 : Nat) {Am : Nat → Prop} (H0 : Heap) {tS nS : Nat → Nat} {rS : Nat → Nat → Nat} {wS : Dt} (hB : SB D tc (sa 3) Am tS nS rS wS H0) (hkx0 : tS x0 = 4) (hA0 : ∀ q, Am q → h0 ≤ q) (hAF : ∀ x, H0.size ≤ x → Am x) {post : (Nat → Nat) → (Nat → Nat) → (Nat → Nat → Nat) → Dt → Prop} (hw : wp_X12_lasts post  tS nS rS wS b0 s0 x0) : MB l yX12_lasts cX12_lasts 3 (Option.none : Option FieldType) (rm_X12_lasts b0 s0) Am [.ref x0] D tc h0 sa H0 (fun u : (Nat → Nat) × (Nat → Nat) × (Nat → Nat → Nat) × Dt => post u.1 u.2.1 u.2.2.1 u.2.2.2) (fun (u : (Nat → Nat) × (Nat → Nat) × (Nat → Nat → Nat) × Dt) (H1 : Heap) => SB D tc (sa 3) Am u.1 u.2.1 u.2.2.1 u.2.2.2 H1 ∧ Ext tS u.1) (fun _ : (Nat → Nat) × (Nat → Nat) × (Nat → Nat → Nat) × Dt => none) := by
  refine MB.of RX12 [(0, .ref x0)] (by decide +kernel) rfl (Nat.le_of_ble_eq_true rfl) rfl ?_
  intro p e s m below meth c ls X hr hin hT hH hS hl
  subst hH
  have hx := X.1
  have hb := X.2.1
  have hown := X.2.2.2.1
  have hU := X.2.2.2.2.1.1
  unfold wp_X12_lasts at hw
  obtain ⟨A, eA⟩ : ∃ z, z = Am := ⟨_, rfl⟩
  have hB : SB D tc (sa 3) A tS nS rS wS s.heap := by rw [eA]; exact hB
  have hAm9 := hAF
  have hAF : ∀ x, s.heap.size ≤ x → A x := by rw [eA]; exact hAF
  have hAS : ∀ x, A x → Am x := by rw [eA]; exact fun _ h => h
  have hX : Ext tS tS := Ext.rf
  obtain ⟨bS, ebS⟩ : ∃ z, z = b0 := ⟨_, rfl⟩
  obtain ⟨sS, esS⟩ : ∃ z, z = s0 := ⟨_, rfl⟩
  rw [← ebS, ← esS] at hw
  refine W_bud (b := bS) (s1 := sS) (B := b0) (S := s0) (show 0 + bS ≤ b0 by omega) (show 0 + sS ≤ s0 by omega) (fun cells slots hc hs => ?_)
  refine lv_aload_n hx hb dX12_lasts_0 rfl (lv_at hl 0 rfl) ?_
  refine g_after (st0 := [.ref x0]) (rest := []) (g_V X m_X12_169 (c_X12_column l D tc h0 sa x0 _ hB hkx0 (fun x h => hA0 x (hAS x h)) hw) (recv1 X.2.2.2.2.1 rfl (hB.at (k := 4) hkx0 rfl)) hT hS hA0 dX12_lasts_1 hl.1 rfl rfl ⟨Nat.le_of_ble_eq_true rfl, Nat.le_of_ble_eq_true rfl⟩ (Nat.le_of_ble_eq_true rfl) ⟨show cells + 0 ≤ b0 by omega, show slots + 0 ≤ s0 by omega⟩) hS hAS (fun u => []) (fun _ => rfl) (fun u H locs hw hP9 hz9 hk9 hS => ?_)
  obtain ⟨wS1, rfl⟩ : ∃ z, z = u := ⟨_, rfl⟩
  try dsimp only at hw hP9
  have hB := hP9
  have hAF : ∀ x, H.size ≤ x → A x := fun x h => hAF x (by omega)
  refine W.widen (k := cells) (n := slots) (Nat.le_refl _) (Nat.le_refl _) ?_
  refine lv_aload_n hx hb dX12_lasts_4 rfl (lv_at hl 0 rfl) ?_
  refine g_after (st0 := [.ref x0]) (rest := []) (g_V X m_X12_172 (c_X12_drags l D tc h0 sa x0 _ hB hkx0 (fun x h => hA0 x (hAS x h)) hw) (recv1 X.2.2.2.2.1 rfl (hB.at (k := 4) hkx0 rfl)) hT hS hA0 dX12_lasts_5 hl.1 rfl rfl ⟨Nat.le_of_ble_eq_true rfl, Nat.le_of_ble_eq_true rfl⟩ (Nat.le_of_ble_eq_true rfl) ⟨show cells + 0 ≤ b0 by omega, show slots + 0 ≤ s0 by omega⟩) hS hAS (fun u => []) (fun _ => rfl) (fun u H locs hw hP9 hz9 hk9 hS => ?_)
  obtain ⟨wS2, rfl⟩ : ∃ z, z = u := ⟨_, rfl⟩
  try dsimp only at hw hP9
  have hB := hP9
  have hAF : ∀ x, H.size ≤ x → A x := fun x h => hAF x (by omega)
  refine W.widen (k := cells) (n := slots) (Nat.le_refl _) (Nat.le_refl _) ?_
  refine lv_aload_n hx hb dX12_lasts_8 rfl (lv_at hl 0 rfl) ?_
  obtain ⟨b3, s4, o5, o6, hw⟩ := hw
  refine g_after (st0 := [.ref x0]) (rest := []) (g_V X m_X12_175 (c_X12_storms l D tc h0 sa x0 b3 s4 _ hB hkx0 (fun x h => hA0 x (hAS x h)) hAF hw) (recv1 X.2.2.2.2.1 rfl (hB.at (k := 4) hkx0 rfl)) hT hS hA0 dX12_lasts_9 hl.1 rfl rfl ⟨Nat.le_of_ble_eq_true rfl, Nat.le_of_ble_eq_true rfl⟩ (Nat.le_of_ble_eq_true rfl) ⟨show cells + b3 ≤ b0 by omega, show slots + s4 ≤ s0 by omega⟩) hS hAS (fun u => []) (fun _ => rfl) (fun u H locs hw hP9 hz9 hk9 hS => ?_)
  obtain ⟨tS7, nS8, rS9, wS10⟩ := u
  try dsimp only at hw hP9
  obtain ⟨hB, hX9⟩ := hP9
  have hAF : ∀ x, H.size ≤ x → A x := fun x h => hAF x (by omega)
  have hX := hX.trans hX9
  refine W_bud (b := (bS - b3)) (s1 := (sS - s4)) (B := b0) (S := s0) (show (cells + b3) + (bS - b3) ≤ b0 by omega) (show (slots + s4) + (sS - s4) ≤ s0 by omega) (fun cells slots hc hs => ?_)
  have k11 : tS7 x0 = 4 := hX9.to hkx0
  refine lv_aload_n hx hb dX12_lasts_12 rfl (lv_at hl 0 rfl) ?_
  refine g_get X dX12_lasts_13 f_X12_37 (hB.one (k := 4) k11 rfl) 0 (v := .ref (rS9 x0 9)) rfl rfl ?_
  have k12 : tS7 (rS9 x0 9) = 9 := (hB.wtk k11).2.2.2.2.2.1
  obtain ⟨fs9, hat9⟩ := hB.lat (isL_of k12)
  obtain ⟨o13, hw⟩ := hw
  obtain ⟨o14, hw⟩ := hw
  refine g_after5 (st0 := [.ref (rS9 x0 9)]) (rest := []) (g_F X mf_X12_59 (c_itr l D tc h0 sa _ (rS9 x0 9) hB (isL_of k12) (fun x h => hA0 x (hAS x (hAF x h)))) rfl hat9 hT hS hA0 dX12_lasts_16 hl.1 rfl rfl ⟨Nat.le_of_ble_eq_true rfl, Nat.le_of_ble_eq_true rfl⟩ (Nat.le_of_ble_eq_true rfl) ⟨show cells + 1 ≤ b0 by omega, show slots + 4 ≤ s0 by omega⟩) hS (fun x h => hAS x (hAF x h)) (fun qi15 => .ref qi15 :: []) (fun _ => rfl) (fun qi15 H9 locs hu hP9 hz9 hk9 hS => ?_)
  obtain ⟨hq9, hqz, hIi15⟩ := hP9
  have o1 := fun x hx => hk9 x hx (fun h => by omega)
  have hmi15 : Am qi15 := hAS _ (hAF _ hq9)
  have hB := hB.off hq9 o1
  have hni15 : ¬ (fun x => A x ∧ x ≠ qi15) qi15 := fun h => h.2 rfl
  have hAF : ∀ x, H9.size ≤ x → (fun x => A x ∧ x ≠ qi15) x := fun x h => ⟨hAF x (by omega), fun e => by omega⟩
  have hAS : ∀ x, (fun x => A x ∧ x ≠ qi15) x → Am x := fun x h => hAS x h.1
  obtain ⟨AS16, eAS16⟩ : ∃ z : Nat → Prop, z = (fun x => A x ∧ x ≠ qi15) := ⟨_, rfl⟩
  rw [← eAS16] at hB hAF hAS hni15 
  refine W_bud (b := ((bS - b3) - 1)) (s1 := ((sS - s4) - 4)) (B := b0) (S := s0) (show (cells + 1) + ((bS - b3) - 1) ≤ b0 by omega) (show (slots + 4) + ((sS - s4) - 4) ≤ s0 by omega) (fun cells slots hc hs => ?_)
  refine lv_astore_n (lv' := [(1, .ref qi15), (0, .ref x0)]) hx hb dX12_lasts_21 rfl hl (by decide) rfl (fun ls hl => ?_)
  obtain ⟨k9, hw⟩ := hw
  exact t_X12_lasts_22 X hr hT hA0 hAm9  k9 qi15 x0 (rS9 x0 9) (0 : Int32) (wS10 (rS9 x0 9) 0) tS7 nS8 rS9 wS10 ((bS - b3) - 1) ((sS - s4) - 4) _ _ _ _ _ _ hw hB k11 k12 hIi15 hni15 hmi15 hAS hAF hX hc hs hS (lv_sub hl [1, 0] rfl)
abbrev rm_X12_sum (b0 s0 : Nat) : Room := { frames := 3, cells := b0, slots := s0, locals := 61 }
def wp_X12_sum_138 (post : Int64 → (Nat → Nat) → (Nat → Nat) → (Nat → Nat → Nat) → Dt → Prop)  (K96 : Nat → Int64 → Nat → Int32 → Int32 → (Nat → Nat) → (Nat → Nat) → (Nat → Nat → Nat) → (Dt) → (Nat) → (Nat) → Prop) (y0 : Nat) (ay3 : Nat) (cy3 : Int32) (my3 : Int32) (y4 : Nat) (z0 : Int32) (z1 : Int64) (tS : Nat → Nat) (nS : Nat → Nat) (rS : Nat → Nat → Nat) (wS : Dt) (bS : Nat) (sS : Nat) : Prop := ∀ v14 : Int64, v14 = ((31 * (z1 + z0.toInt64)) + (wS y4 1).toInt64) → (K96 y0 v14 ay3 cy3 my3 tS nS rS wS bS sS)
set_option maxHeartbeats 4000000 in
set_option maxRecDepth 100000 in
theorem t_X12_sum_138 : ∀ {p : Program} {l : Launch} {e : Env} {s : State} {m : MethodId} {args : Array Value} {below : List Frame} {meth : Method} {c : Code} {D : va_G} {tc : Nat → ClassId} {h0 : Nat} {sa : Nat → Nat} {Am : Nat → Prop} {b0 s0 : Nat} {t0 : Nat → Nat} {post : Int64 → (Nat → Nat) → (Nat → Nat) → (Nat → Nat → Nat) → Dt → Prop}  {K96 : Nat → Int64 → Nat → Int32 → Int32 → (Nat → Nat) → (Nat → Nat) → (Nat → Nat → Nat) → (Dt) → (Nat) → (Nat) → Prop} (X : Cx p c s m meth cX12_sum 7 RX12 D tc) (hr : meth.sig.returnType = (Option.some FieldType.long)) (hT : ST h0 sa s s.heap) (hA0 : ∀ q, Am q → h0 ≤ q) (hAm9 : ∀ x, s.heap.size ≤ x → Am x) (hK96 : ∀ (qy3 : Nat) (y0 : Nat) (y1 : Int64) (ay3 : Nat) (cy3 : Int32) (my3 : Int32) (tS : Nat → Nat) (nS : Nat → Nat) (rS : Nat → Nat → Nat) (wS : Dt) (bS : Nat) (sS : Nat) (H : Heap) (locs : List Loc) (ls : Array Slot) (AS : Nat → Prop) (cells slots : Nat), K96 y0 y1 ay3 cy3 my3 tS nS rS wS bS sS → SB D tc (sa 3) AS tS nS rS wS H → (tS y0 = 4) → (tS ay3 = 8) → (IT D qy3 ay3 cy3 my3 H) → (¬ AS qy3) → (Am qy3) → (∀ x, AS x → Am x) → (∀ x, H.size ≤ x → AS x) → Ext t0 tS → cells + bS ≤ b0 → slots + sS ≤ s0 → va_S Am s.heap H locs → lv_has ls 7 [(0, .ref y0), (1, .long y1), (3, .ref qy3)] → W p l e (rm_X12_sum b0 s0) s m args below meth c H locs cells slots (MQ below (QB (fun u : Int64 × (Nat → Nat) × (Nat → Nat) × (Nat → Nat → Nat) × Dt => post u.1 u.2.1 u.2.2.1 u.2.2.2.1 u.2.2.2.2) (fun (u : Int64 × (Nat → Nat) × (Nat → Nat) × (Nat → Nat → Nat) × Dt) (H1 : Heap) => SB D tc (sa 3) Am u.2.1 u.2.2.1 u.2.2.2.1 u.2.2.2.2 H1 ∧ Ext t0 u.2.1) (fun u : Int64 × (Nat → Nat) × (Nat → Nat) × (Nat → Nat → Nat) × Dt => some (.long u.1)) Am) args s (rm_X12_sum b0 s0).cells (rm_X12_sum b0 s0).slots Am) (F0 m 96 ls [])), ∀ (qy3 : Nat) (y0 : Nat) (ay3 : Nat) (cy3 : Int32) (my3 : Int32) (y4 : Nat) (z0 : Int32) (z1 : Int64) (tS : Nat → Nat) (nS : Nat → Nat) (rS : Nat → Nat → Nat) (wS : Dt) (bS : Nat) (sS : Nat) (H : Heap) (locs : List Loc) (ls : Array Slot) (AS : Nat → Prop) (cells slots : Nat), wp_X12_sum_138 post  K96 y0 ay3 cy3 my3 y4 z0 z1 tS nS rS wS bS sS → SB D tc (sa 3) AS tS nS rS wS H → (tS y0 = 4) → (tS ay3 = 8) → (IT D qy3 ay3 cy3 my3 H) → (¬ AS qy3) → (Am qy3) → (tS y4 = 3) → (∀ x, AS x → Am x) → (∀ x, H.size ≤ x → AS x) → Ext t0 tS → cells + bS ≤ b0 → slots + sS ≤ s0 → va_S Am s.heap H locs → lv_has ls 7 [(0, .ref y0), (3, .ref qy3), (4, .ref y4)] → W p l e (rm_X12_sum b0 s0) s m args below meth c H locs cells slots (MQ below (QB (fun u : Int64 × (Nat → Nat) × (Nat → Nat) × (Nat → Nat → Nat) × Dt => post u.1 u.2.1 u.2.2.1 u.2.2.2.1 u.2.2.2.2) (fun (u : Int64 × (Nat → Nat) × (Nat → Nat) × (Nat → Nat → Nat) × Dt) (H1 : Heap) => SB D tc (sa 3) Am u.2.1 u.2.2.1 u.2.2.2.1 u.2.2.2.2 H1 ∧ Ext t0 u.2.1) (fun u : Int64 × (Nat → Nat) × (Nat → Nat) × (Nat → Nat → Nat) × Dt => some (.long u.1)) Am) args s (rm_X12_sum b0 s0).cells (rm_X12_sum b0 s0).slots Am) (F0 m 138 ls [.int z0, .long z1]) := by
  intro p l e s m args below meth c D tc h0 sa Am b0 s0 t0 post  K96 X hr hT hA0 hAm9 hK96 qy3 y0 ay3 cy3 my3 y4 z0 z1 tS nS rS wS bS sS H locs ls AS cells slots hw hB hky0 hky3 hIy3 hny3 hmy3 hky4 hAS hAF hX hc hs hS hl
  have hx := X.1
  have hb := X.2.1
  have hown := X.2.2.2.1
  have hU := X.2.2.2.2.1.1
  unfold wp_X12_sum_138 at hw
  refine lv_i2l (v := z0.toInt64) hx hb dX12_sum_138 rfl ?_
  refine lv_ladd hx hb dX12_sum_139 ?_
  refine lv_lstore_n (lv' := [(1, .long (z1 + z0.toInt64)), (0, .ref y0), (3, .ref qy3), (4, .ref y4)]) hx hb dX12_sum_140 rfl hl (by decide) rfl (fun ls hl => ?_)
  refine lv_ldc2 (v := 31) hx hb hown (hU.use w_2008) dX12_sum_141 ?_
  refine lv_lload_n hx hb dX12_sum_144 rfl (lv_at hl 0 rfl) ?_
  refine lv_lmul hx hb dX12_sum_145 ?_
  refine lv_aload hx hb dX12_sum_146 (lv_at hl 3 rfl) ?_
  refine g_getN X dX12_sum_148 f_X12_134 (hB.one (k := 3) hky4 rfl) 0 (v := .int (wS y4 1)) rfl rfl ?_
  refine lv_i2l (v := (wS y4 1).toInt64) hx hb dX12_sum_151 rfl ?_
  refine lv_ladd hx hb dX12_sum_152 ?_
  refine lv_topl (fun v14 ev14 => ?_)
  have hw := hw v14 ev14
  refine lv_lstore_n (lv' := [(1, .long v14), (0, .ref y0), (3, .ref qy3), (4, .ref y4)]) hx hb dX12_sum_153 rfl hl (by decide) rfl (fun ls hl => ?_)
  refine lv_goto (tgt := 96) hx hb dX12_sum_154 (by decide) ?_
  exact hK96 qy3 y0 v14 ay3 cy3 my3 tS nS rS wS bS sS _ _ _ _ _ _ hw hB hky0 hky3 hIy3 hny3 hmy3 hAS hAF hX hc hs hS (lv_sub hl [1, 0, 2] rfl)
def wp_X12_sum_96 (post : Int64 → (Nat → Nat) → (Nat → Nat) → (Nat → Nat → Nat) → Dt → Prop)   : Nat → (Nat) → (Int64) → (Nat) → (Int32) → (Int32) → (Nat → Nat) → (Nat → Nat) → (Nat → Nat → Nat) → (Dt) → (Nat) → (Nat) → Prop
  | 0, _, _, _, _, _, _, _, _, _, _, _ => False
  | n9 + 1, y0, y1, ay3, cy3, my3, tS, nS, rS, wS, bS, sS => (cy3 = nI (nS ay3) → post ((31 * y1) + (wS y0 11).toInt64) tS nS rS wS) ∧ (¬ cy3 = nI (nS ay3) → vp_in cy3 (nS ay3) ∧ (wS ay3 0 = my3 ∧ (((wS (rS ay3 cy3.toNatClampNeg) 5) = 0 → wp_X12_sum_138 post  (fun a0 a1 a2 a3 a4 a5 a6 a7 a8 a9 a10 => wp_X12_sum_96 post   n9 a0 a1 a2 a3 a4 a5 a6 a7 a8 a9 a10) y0 ay3 (cy3 + 1) my3 (rS ay3 cy3.toNatClampNeg) (wS (rS ay3 cy3.toNatClampNeg) 2) (31 * y1) tS nS rS wS bS sS) ∧ (¬ (wS (rS ay3 cy3.toNatClampNeg) 5) = 0 → wp_X12_sum_138 post  (fun a0 a1 a2 a3 a4 a5 a6 a7 a8 a9 a10 => wp_X12_sum_96 post   n9 a0 a1 a2 a3 a4 a5 a6 a7 a8 a9 a10) y0 ay3 (cy3 + 1) my3 (rS ay3 cy3.toNatClampNeg) 0 (31 * y1) tS nS rS wS bS sS))))
set_option maxHeartbeats 4000000 in
set_option maxRecDepth 100000 in
theorem t_X12_sum_96 : ∀ {p : Program} {l : Launch} {e : Env} {s : State} {m : MethodId} {args : Array Value} {below : List Frame} {meth : Method} {c : Code} {D : va_G} {tc : Nat → ClassId} {h0 : Nat} {sa : Nat → Nat} {Am : Nat → Prop} {b0 s0 : Nat} {t0 : Nat → Nat} {post : Int64 → (Nat → Nat) → (Nat → Nat) → (Nat → Nat → Nat) → Dt → Prop}   (X : Cx p c s m meth cX12_sum 7 RX12 D tc) (hr : meth.sig.returnType = (Option.some FieldType.long)) (hT : ST h0 sa s s.heap) (hA0 : ∀ q, Am q → h0 ≤ q) (hAm9 : ∀ x, s.heap.size ≤ x → Am x)  (n9 : Nat), ∀ (qy3 : Nat) (y0 : Nat) (y1 : Int64) (ay3 : Nat) (cy3 : Int32) (my3 : Int32) (tS : Nat → Nat) (nS : Nat → Nat) (rS : Nat → Nat → Nat) (wS : Dt) (bS : Nat) (sS : Nat) (H : Heap) (locs : List Loc) (ls : Array Slot) (AS : Nat → Prop) (cells slots : Nat), wp_X12_sum_96 post   n9 y0 y1 ay3 cy3 my3 tS nS rS wS bS sS → SB D tc (sa 3) AS tS nS rS wS H → (tS y0 = 4) → (tS ay3 = 8) → (IT D qy3 ay3 cy3 my3 H) → (¬ AS qy3) → (Am qy3) → (∀ x, AS x → Am x) → (∀ x, H.size ≤ x → AS x) → Ext t0 tS → cells + bS ≤ b0 → slots + sS ≤ s0 → va_S Am s.heap H locs → lv_has ls 7 [(0, .ref y0), (1, .long y1), (3, .ref qy3)] → W p l e (rm_X12_sum b0 s0) s m args below meth c H locs cells slots (MQ below (QB (fun u : Int64 × (Nat → Nat) × (Nat → Nat) × (Nat → Nat → Nat) × Dt => post u.1 u.2.1 u.2.2.1 u.2.2.2.1 u.2.2.2.2) (fun (u : Int64 × (Nat → Nat) × (Nat → Nat) × (Nat → Nat → Nat) × Dt) (H1 : Heap) => SB D tc (sa 3) Am u.2.1 u.2.2.1 u.2.2.2.1 u.2.2.2.2 H1 ∧ Ext t0 u.2.1) (fun u : Int64 × (Nat → Nat) × (Nat → Nat) × (Nat → Nat → Nat) × Dt => some (.long u.1)) Am) args s (rm_X12_sum b0 s0).cells (rm_X12_sum b0 s0).slots Am) (F0 m 96 ls []) := by
  intro p l e s m args below meth c D tc h0 sa Am b0 s0 t0 post   X hr hT hA0 hAm9  n9
  have hx := X.1
  have hb := X.2.1
  have hown := X.2.2.2.1
  have hU := X.2.2.2.2.1.1
  induction n9 with
  | zero =>
    intro qy3 y0 y1 ay3 cy3 my3 tS nS rS wS bS sS H locs ls AS cells slots hw
    exact hw.elim
  | succ n9 ih =>
    intro qy3 y0 y1 ay3 cy3 my3 tS nS rS wS bS sS H locs ls AS cells slots hw hB hky0 hky3 hIy3 hny3 hmy3 hAS hAF hX hc hs hS hl
    unfold wp_X12_sum_96 at hw
    refine lv_aload_n hx hb dX12_sum_96 rfl (lv_at hl 2 rfl) ?_
    have hI9 := hIy3
    obtain ⟨lr9, hat9⟩ := hI9
    refine g_after5 (st0 := [.ref qy3]) (rest := []) (g_F X mf_X12_65 (c_hn l D tc h0 sa _ qy3 ay3 hB (isL_of hky3) hIy3) rfl hat9 hT hS hA0 dX12_sum_97 hl.1 rfl rfl ⟨Nat.le_of_ble_eq_true rfl, Nat.le_of_ble_eq_true rfl⟩ (Nat.le_of_ble_eq_true rfl) ⟨show cells + 0 ≤ b0 by omega, show slots + 0 ≤ s0 by omega⟩) hS (fun _ h => h.elim) (fun u => .int (if cy3 = nI (nS ay3) then 0 else 1) :: []) (fun _ => rfl) (fun u H9 locs hu hP9 hz9 hk9 hS => ?_)
    have e9 : H9 = _ := hP9
    rw [e9] at hS ⊢
    refine W.widen (k := cells) (n := slots) (Nat.le_refl _) (Nat.le_refl _) ?_
    refine lv_if_eq (tgt := 157) hx hb dX12_sum_102 (by decide) (fun c9 => ?_) (fun c9 => ?_)
    · have hw := hw.1 (hn_eq c9)
      refine lv_ldc2 (v := 31) hx hb hown (hU.use w_2008) dX12_sum_157 ?_
      refine lv_lload_n hx hb dX12_sum_160 rfl (lv_at hl 1 rfl) ?_
      refine lv_lmul hx hb dX12_sum_161 ?_
      refine lv_aload_n hx hb dX12_sum_162 rfl (lv_at hl 0 rfl) ?_
      refine g_get X dX12_sum_163 f_X12_93 (hB.one (k := 4) hky0 rfl) 0 (v := .int (wS y0 11)) rfl rfl ?_
      refine lv_i2l (v := (wS y0 11).toInt64) hx hb dX12_sum_166 rfl ?_
      refine lv_ladd hx hb dX12_sum_167 ?_
      exact e_l X hr dX12_sum_168 hS (((31 * y1) + (wS y0 11).toInt64), tS, nS, rS, wS) rfl hw ⟨hB.regs hAS, hX⟩ ⟨show cells ≤ b0 by omega, show slots ≤ s0 by omega⟩
    · have hw := hw.2 (hn_ne c9)
      refine lv_aload_n hx hb dX12_sum_105 rfl (lv_at hl 2 rfl) ?_
      have hI9 := hIy3
      obtain ⟨lr9, hat9⟩ := hI9
      obtain ⟨o10, hw⟩ := hw
      obtain ⟨o11, hw⟩ := hw
      refine g_after5 (st0 := [.ref qy3]) (rest := []) (g_F X mf_X12_71 (c_nx l D tc h0 sa _ qy3 ay3 hB (isL_of hky3) hIy3 o11 o10 hny3 (hA0 _ hmy3)) rfl hat9 hT hS hA0 dX12_sum_106 hl.1 rfl rfl ⟨Nat.le_of_ble_eq_true rfl, Nat.le_of_ble_eq_true rfl⟩ (Nat.le_of_ble_eq_true rfl) ⟨show cells + 0 ≤ b0 by omega, show slots + 0 ≤ s0 by omega⟩) hS (fun x h => h ▸ hmy3) (fun u => .ref (rS ay3 cy3.toNatClampNeg) :: []) (fun _ => rfl) (fun u H locs hu hP9 hz9 hk9 hS => ?_)
      refine W.widen (k := cells) (n := slots) (Nat.le_refl _) (Nat.le_refl _) ?_
      have hB := hB.kept (fun x hx hA => hk9 x hx (fun e => hny3 (e ▸ hA)))
      have hAF : ∀ x, H.size ≤ x → AS x := fun x h => hAF x (by omega)
      have hIy3 := hP9
      have k12 : tS (rS ay3 cy3.toNatClampNeg) = 3 := hB.elt hky3 (lt10 o10)
      refine x_cast X w_1731 rfl (hB.at (k := 3) k12 rfl) dX12_sum_111 ?_
      refine lv_astore (lv' := [(4, .ref (rS ay3 cy3.toNatClampNeg)), (0, .ref y0), (1, .long y1), (3, .ref qy3)]) hx hb dX12_sum_114 hl (by decide) rfl (fun ls hl => ?_)
      refine lv_ldc2 (v := 31) hx hb hown (hU.use w_2008) dX12_sum_116 ?_
      refine lv_lload_n hx hb dX12_sum_119 rfl (lv_at hl 2 rfl) ?_
      refine lv_lmul hx hb dX12_sum_120 ?_
      refine lv_aload hx hb dX12_sum_121 (lv_at hl 0 rfl) ?_
      refine g_getN X dX12_sum_123 f_X12_140 (hB.one (k := 3) k12 rfl) 0 (v := .int (wS (rS ay3 cy3.toNatClampNeg) 5)) rfl rfl ?_
      refine lv_if_eq (tgt := 133) hx hb dX12_sum_126 (by decide) (fun c13 => ?_) (fun c13 => ?_)
      · have hw := hw.1 c13
        refine lv_aload hx hb dX12_sum_133 (lv_at hl 0 rfl) ?_
        refine g_getN X dX12_sum_135 f_X12_125 (hB.one (k := 3) k12 rfl) 0 (v := .int (wS (rS ay3 cy3.toNatClampNeg) 2)) rfl rfl ?_
        exact t_X12_sum_138 X hr hT hA0 hAm9 ih qy3 y0 ay3 (cy3 + 1) my3 (rS ay3 cy3.toNatClampNeg) (wS (rS ay3 cy3.toNatClampNeg) 2) (31 * y1) tS nS rS wS bS sS _ _ _ _ _ _ hw hB hky0 hky3 hIy3 hny3 hmy3 k12 hAS hAF hX hc hs hS (lv_sub hl [1, 3, 0] rfl)
      · have hw := hw.2 c13
        refine lv_iconst (v := 0) hx hb dX12_sum_129 (by decide) ?_
        refine lv_goto (tgt := 138) hx hb dX12_sum_130 (by decide) ?_
        exact t_X12_sum_138 X hr hT hA0 hAm9 ih qy3 y0 ay3 (cy3 + 1) my3 (rS ay3 cy3.toNatClampNeg) 0 (31 * y1) tS nS rS wS bS sS _ _ _ _ _ _ hw hB hky0 hky3 hIy3 hny3 hmy3 k12 hAS hAF hX hc hs hS (lv_sub hl [1, 3, 0] rfl)
def wp_X12_sum_57 (post : Int64 → (Nat → Nat) → (Nat → Nat) → (Nat → Nat → Nat) → Dt → Prop)   : Nat → (Nat) → (Int64) → (Nat) → (Int32) → (Int32) → (Nat → Nat) → (Nat → Nat) → (Nat → Nat → Nat) → (Dt) → (Nat) → (Nat) → Prop
  | 0, _, _, _, _, _, _, _, _, _, _, _ => False
  | n9 + 1, y0, y1, y3, y4, y5, tS, nS, rS, wS, bS, sS => (y4 ≤ y5 → 1 ≤ bS ∧ (4 ≤ sS ∧ (∃ k9 : Nat, wp_X12_sum_96 post   k9 y0 y1 (rS y0 8) (0 : Int32) (wS (rS y0 8) 0) tS nS rS wS (bS - 1) (sS - 4)))) ∧ (¬ y4 ≤ y5 → vp_in y5 12 ∧ (∀ v16 : Int64, v16 = ((31 * y1) + (wS y3 y5.toNatClampNeg).toInt64) → (wp_X12_sum_57 post   n9 y0 v16 y3 y4 (y5 + 1) tS nS rS wS bS sS)))
set_option maxHeartbeats 4000000 in
set_option maxRecDepth 100000 in
theorem t_X12_sum_57 : ∀ {p : Program} {l : Launch} {e : Env} {s : State} {m : MethodId} {args : Array Value} {below : List Frame} {meth : Method} {c : Code} {D : va_G} {tc : Nat → ClassId} {h0 : Nat} {sa : Nat → Nat} {Am : Nat → Prop} {b0 s0 : Nat} {t0 : Nat → Nat} {post : Int64 → (Nat → Nat) → (Nat → Nat) → (Nat → Nat → Nat) → Dt → Prop}   (X : Cx p c s m meth cX12_sum 7 RX12 D tc) (hr : meth.sig.returnType = (Option.some FieldType.long)) (hT : ST h0 sa s s.heap) (hA0 : ∀ q, Am q → h0 ≤ q) (hAm9 : ∀ x, s.heap.size ≤ x → Am x)  (n9 : Nat), ∀ (y0 : Nat) (y1 : Int64) (y3 : Nat) (y4 : Int32) (y5 : Int32) (tS : Nat → Nat) (nS : Nat → Nat) (rS : Nat → Nat → Nat) (wS : Dt) (bS : Nat) (sS : Nat) (H : Heap) (locs : List Loc) (ls : Array Slot) (AS : Nat → Prop) (cells slots : Nat), wp_X12_sum_57 post   n9 y0 y1 y3 y4 y5 tS nS rS wS bS sS → SB D tc (sa 3) AS tS nS rS wS H → (tS y0 = 4) → (tS y3 = 22) → (∀ x, AS x → Am x) → (∀ x, H.size ≤ x → AS x) → Ext t0 tS → cells + bS ≤ b0 → slots + sS ≤ s0 → va_S Am s.heap H locs → lv_has ls 7 [(0, .ref y0), (1, .long y1), (3, .ref y3), (4, .int y4), (5, .int y5)] → W p l e (rm_X12_sum b0 s0) s m args below meth c H locs cells slots (MQ below (QB (fun u : Int64 × (Nat → Nat) × (Nat → Nat) × (Nat → Nat → Nat) × Dt => post u.1 u.2.1 u.2.2.1 u.2.2.2.1 u.2.2.2.2) (fun (u : Int64 × (Nat → Nat) × (Nat → Nat) × (Nat → Nat → Nat) × Dt) (H1 : Heap) => SB D tc (sa 3) Am u.2.1 u.2.2.1 u.2.2.2.1 u.2.2.2.2 H1 ∧ Ext t0 u.2.1) (fun u : Int64 × (Nat → Nat) × (Nat → Nat) × (Nat → Nat → Nat) × Dt => some (.long u.1)) Am) args s (rm_X12_sum b0 s0).cells (rm_X12_sum b0 s0).slots Am) (F0 m 57 ls []) := by
  intro p l e s m args below meth c D tc h0 sa Am b0 s0 t0 post   X hr hT hA0 hAm9  n9
  have hx := X.1
  have hb := X.2.1
  have hown := X.2.2.2.1
  have hU := X.2.2.2.2.1.1
  induction n9 with
  | zero =>
    intro  y0 y1 y3 y4 y5 tS nS rS wS bS sS H locs ls AS cells slots hw
    exact hw.elim
  | succ n9 ih =>
    intro  y0 y1 y3 y4 y5 tS nS rS wS bS sS H locs ls AS cells slots hw hB hky0 hky3 hAS hAF hX hc hs hS hl
    unfold wp_X12_sum_57 at hw
    refine lv_iload hx hb dX12_sum_57 (lv_at hl 4 rfl) ?_
    refine lv_iload hx hb dX12_sum_59 (lv_at hl 3 rfl) ?_
    refine lv_icmp_ge (tgt := 86) hx hb dX12_sum_61 (by decide) (fun c3 => ?_) (fun c3 => ?_)
    · have hw := hw.1 c3
      refine lv_aload_n hx hb dX12_sum_86 rfl (lv_at hl 0 rfl) ?_
      refine g_get X dX12_sum_87 f_X12_33 (hB.one (k := 4) hky0 rfl) 0 (v := .ref (rS y0 8)) rfl rfl ?_
      have k4 : tS (rS y0 8) = 8 := (hB.wtk hky0).2.2.2.2.1
      obtain ⟨fs9, hat9⟩ := hB.lat (isL_of k4)
      obtain ⟨o5, hw⟩ := hw
      obtain ⟨o6, hw⟩ := hw
      refine g_after5 (st0 := [.ref (rS y0 8)]) (rest := []) (g_F X mf_X12_59 (c_itr l D tc h0 sa _ (rS y0 8) hB (isL_of k4) (fun x h => hA0 x (hAS x (hAF x h)))) rfl hat9 hT hS hA0 dX12_sum_90 hl.1 rfl rfl ⟨Nat.le_of_ble_eq_true rfl, Nat.le_of_ble_eq_true rfl⟩ (Nat.le_of_ble_eq_true rfl) ⟨show cells + 1 ≤ b0 by omega, show slots + 4 ≤ s0 by omega⟩) hS (fun x h => hAS x (hAF x h)) (fun qi7 => .ref qi7 :: []) (fun _ => rfl) (fun qi7 H9 locs hu hP9 hz9 hk9 hS => ?_)
      obtain ⟨hq9, hqz, hIi7⟩ := hP9
      have o1 := fun x hx => hk9 x hx (fun h => by omega)
      have hmi7 : Am qi7 := hAS _ (hAF _ hq9)
      have hB := hB.off hq9 o1
      have hni7 : ¬ (fun x => AS x ∧ x ≠ qi7) qi7 := fun h => h.2 rfl
      have hAF : ∀ x, H9.size ≤ x → (fun x => AS x ∧ x ≠ qi7) x := fun x h => ⟨hAF x (by omega), fun e => by omega⟩
      have hAS : ∀ x, (fun x => AS x ∧ x ≠ qi7) x → Am x := fun x h => hAS x h.1
      obtain ⟨AS8, eAS8⟩ : ∃ z : Nat → Prop, z = (fun x => AS x ∧ x ≠ qi7) := ⟨_, rfl⟩
      rw [← eAS8] at hB hAF hAS hni7 
      refine W_bud (b := (bS - 1)) (s1 := (sS - 4)) (B := b0) (S := s0) (show (cells + 1) + (bS - 1) ≤ b0 by omega) (show (slots + 4) + (sS - 4) ≤ s0 by omega) (fun cells slots hc hs => ?_)
      refine lv_astore_n (lv' := [(3, .ref qi7), (0, .ref y0), (1, .long y1), (4, .int y4), (5, .int y5)]) hx hb dX12_sum_95 rfl hl (by decide) rfl (fun ls hl => ?_)
      obtain ⟨k9, hw⟩ := hw
      exact t_X12_sum_96 X hr hT hA0 hAm9  k9 qi7 y0 y1 (rS y0 8) (0 : Int32) (wS (rS y0 8) 0) tS nS rS wS (bS - 1) (sS - 4) _ _ _ _ _ _ hw hB hky0 k4 hIi7 hni7 hmi7 hAS hAF hX hc hs hS (lv_sub hl [1, 2, 0] rfl)
    · have hw := hw.2 c3
      refine lv_aload_n hx hb dX12_sum_64 rfl (lv_at hl 2 rfl) ?_
      refine lv_iload hx hb dX12_sum_65 (lv_at hl 4 rfl) ?_
      obtain ⟨o15, hw⟩ := hw
      refine g_iald X dX12_sum_67 (hB.one (k := 22) hky3 rfl) 0 rfl o15 rfl ?_
      refine lv_istore (lv' := [(6, .int (wS y3 y5.toNatClampNeg)), (0, .ref y0), (1, .long y1), (3, .ref y3), (4, .int y4), (5, .int y5)]) hx hb dX12_sum_68 hl (by decide) rfl (fun ls hl => ?_)
      refine lv_ldc2 (v := 31) hx hb hown (hU.use w_2008) dX12_sum_70 ?_
      refine lv_lload_n hx hb dX12_sum_73 rfl (lv_at hl 2 rfl) ?_
      refine lv_lmul hx hb dX12_sum_74 ?_
      refine lv_iload hx hb dX12_sum_75 (lv_at hl 0 rfl) ?_
      refine lv_i2l (v := (wS y3 y5.toNatClampNeg).toInt64) hx hb dX12_sum_77 rfl ?_
      refine lv_ladd hx hb dX12_sum_78 ?_
      refine lv_topl (fun v16 ev16 => ?_)
      have hw := hw v16 ev16
      refine lv_lstore_n (lv' := [(1, .long v16), (6, .int (wS y3 y5.toNatClampNeg)), (0, .ref y0), (3, .ref y3), (4, .int y4), (5, .int y5)]) hx hb dX12_sum_79 rfl hl (by decide) rfl (fun ls hl => ?_)
      refine lv_iinc (lv' := [(5, .int (y5 + 1)), (1, .long v16), (6, .int (wS y3 y5.toNatClampNeg)), (0, .ref y0), (3, .ref y3), (4, .int y4)]) hx hb dX12_sum_80 hl (k := 5) rfl (by rfl) (by decide) rfl (fun ls hl => ?_)
      refine lv_goto (tgt := 57) hx hb dX12_sum_83 (by decide) ?_
      exact ih y0 v16 y3 y4 (y5 + 1) tS nS rS wS bS sS _ _ _ _ _ _ hw hB hky0 hky3 hAS hAF hX hc hs hS (lv_sub hl [3, 1, 4, 5, 0] rfl)
def wp_X12_sum_6 (post : Int64 → (Nat → Nat) → (Nat → Nat) → (Nat → Nat → Nat) → Dt → Prop)   : Nat → (Nat) → (Int64) → (Int32) → (Nat → Nat) → (Nat → Nat) → (Nat → Nat → Nat) → (Dt) → (Nat) → (Nat) → Prop
  | 0, _, _, _, _, _, _, _, _, _ => False
  | n9 + 1, y0, y1, y3, tS, nS, rS, wS, bS, sS => (10 ≤ y3 → ∃ k9 : Nat, wp_X12_sum_57 post   k9 y0 y1 (rS y0 5) (nI 12) 0 tS nS rS wS bS sS) ∧ (¬ 10 ≤ y3 → vp_in y3 10 ∧ (∀ v19 : Int64, v19 = ((31 * y1) + (wS (rS y0 0) y3.toNatClampNeg).toInt64) → (wp_X12_weight (fun r20 => ∀ v21 : Int64, v21 = ((31 * v19) + r20.toInt64) → (wp_X12_sum_6 post   n9 y0 v21 (y3 + 1) tS nS rS wS bS sS)) tS nS rS wS y0 y3)))
set_option maxHeartbeats 4000000 in
set_option maxRecDepth 100000 in
theorem t_X12_sum_6 : ∀ {p : Program} {l : Launch} {e : Env} {s : State} {m : MethodId} {args : Array Value} {below : List Frame} {meth : Method} {c : Code} {D : va_G} {tc : Nat → ClassId} {h0 : Nat} {sa : Nat → Nat} {Am : Nat → Prop} {b0 s0 : Nat} {t0 : Nat → Nat} {post : Int64 → (Nat → Nat) → (Nat → Nat) → (Nat → Nat → Nat) → Dt → Prop}   (X : Cx p c s m meth cX12_sum 7 RX12 D tc) (hr : meth.sig.returnType = (Option.some FieldType.long)) (hT : ST h0 sa s s.heap) (hA0 : ∀ q, Am q → h0 ≤ q) (hAm9 : ∀ x, s.heap.size ≤ x → Am x)  (n9 : Nat), ∀ (y0 : Nat) (y1 : Int64) (y3 : Int32) (tS : Nat → Nat) (nS : Nat → Nat) (rS : Nat → Nat → Nat) (wS : Dt) (bS : Nat) (sS : Nat) (H : Heap) (locs : List Loc) (ls : Array Slot) (AS : Nat → Prop) (cells slots : Nat), wp_X12_sum_6 post   n9 y0 y1 y3 tS nS rS wS bS sS → SB D tc (sa 3) AS tS nS rS wS H → (tS y0 = 4) → (∀ x, AS x → Am x) → (∀ x, H.size ≤ x → AS x) → Ext t0 tS → cells + bS ≤ b0 → slots + sS ≤ s0 → va_S Am s.heap H locs → lv_has ls 7 [(0, .ref y0), (1, .long y1), (3, .int y3)] → W p l e (rm_X12_sum b0 s0) s m args below meth c H locs cells slots (MQ below (QB (fun u : Int64 × (Nat → Nat) × (Nat → Nat) × (Nat → Nat → Nat) × Dt => post u.1 u.2.1 u.2.2.1 u.2.2.2.1 u.2.2.2.2) (fun (u : Int64 × (Nat → Nat) × (Nat → Nat) × (Nat → Nat → Nat) × Dt) (H1 : Heap) => SB D tc (sa 3) Am u.2.1 u.2.2.1 u.2.2.2.1 u.2.2.2.2 H1 ∧ Ext t0 u.2.1) (fun u : Int64 × (Nat → Nat) × (Nat → Nat) × (Nat → Nat → Nat) × Dt => some (.long u.1)) Am) args s (rm_X12_sum b0 s0).cells (rm_X12_sum b0 s0).slots Am) (F0 m 6 ls []) := by
  intro p l e s m args below meth c D tc h0 sa Am b0 s0 t0 post   X hr hT hA0 hAm9  n9
  have hx := X.1
  have hb := X.2.1
  have hown := X.2.2.2.1
  have hU := X.2.2.2.2.1.1
  induction n9 with
  | zero =>
    intro  y0 y1 y3 tS nS rS wS bS sS H locs ls AS cells slots hw
    exact hw.elim
  | succ n9 ih =>
    intro  y0 y1 y3 tS nS rS wS bS sS H locs ls AS cells slots hw hB hky0 hAS hAF hX hc hs hS hl
    unfold wp_X12_sum_6 at hw
    refine lv_iload_n hx hb dX12_sum_6 rfl (lv_at hl 2 rfl) ?_
    refine lv_bipush (v := 10) hx hb dX12_sum_7 (by decide) ?_
    refine lv_icmp_ge (tgt := 45) hx hb dX12_sum_9 (by decide) (fun c1 => ?_) (fun c1 => ?_)
    · have hw := hw.1 c1
      refine lv_aload_n hx hb dX12_sum_45 rfl (lv_at hl 0 rfl) ?_
      refine g_get X dX12_sum_46 f_X12_27 (hB.one (k := 4) hky0 rfl) 0 (v := .ref (rS y0 5)) rfl rfl ?_
      have k2 : tS (rS y0 5) = 22 := (hB.wtk hky0).2.2.2.1
      refine lv_astore_n (lv' := [(3, .ref (rS y0 5)), (0, .ref y0), (1, .long y1)]) hx hb dX12_sum_49 rfl hl (by decide) rfl (fun ls hl => ?_)
      refine lv_aload_n hx hb dX12_sum_50 rfl (lv_at hl 0 rfl) ?_
      refine g_alen X dX12_sum_51 (hB.one (k := 22) k2 rfl) 0 rfl rfl rfl ?_
      refine lv_istore (lv' := [(4, .int (nI 12)), (3, .ref (rS y0 5)), (0, .ref y0), (1, .long y1)]) hx hb dX12_sum_52 hl (by decide) rfl (fun ls hl => ?_)
      refine lv_iconst (v := 0) hx hb dX12_sum_54 (by decide) ?_
      refine lv_istore (lv' := [(5, .int 0), (4, .int (nI 12)), (3, .ref (rS y0 5)), (0, .ref y0), (1, .long y1)]) hx hb dX12_sum_55 hl (by decide) rfl (fun ls hl => ?_)
      obtain ⟨k9, hw⟩ := hw
      exact t_X12_sum_57 X hr hT hA0 hAm9  k9 y0 y1 (rS y0 5) (nI 12) 0 tS nS rS wS bS sS _ _ _ _ _ _ hw hB hky0 k2 hAS hAF hX hc hs hS (lv_sub hl [3, 4, 2, 1, 0] rfl)
    · have hw := hw.2 c1
      refine lv_ldc2 (v := 31) hx hb hown (hU.use w_2008) dX12_sum_12 ?_
      refine lv_lload_n hx hb dX12_sum_15 rfl (lv_at hl 1 rfl) ?_
      refine lv_lmul hx hb dX12_sum_16 ?_
      refine lv_aload_n hx hb dX12_sum_17 rfl (lv_at hl 0 rfl) ?_
      refine g_get X dX12_sum_18 f_X12_9 (hB.one (k := 4) hky0 rfl) 0 (v := .ref (rS y0 0)) rfl rfl ?_
      have k17 : tS (rS y0 0) = 1 := (hB.wtk hky0).1
      refine lv_iload_n hx hb dX12_sum_21 rfl (lv_at hl 2 rfl) ?_
      obtain ⟨o18, hw⟩ := hw
      refine g_iald X dX12_sum_22 (hB.one (k := 1) k17 rfl) 0 rfl o18 rfl ?_
      refine lv_i2l (v := (wS (rS y0 0) y3.toNatClampNeg).toInt64) hx hb dX12_sum_23 rfl ?_
      refine lv_ladd hx hb dX12_sum_24 ?_
      refine lv_topl (fun v19 ev19 => ?_)
      have hw := hw v19 ev19
      refine lv_lstore_n (lv' := [(1, .long v19), (0, .ref y0), (3, .int y3)]) hx hb dX12_sum_25 rfl hl (by decide) rfl (fun ls hl => ?_)
      refine lv_ldc2 (v := 31) hx hb hown (hU.use w_2008) dX12_sum_26 ?_
      refine lv_lload_n hx hb dX12_sum_29 rfl (lv_at hl 0 rfl) ?_
      refine lv_lmul hx hb dX12_sum_30 ?_
      refine lv_aload_n hx hb dX12_sum_31 rfl (lv_at hl 1 rfl) ?_
      refine lv_iload_n hx hb dX12_sum_32 rfl (lv_at hl 2 rfl) ?_
      refine g_after (st0 := [.int y3, .ref y0, .long (31 * v19)]) (rest := [.long (31 * v19)]) (g_V X m_X12_122 (c_X12_weight l D tc h0 sa y0 y3 _ hB hky0 hw) (recv1 X.2.2.2.2.1 rfl (hB.at (k := 4) hky0 rfl)) hT hS hA0 dX12_sum_33 hl.1 rfl rfl ⟨Nat.le_of_ble_eq_true rfl, Nat.le_of_ble_eq_true rfl⟩ (Nat.le_of_ble_eq_true rfl) ⟨show cells + 0 ≤ b0 by omega, show slots + 0 ≤ s0 by omega⟩) hS (fun _ h => h.elim) (fun u => .int u :: [.long (31 * v19)]) (fun _ => rfl) (fun u H9 locs hw hP9 hz9 hk9 hS => ?_)
      obtain ⟨r20, rfl⟩ : ∃ z, z = u := ⟨_, rfl⟩
      try dsimp only at hw hP9
      have e9 : H9 = _ := hP9
      rw [e9] at hS ⊢
      refine W.widen (k := cells) (n := slots) (Nat.le_refl _) (Nat.le_refl _) ?_
      refine lv_i2l (v := r20.toInt64) hx hb dX12_sum_36 rfl ?_
      refine lv_ladd hx hb dX12_sum_37 ?_
      refine lv_topl (fun v21 ev21 => ?_)
      have hw := hw v21 ev21
      refine lv_lstore_n (lv' := [(1, .long v21), (0, .ref y0), (3, .int y3)]) hx hb dX12_sum_38 rfl hl (by decide) rfl (fun ls hl => ?_)
      refine lv_iinc (lv' := [(3, .int (y3 + 1)), (1, .long v21), (0, .ref y0)]) hx hb dX12_sum_39 hl (k := 2) rfl (by rfl) (by decide) rfl (fun ls hl => ?_)
      refine lv_goto (tgt := 6) hx hb dX12_sum_42 (by decide) ?_
      exact ih y0 v21 (y3 + 1) tS nS rS wS bS sS _ _ _ _ _ _ hw hB hky0 hAS hAF hX hc hs hS (lv_sub hl [2, 1, 0] rfl)
def wp_X12_sum (post : Int64 → (Nat → Nat) → (Nat → Nat) → (Nat → Nat → Nat) → Dt → Prop)  (tS : Nat → Nat) (nS : Nat → Nat) (rS : Nat → Nat → Nat) (wS : Dt) (bS : Nat) (sS : Nat) (x0 : Nat) : Prop := ∃ k9 : Nat, wp_X12_sum_6 post   k9 x0 7 0 tS nS rS wS bS sS
set_option maxHeartbeats 4000000 in
set_option maxRecDepth 100000 in
theorem c_X12_sum (l : Launch) (D : va_G) (tc : Nat → ClassId) (h0 : Nat) (sa : Nat → Nat) (x0 : Nat) (b0 s0 : Nat) {Am : Nat → Prop} (H0 : Heap) {tS nS : Nat → Nat} {rS : Nat → Nat → Nat} {wS : Dt} (hB : SB D tc (sa 3) Am tS nS rS wS H0) (hkx0 : tS x0 = 4) (hA0 : ∀ q, Am q → h0 ≤ q) (hAF : ∀ x, H0.size ≤ x → Am x) {post : Int64 → (Nat → Nat) → (Nat → Nat) → (Nat → Nat → Nat) → Dt → Prop} (hw : wp_X12_sum post  tS nS rS wS b0 s0 x0) : MB l yX12_sum cX12_sum 7 (Option.some FieldType.long) (rm_X12_sum b0 s0) Am [.ref x0] D tc h0 sa H0 (fun u : Int64 × (Nat → Nat) × (Nat → Nat) × (Nat → Nat → Nat) × Dt => post u.1 u.2.1 u.2.2.1 u.2.2.2.1 u.2.2.2.2) (fun (u : Int64 × (Nat → Nat) × (Nat → Nat) × (Nat → Nat → Nat) × Dt) (H1 : Heap) => SB D tc (sa 3) Am u.2.1 u.2.2.1 u.2.2.2.1 u.2.2.2.2 H1 ∧ Ext tS u.2.1) (fun u : Int64 × (Nat → Nat) × (Nat → Nat) × (Nat → Nat → Nat) × Dt => some (.long u.1)) := by
  refine MB.of RX12 [(0, .ref x0)] (by decide +kernel) rfl (Nat.le_of_ble_eq_true rfl) rfl ?_
  intro p e s m below meth c ls X hr hin hT hH hS hl
  subst hH
  have hx := X.1
  have hb := X.2.1
  have hown := X.2.2.2.1
  have hU := X.2.2.2.2.1.1
  unfold wp_X12_sum at hw
  obtain ⟨A, eA⟩ : ∃ z, z = Am := ⟨_, rfl⟩
  have hB : SB D tc (sa 3) A tS nS rS wS s.heap := by rw [eA]; exact hB
  have hAm9 := hAF
  have hAF : ∀ x, s.heap.size ≤ x → A x := by rw [eA]; exact hAF
  have hAS : ∀ x, A x → Am x := by rw [eA]; exact fun _ h => h
  have hX : Ext tS tS := Ext.rf
  obtain ⟨bS, ebS⟩ : ∃ z, z = b0 := ⟨_, rfl⟩
  obtain ⟨sS, esS⟩ : ∃ z, z = s0 := ⟨_, rfl⟩
  rw [← ebS, ← esS] at hw
  refine W_bud (b := bS) (s1 := sS) (B := b0) (S := s0) (show 0 + bS ≤ b0 by omega) (show 0 + sS ≤ s0 by omega) (fun cells slots hc hs => ?_)
  refine lv_ldc2 (v := 7) hx hb hown (hU.use w_2007) dX12_sum_0 ?_
  refine lv_lstore_n (lv' := [(1, .long 7), (0, .ref x0)]) hx hb dX12_sum_3 rfl hl (by decide) rfl (fun ls hl => ?_)
  refine lv_iconst (v := 0) hx hb dX12_sum_4 (by decide) ?_
  refine lv_istore_n (lv' := [(3, .int 0), (1, .long 7), (0, .ref x0)]) hx hb dX12_sum_5 rfl hl (by decide) rfl (fun ls hl => ?_)
  obtain ⟨k9, hw⟩ := hw
  exact t_X12_sum_6 X hr hT hA0 hAm9  k9 x0 7 0 tS nS rS wS bS sS _ _ _ _ _ _ hw hB hkx0 hAS hAF hX hc hs hS (lv_sub hl [2, 1, 0] rfl)
