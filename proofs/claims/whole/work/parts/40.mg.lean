/-! THE MODEL: probes, frames, saves -/
abbrev rm_X13_dropProbe (b0 s0 : Nat) : Room := { frames := 7, cells := b0, slots := s0, locals := 191 }
def wp_X13_dropProbe_79 (post : Int32 → (Nat → Nat) → (Nat → Nat) → (Nat → Nat → Nat) → Dt → Prop)   (tS : Nat → Nat) (nS : Nat → Nat) (rS : Nat → Nat → Nat) (wS : Dt) (bS : Nat) (sS : Nat) : Prop := post (-1) tS nS rS wS
set_option maxHeartbeats 4000000 in
set_option maxRecDepth 100000 in
theorem t_X13_dropProbe_79 : ∀ {p : Program} {l : Launch} {e : Env} {s : State} {m : MethodId} {args : Array Value} {below : List Frame} {meth : Method} {c : Code} {D : va_G} {tc : Nat → ClassId} {h0 : Nat} {sa : Nat → Nat} {Am : Nat → Prop} {b0 s0 : Nat} {t0 : Nat → Nat} {post : Int32 → (Nat → Nat) → (Nat → Nat) → (Nat → Nat → Nat) → Dt → Prop}   (X : Cx p c s m meth cX13_dropProbe 6 RX13 D tc) (hr : meth.sig.returnType = (Option.some FieldType.int)) (hT : ST h0 sa s s.heap) (hA0 : ∀ q, Am q → h0 ≤ q) (hAm9 : ∀ x, s.heap.size ≤ x → Am x) , ∀ (tS : Nat → Nat) (nS : Nat → Nat) (rS : Nat → Nat → Nat) (wS : Dt) (bS : Nat) (sS : Nat) (H : Heap) (locs : List Loc) (ls : Array Slot) (AS : Nat → Prop) (cells slots : Nat), wp_X13_dropProbe_79 post   tS nS rS wS bS sS → SB D tc (sa 3) AS tS nS rS wS H → (∀ x, AS x → Am x) → (∀ x, H.size ≤ x → AS x) → Ext t0 tS → cells + bS ≤ b0 → slots + sS ≤ s0 → va_S Am s.heap H locs → lv_has ls 6 [] → W p l e (rm_X13_dropProbe b0 s0) s m args below meth c H locs cells slots (MQ below (QB (fun u : Int32 × (Nat → Nat) × (Nat → Nat) × (Nat → Nat → Nat) × Dt => post u.1 u.2.1 u.2.2.1 u.2.2.2.1 u.2.2.2.2) (fun (u : Int32 × (Nat → Nat) × (Nat → Nat) × (Nat → Nat → Nat) × Dt) (H1 : Heap) => SB D tc (sa 3) Am u.2.1 u.2.2.1 u.2.2.2.1 u.2.2.2.2 H1 ∧ Ext t0 u.2.1) (fun u : Int32 × (Nat → Nat) × (Nat → Nat) × (Nat → Nat → Nat) × Dt => some (.int u.1)) Am) args s (rm_X13_dropProbe b0 s0).cells (rm_X13_dropProbe b0 s0).slots Am) (F0 m 79 ls []) := by
  intro p l e s m args below meth c D tc h0 sa Am b0 s0 t0 post   X hr hT hA0 hAm9   tS nS rS wS bS sS H locs ls AS cells slots hw hB  hAS hAF hX hc hs hS hl
  have hx := X.1
  have hb := X.2.1
  have hown := X.2.2.2.1
  have hU := X.2.2.2.2.1.1
  unfold wp_X13_dropProbe_79 at hw
  refine lv_iconst (v := (-1)) hx hb dX13_dropProbe_79 (by decide) ?_
  exact e_i X hr dX13_dropProbe_80 hS ((-1), tS, nS, rS, wS) rfl hw ⟨hB.regs hAS, hX⟩ ⟨show cells ≤ b0 by omega, show slots ≤ s0 by omega⟩
def wp_X13_dropProbe_72 (post : Int32 → (Nat → Nat) → (Nat → Nat) → (Nat → Nat → Nat) → Dt → Prop)   (y0 : Nat) (y1 : Int32) (y2 : Int32) (y3 : Int32) (y4 : Int32) (z0 : Int32) (z1 : Nat) (tS : Nat → Nat) (nS : Nat → Nat) (rS : Nat → Nat → Nat) (wS : Dt) (bS : Nat) (sS : Nat) : Prop := wp_X13_fails (fun r9 wS10 => (r9 = 0 → 3 ≤ bS ∧ (16 ≤ sS ∧ (∀ (q12 : Nat) (tS16 nS17 : Nat → Nat) (rS18 : Nat → Nat → Nat) (wS19 : Dt), NEW5 tS nS rS wS10 q12 tS16 nS17 rS18 wS19 → (∀ wS22 : Dt, wS22 = up2 wS19 q12 0 y1 → (∀ wS23 : Dt, wS23 = up2 wS22 q12 1 y2 → (∀ wS24 : Dt, wS24 = up2 wS23 q12 2 y3 → (narrow .boolean (.int y4) = .int y4 ∧ (fits .boolean (.int y4) = true ∧ (∀ wS27 : Dt, wS27 = up2 wS24 q12 3 y4 → (nS17 (rS18 y0 3) < 400 ∧ (1 ≤ (bS - 3) ∧ ((2 * (nS17 (rS18 y0 3)) + 10) ≤ (sS - 16) ∧ (∀ nS32 : Nat → Nat, nS32 = va_up nS17 (rS18 y0 3) (nS17 (rS18 y0 3) + 1) → (∀ rS33 : Nat → Nat → Nat, rS33 = va_up rS18 (rS18 y0 3) (va_up (rS18 (rS18 y0 3)) (nS17 (rS18 y0 3)) q12) → (∀ wS34 : Dt, wS34 = up2 wS27 (rS18 y0 3) 0 (wS27 (rS18 y0 3) 0 + 1) → (post ((nI (nS32 (rS33 y0 3))) - 1) tS16 nS32 rS33 wS34)))))))))))))))) ∧ (¬ r9 = 0 → wp_X13_dropProbe_79 post   tS nS rS wS10 bS sS)) tS nS rS wS z1 z0 2
set_option maxHeartbeats 4000000 in
set_option maxRecDepth 100000 in
theorem t_X13_dropProbe_72 : ∀ {p : Program} {l : Launch} {e : Env} {s : State} {m : MethodId} {args : Array Value} {below : List Frame} {meth : Method} {c : Code} {D : va_G} {tc : Nat → ClassId} {h0 : Nat} {sa : Nat → Nat} {Am : Nat → Prop} {b0 s0 : Nat} {t0 : Nat → Nat} {post : Int32 → (Nat → Nat) → (Nat → Nat) → (Nat → Nat → Nat) → Dt → Prop}   (X : Cx p c s m meth cX13_dropProbe 6 RX13 D tc) (hr : meth.sig.returnType = (Option.some FieldType.int)) (hT : ST h0 sa s s.heap) (hA0 : ∀ q, Am q → h0 ≤ q) (hAm9 : ∀ x, s.heap.size ≤ x → Am x) , ∀ (y0 : Nat) (y1 : Int32) (y2 : Int32) (y3 : Int32) (y4 : Int32) (z0 : Int32) (z1 : Nat) (tS : Nat → Nat) (nS : Nat → Nat) (rS : Nat → Nat → Nat) (wS : Dt) (bS : Nat) (sS : Nat) (H : Heap) (locs : List Loc) (ls : Array Slot) (AS : Nat → Prop) (cells slots : Nat), wp_X13_dropProbe_72 post   y0 y1 y2 y3 y4 z0 z1 tS nS rS wS bS sS → SB D tc (sa 3) AS tS nS rS wS H → (tS y0 = 7) → (tS z1 = 7) → (∀ x, AS x → Am x) → (∀ x, H.size ≤ x → AS x) → Ext t0 tS → cells + bS ≤ b0 → slots + sS ≤ s0 → va_S Am s.heap H locs → lv_has ls 6 [(0, .ref y0), (1, .int y1), (2, .int y2), (3, .int y3), (4, .int y4)] → W p l e (rm_X13_dropProbe b0 s0) s m args below meth c H locs cells slots (MQ below (QB (fun u : Int32 × (Nat → Nat) × (Nat → Nat) × (Nat → Nat → Nat) × Dt => post u.1 u.2.1 u.2.2.1 u.2.2.2.1 u.2.2.2.2) (fun (u : Int32 × (Nat → Nat) × (Nat → Nat) × (Nat → Nat → Nat) × Dt) (H1 : Heap) => SB D tc (sa 3) Am u.2.1 u.2.2.1 u.2.2.2.1 u.2.2.2.2 H1 ∧ Ext t0 u.2.1) (fun u : Int32 × (Nat → Nat) × (Nat → Nat) × (Nat → Nat → Nat) × Dt => some (.int u.1)) Am) args s (rm_X13_dropProbe b0 s0).cells (rm_X13_dropProbe b0 s0).slots Am) (F0 m 72 ls [.int z0, .ref z1]) := by
  intro p l e s m args below meth c D tc h0 sa Am b0 s0 t0 post   X hr hT hA0 hAm9   y0 y1 y2 y3 y4 z0 z1 tS nS rS wS bS sS H locs ls AS cells slots hw hB hky0 hkz1 hAS hAF hX hc hs hS hl
  have hx := X.1
  have hb := X.2.1
  have hown := X.2.2.2.1
  have hU := X.2.2.2.2.1.1
  unfold wp_X13_dropProbe_72 at hw
  refine lv_iconst (v := 2) hx hb dX13_dropProbe_72 (by decide) ?_
  refine g_after (st0 := [.int 2, .int z0, .ref z1]) (rest := []) (g_V X m_X13_57 (c_X13_fails l D tc h0 sa z1 z0 2 _ hB hkz1 (fun x h => hA0 x (hAS x h)) hw) (recv1 X.2.2.2.2.1 rfl (hB.at (k := 7) hkz1 rfl)) hT hS hA0 dX13_dropProbe_73 hl.1 rfl rfl ⟨Nat.le_of_ble_eq_true rfl, Nat.le_of_ble_eq_true rfl⟩ (Nat.le_of_ble_eq_true rfl) ⟨show cells + 0 ≤ b0 by omega, show slots + 0 ≤ s0 by omega⟩) hS hAS (fun u => .int u.1 :: []) (fun _ => rfl) (fun u H locs hw hP9 hz9 hk9 hS => ?_)
  obtain ⟨r9, wS10⟩ := u
  try dsimp only at hw hP9
  have hB := hP9
  have hAF : ∀ x, H.size ≤ x → AS x := fun x h => hAF x (by omega)
  refine W.widen (k := cells) (n := slots) (Nat.le_refl _) (Nat.le_refl _) ?_
  refine lv_if_eq (tgt := 81) hx hb dX13_dropProbe_76 (by decide) (fun c11 => ?_) (fun c11 => ?_)
  · have hw := hw.1 c11
    obtain ⟨o13, hw⟩ := hw
    obtain ⟨o14, hw⟩ := hw
    refine x_new (A := Am) X nw_X13_220 (fs := [.int 0, .int 0, .int 0, .int 0, .int 0, .int 0, .int 0, .int 0, .null, .null]) (fun j hj => by rcases (show j = 0 ∨ j = 1 ∨ j = 2 ∨ j = 3 ∨ j = 4 ∨ j = 5 ∨ j = 6 ∨ j = 7 ∨ j = 8 ∨ j = 9 by omega) with e | e | e | e | e | e | e | e | e | e <;> subst e <;> rfl) hS hAm9 ⟨show cells + 1 ≤ b0 by omega, show slots + 10 ≤ s0 by omega⟩ dX13_dropProbe_81 (fun q12 H hq9 hat9 hAq hz9 hqz o1 hS => ?_)
    refine lv_dup hx hb dX13_dropProbe_84 rfl ?_
    refine g_after (st0 := .ref q12 :: [.ref q12]) (rest := [.ref q12]) (g_IN X m_X13_222 (c_in5 l D tc h0 sa _ q12 hat9 (hA0 _ hAq) (fun x h => hA0 x (hAm9 x (Nat.le_trans hS.1 h)))) hT hS hA0 dX13_dropProbe_85 hl.1 rfl rfl ⟨Nat.le_of_ble_eq_true rfl, Nat.le_of_ble_eq_true rfl⟩ (Nat.le_of_ble_eq_true rfl) ⟨show (cells + 1) + 2 ≤ b0 by omega, show (slots + 10) + 6 ≤ s0 by omega⟩) hS (fun x h => h.elim (fun e => e ▸ hAq) (fun h => hAm9 x (Nat.le_trans hS.1 h))) (fun u => [.ref q12]) (fun _ => rfl) (fun u H locs hu hP9 hz8 hk9 hS => ?_)
    have o2 := fun x hx => (hk9 x (by omega) (fun h => h.elim (fun e => by omega) (fun h => by omega))).trans (o1 x hx)
    obtain ⟨tS16, nS17, rS18, wS19, hB, z20, hX9, k15⟩ := hB.make5 (hAF q12 hq9) hAF hq9 o2 hP9 (by omega)
    have hAF : ∀ x, H.size ≤ x → AS x := fun x h => hAF x (by omega)
    have hw := hw q12 tS16 nS17 rS18 wS19 z20
    have hX := hX.trans hX9
    have k21 : tS16 y0 = 7 := hX9.to hky0
    refine W_bud (b := (bS - 3)) (s1 := (sS - 16)) (B := b0) (S := s0) (show (cells + 1 + 2) + (bS - 3) ≤ b0 by omega) (show (slots + 10 + 6) + (sS - 16) ≤ s0 by omega) (fun cells slots hc hs => ?_)
    refine lv_astore (lv' := [(5, .ref q12), (0, .ref y0), (1, .int y1), (2, .int y2), (3, .int y3), (4, .int y4)]) hx hb dX13_dropProbe_88 hl (by decide) rfl (fun ls hl => ?_)
    refine lv_aload hx hb dX13_dropProbe_90 (lv_at hl 0 rfl) ?_
    refine lv_iload_n hx hb dX13_dropProbe_92 rfl (lv_at hl 2 rfl) ?_
    refine g_putiN X dX13_dropProbe_93 f_X13_223 (hB.oneB (k := 5) hAS k15 rfl) hS (x := y1) rfl rfl rfl (fun H locs hb9 oq hS => ?_)
    have hB := hB.putB k15 rfl hb9 oq
    have hAF : ∀ x, H.size ≤ x → AS x := fun x h => hAF x (Nat.le_trans (sz_of oq (hB.lt (by rw [k15]; decide)).1) h)
    obtain ⟨wS22, ewS22⟩ : ∃ z : Dt, z = up2 wS19 q12 0 y1 := ⟨_, rfl⟩
    rw [← ewS22] at hB
    have hw := hw wS22 ewS22
    refine lv_aload hx hb dX13_dropProbe_96 (lv_at hl 0 rfl) ?_
    refine lv_iload_n hx hb dX13_dropProbe_98 rfl (lv_at hl 3 rfl) ?_
    refine g_putiN X dX13_dropProbe_99 f_X13_226 (hB.oneB (k := 5) hAS k15 rfl) hS (x := y2) rfl rfl rfl (fun H locs hb9 oq hS => ?_)
    have hB := hB.putB k15 rfl hb9 oq
    have hAF : ∀ x, H.size ≤ x → AS x := fun x h => hAF x (Nat.le_trans (sz_of oq (hB.lt (by rw [k15]; decide)).1) h)
    obtain ⟨wS23, ewS23⟩ : ∃ z : Dt, z = up2 wS22 q12 1 y2 := ⟨_, rfl⟩
    rw [← ewS23] at hB
    have hw := hw wS23 ewS23
    refine lv_aload hx hb dX13_dropProbe_102 (lv_at hl 0 rfl) ?_
    refine lv_iload_n hx hb dX13_dropProbe_104 rfl (lv_at hl 4 rfl) ?_
    refine g_putiN X dX13_dropProbe_105 f_X13_229 (hB.oneB (k := 5) hAS k15 rfl) hS (x := y3) rfl rfl rfl (fun H locs hb9 oq hS => ?_)
    have hB := hB.putB k15 rfl hb9 oq
    have hAF : ∀ x, H.size ≤ x → AS x := fun x h => hAF x (Nat.le_trans (sz_of oq (hB.lt (by rw [k15]; decide)).1) h)
    obtain ⟨wS24, ewS24⟩ : ∃ z : Dt, z = up2 wS23 q12 2 y3 := ⟨_, rfl⟩
    rw [← ewS24] at hB
    have hw := hw wS24 ewS24
    refine lv_aload hx hb dX13_dropProbe_108 (lv_at hl 0 rfl) ?_
    refine lv_iload hx hb dX13_dropProbe_110 (lv_at hl 5 rfl) ?_
    obtain ⟨o25, hw⟩ := hw
    obtain ⟨o26, hw⟩ := hw
    refine g_putiN X dX13_dropProbe_112 f_X13_232 (hB.oneB (k := 5) hAS k15 rfl) hS (x := y4) rfl o25 o26 (fun H locs hb9 oq hS => ?_)
    have hB := hB.putB k15 rfl hb9 oq
    have hAF : ∀ x, H.size ≤ x → AS x := fun x h => hAF x (Nat.le_trans (sz_of oq (hB.lt (by rw [k15]; decide)).1) h)
    obtain ⟨wS27, ewS27⟩ : ∃ z : Dt, z = up2 wS24 q12 3 y4 := ⟨_, rfl⟩
    rw [← ewS27] at hB
    have hw := hw wS27 ewS27
    refine lv_aload_n hx hb dX13_dropProbe_115 rfl (lv_at hl 1 rfl) ?_
    refine g_get X dX13_dropProbe_116 f_X13_45 (hB.one (k := 7) k21 rfl) 0 (v := .ref (rS18 y0 3)) rfl rfl ?_
    have k28 : tS16 (rS18 y0 3) = 11 := (hB.wtk k21).2.2.1
    refine lv_aload hx hb dX13_dropProbe_119 (lv_at hl 0 rfl) ?_
    obtain ⟨fs9, hat9⟩ := hB.lat (isL_of k28)
    obtain ⟨o29, hw⟩ := hw
    obtain ⟨o30, hw⟩ := hw
    obtain ⟨o31, hw⟩ := hw
    refine g_after5 (st0 := [.ref q12, .ref (rS18 y0 3)]) (rest := []) (g_F X mf_X13_142 (c_add l D tc h0 sa _ (rS18 y0 3) q12 hB (isL_of k28) (by rw [k28, k15]; rfl) o29 (fun x h => hA0 x (hAS x h)) hAF) rfl hat9 hT hS hA0 dX13_dropProbe_121 hl.1 rfl rfl ⟨Nat.le_of_ble_eq_true rfl, Nat.le_of_ble_eq_true rfl⟩ (Nat.le_of_ble_eq_true rfl) ⟨show cells + 1 ≤ b0 by omega, show slots + (2 * (nS17 (rS18 y0 3)) + 10) ≤ s0 by omega⟩) hS hAS (fun u => .int 1 :: []) (fun _ => rfl) (fun u H locs hu hP9 hz9 hk9 hS => ?_)
    have hB := hP9
    have hAF : ∀ x, H.size ≤ x → AS x := fun x h => hAF x (by omega)
    refine W_bud (b := ((bS - 3) - 1)) (s1 := ((sS - 16) - (2 * (nS17 (rS18 y0 3)) + 10))) (B := b0) (S := s0) (show (cells + 1) + ((bS - 3) - 1) ≤ b0 by omega) (show (slots + (2 * (nS17 (rS18 y0 3)) + 10)) + ((sS - 16) - (2 * (nS17 (rS18 y0 3)) + 10)) ≤ s0 by omega) (fun cells slots hc hs => ?_)
    obtain ⟨nS32, enS32⟩ : ∃ z : Nat → Nat, z = va_up nS17 (rS18 y0 3) (nS17 (rS18 y0 3) + 1) := ⟨_, rfl⟩
    rw [← enS32] at hB
    have hw := hw nS32 enS32
    obtain ⟨rS33, erS33⟩ : ∃ z : Nat → Nat → Nat, z = va_up rS18 (rS18 y0 3) (va_up (rS18 (rS18 y0 3)) (nS17 (rS18 y0 3)) q12) := ⟨_, rfl⟩
    rw [← erS33] at hB
    have hw := hw rS33 erS33
    obtain ⟨wS34, ewS34⟩ : ∃ z : Dt, z = up2 wS27 (rS18 y0 3) 0 (wS27 (rS18 y0 3) 0 + 1) := ⟨_, rfl⟩
    rw [← ewS34] at hB
    have hw := hw wS34 ewS34
    refine lv_pop hx hb dX13_dropProbe_126 rfl ?_
    refine lv_aload_n hx hb dX13_dropProbe_127 rfl (lv_at hl 1 rfl) ?_
    refine g_get X dX13_dropProbe_128 f_X13_45 (hB.one (k := 7) k21 rfl) 0 (v := .ref (rS33 y0 3)) rfl rfl ?_
    have k35 : tS16 (rS33 y0 3) = 11 := (hB.wtk k21).2.2.1
    obtain ⟨fs9, hat9⟩ := hB.lat (isL_of k35)
    refine g_after5 (st0 := [.ref (rS33 y0 3)]) (rest := []) (g_F X mf_X13_7 (c_size l D tc h0 sa _ (rS33 y0 3) hB (isL_of k35)) rfl hat9 hT hS hA0 dX13_dropProbe_131 hl.1 rfl rfl ⟨Nat.le_of_ble_eq_true rfl, Nat.le_of_ble_eq_true rfl⟩ (Nat.le_of_ble_eq_true rfl) ⟨show cells + 0 ≤ b0 by omega, show slots + 0 ≤ s0 by omega⟩) hS (fun _ h => h.elim) (fun u => .int (nI (nS32 (rS33 y0 3))) :: []) (fun _ => rfl) (fun u H9 locs hu hP9 hz9 hk9 hS => ?_)
    have e9 : H9 = _ := hP9
    rw [e9] at hS ⊢
    refine W.widen (k := cells) (n := slots) (Nat.le_refl _) (Nat.le_refl _) ?_
    refine lv_iconst (v := 1) hx hb dX13_dropProbe_136 (by decide) ?_
    refine lv_isub hx hb dX13_dropProbe_137 ?_
    exact e_i X hr dX13_dropProbe_138 hS (((nI (nS32 (rS33 y0 3))) - 1), tS16, nS32, rS33, wS34) rfl hw ⟨hB.regs hAS, hX⟩ ⟨show cells ≤ b0 by omega, show slots ≤ s0 by omega⟩
  · have hw := hw.2 c11
    exact t_X13_dropProbe_79 X hr hT hA0 hAm9  tS nS rS wS10 bS sS _ _ _ _ _ _ hw hB  hAS hAF hX hc hs hS (lv_sub hl [] rfl)
def wp_X13_dropProbe_46 (post : Int32 → (Nat → Nat) → (Nat → Nat) → (Nat → Nat → Nat) → Dt → Prop)   (y0 : Nat) (y1 : Int32) (y2 : Int32) (y3 : Int32) (y4 : Int32) (z0 : Int32) (z1 : Nat) (tS : Nat → Nat) (nS : Nat → Nat) (rS : Nat → Nat → Nat) (wS : Dt) (bS : Nat) (sS : Nat) : Prop := wp_X13_fails (fun r4 wS5 => (¬ r4 = 0 → wp_X13_dropProbe_79 post   tS nS rS wS5 bS sS) ∧ (r4 = 0 → (¬ (nI (nS (rS y0 3))) = 4 → wp_X13_dropProbe_72 post   y0 y1 y2 y3 y4 0 y0 tS nS rS wS5 bS sS) ∧ ((nI (nS (rS y0 3))) = 4 → wp_X13_dropProbe_72 post   y0 y1 y2 y3 y4 1 y0 tS nS rS wS5 bS sS))) tS nS rS wS z1 z0 1
set_option maxHeartbeats 4000000 in
set_option maxRecDepth 100000 in
theorem t_X13_dropProbe_46 : ∀ {p : Program} {l : Launch} {e : Env} {s : State} {m : MethodId} {args : Array Value} {below : List Frame} {meth : Method} {c : Code} {D : va_G} {tc : Nat → ClassId} {h0 : Nat} {sa : Nat → Nat} {Am : Nat → Prop} {b0 s0 : Nat} {t0 : Nat → Nat} {post : Int32 → (Nat → Nat) → (Nat → Nat) → (Nat → Nat → Nat) → Dt → Prop}   (X : Cx p c s m meth cX13_dropProbe 6 RX13 D tc) (hr : meth.sig.returnType = (Option.some FieldType.int)) (hT : ST h0 sa s s.heap) (hA0 : ∀ q, Am q → h0 ≤ q) (hAm9 : ∀ x, s.heap.size ≤ x → Am x) , ∀ (y0 : Nat) (y1 : Int32) (y2 : Int32) (y3 : Int32) (y4 : Int32) (z0 : Int32) (z1 : Nat) (tS : Nat → Nat) (nS : Nat → Nat) (rS : Nat → Nat → Nat) (wS : Dt) (bS : Nat) (sS : Nat) (H : Heap) (locs : List Loc) (ls : Array Slot) (AS : Nat → Prop) (cells slots : Nat), wp_X13_dropProbe_46 post   y0 y1 y2 y3 y4 z0 z1 tS nS rS wS bS sS → SB D tc (sa 3) AS tS nS rS wS H → (tS y0 = 7) → (tS z1 = 7) → (∀ x, AS x → Am x) → (∀ x, H.size ≤ x → AS x) → Ext t0 tS → cells + bS ≤ b0 → slots + sS ≤ s0 → va_S Am s.heap H locs → lv_has ls 6 [(0, .ref y0), (1, .int y1), (2, .int y2), (3, .int y3), (4, .int y4)] → W p l e (rm_X13_dropProbe b0 s0) s m args below meth c H locs cells slots (MQ below (QB (fun u : Int32 × (Nat → Nat) × (Nat → Nat) × (Nat → Nat → Nat) × Dt => post u.1 u.2.1 u.2.2.1 u.2.2.2.1 u.2.2.2.2) (fun (u : Int32 × (Nat → Nat) × (Nat → Nat) × (Nat → Nat → Nat) × Dt) (H1 : Heap) => SB D tc (sa 3) Am u.2.1 u.2.2.1 u.2.2.2.1 u.2.2.2.2 H1 ∧ Ext t0 u.2.1) (fun u : Int32 × (Nat → Nat) × (Nat → Nat) × (Nat → Nat → Nat) × Dt => some (.int u.1)) Am) args s (rm_X13_dropProbe b0 s0).cells (rm_X13_dropProbe b0 s0).slots Am) (F0 m 46 ls [.int z0, .ref z1]) := by
  intro p l e s m args below meth c D tc h0 sa Am b0 s0 t0 post   X hr hT hA0 hAm9   y0 y1 y2 y3 y4 z0 z1 tS nS rS wS bS sS H locs ls AS cells slots hw hB hky0 hkz1 hAS hAF hX hc hs hS hl
  have hx := X.1
  have hb := X.2.1
  have hown := X.2.2.2.1
  have hU := X.2.2.2.2.1.1
  unfold wp_X13_dropProbe_46 at hw
  refine lv_iconst (v := 1) hx hb dX13_dropProbe_46 (by decide) ?_
  refine g_after (st0 := [.int 1, .int z0, .ref z1]) (rest := []) (g_V X m_X13_57 (c_X13_fails l D tc h0 sa z1 z0 1 _ hB hkz1 (fun x h => hA0 x (hAS x h)) hw) (recv1 X.2.2.2.2.1 rfl (hB.at (k := 7) hkz1 rfl)) hT hS hA0 dX13_dropProbe_47 hl.1 rfl rfl ⟨Nat.le_of_ble_eq_true rfl, Nat.le_of_ble_eq_true rfl⟩ (Nat.le_of_ble_eq_true rfl) ⟨show cells + 0 ≤ b0 by omega, show slots + 0 ≤ s0 by omega⟩) hS hAS (fun u => .int u.1 :: []) (fun _ => rfl) (fun u H locs hw hP9 hz9 hk9 hS => ?_)
  obtain ⟨r4, wS5⟩ := u
  try dsimp only at hw hP9
  have hB := hP9
  have hAF : ∀ x, H.size ≤ x → AS x := fun x h => hAF x (by omega)
  refine W.widen (k := cells) (n := slots) (Nat.le_refl _) (Nat.le_refl _) ?_
  refine lv_if_ne (tgt := 79) hx hb dX13_dropProbe_50 (by decide) (fun c6 => ?_) (fun c6 => ?_)
  · have hw := hw.1 c6
    exact t_X13_dropProbe_79 X hr hT hA0 hAm9  tS nS rS wS5 bS sS _ _ _ _ _ _ hw hB  hAS hAF hX hc hs hS (lv_sub hl [] rfl)
  · have hw := hw.2 c6
    refine lv_aload_n hx hb dX13_dropProbe_53 rfl (lv_at hl 0 rfl) ?_
    refine lv_aload_n hx hb dX13_dropProbe_54 rfl (lv_at hl 0 rfl) ?_
    refine g_get X dX13_dropProbe_55 f_X13_45 (hB.one (k := 7) hky0 rfl) 0 (v := .ref (rS y0 3)) rfl rfl ?_
    have k7 : tS (rS y0 3) = 11 := (hB.wtk hky0).2.2.1
    obtain ⟨fs9, hat9⟩ := hB.lat (isL_of k7)
    refine g_after5 (st0 := [.ref (rS y0 3), .ref y0]) (rest := [.ref y0]) (g_F X mf_X13_7 (c_size l D tc h0 sa _ (rS y0 3) hB (isL_of k7)) rfl hat9 hT hS hA0 dX13_dropProbe_58 hl.1 rfl rfl ⟨Nat.le_of_ble_eq_true rfl, Nat.le_of_ble_eq_true rfl⟩ (Nat.le_of_ble_eq_true rfl) ⟨show cells + 0 ≤ b0 by omega, show slots + 0 ≤ s0 by omega⟩) hS (fun _ h => h.elim) (fun u => .int (nI (nS (rS y0 3))) :: [.ref y0]) (fun _ => rfl) (fun u H9 locs hu hP9 hz9 hk9 hS => ?_)
    have e9 : H9 = _ := hP9
    rw [e9] at hS ⊢
    refine W.widen (k := cells) (n := slots) (Nat.le_refl _) (Nat.le_refl _) ?_
    refine lv_iconst (v := 4) hx hb dX13_dropProbe_63 (by decide) ?_
    refine lv_icmp_ne (tgt := 71) hx hb dX13_dropProbe_64 (by decide) (fun c8 => ?_) (fun c8 => ?_)
    · have hw := hw.1 c8
      refine lv_iconst (v := 0) hx hb dX13_dropProbe_71 (by decide) ?_
      exact t_X13_dropProbe_72 X hr hT hA0 hAm9  y0 y1 y2 y3 y4 0 y0 tS nS rS wS5 bS sS _ _ _ _ _ _ hw hB hky0 hky0 hAS hAF hX hc hs hS (lv_sub hl [0, 1, 2, 3, 4] rfl)
    · have hw := hw.2 c8
      refine lv_iconst (v := 1) hx hb dX13_dropProbe_67 (by decide) ?_
      refine lv_goto (tgt := 72) hx hb dX13_dropProbe_68 (by decide) ?_
      exact t_X13_dropProbe_72 X hr hT hA0 hAm9  y0 y1 y2 y3 y4 1 y0 tS nS rS wS5 bS sS _ _ _ _ _ _ hw hB hky0 hky0 hAS hAF hX hc hs hS (lv_sub hl [0, 1, 2, 3, 4] rfl)
def wp_X13_dropProbe_41 (post : Int32 → (Nat → Nat) → (Nat → Nat) → (Nat → Nat → Nat) → Dt → Prop)   (y0 : Nat) (y1 : Int32) (y2 : Int32) (y3 : Int32) (y4 : Int32) (z0 : Nat) (tS : Nat → Nat) (nS : Nat → Nat) (rS : Nat → Nat → Nat) (wS : Dt) (bS : Nat) (sS : Nat) : Prop := wp_X13_dropProbe_46 post   y0 y1 y2 y3 y4 1 z0 tS nS rS wS bS sS
set_option maxHeartbeats 4000000 in
set_option maxRecDepth 100000 in
theorem t_X13_dropProbe_41 : ∀ {p : Program} {l : Launch} {e : Env} {s : State} {m : MethodId} {args : Array Value} {below : List Frame} {meth : Method} {c : Code} {D : va_G} {tc : Nat → ClassId} {h0 : Nat} {sa : Nat → Nat} {Am : Nat → Prop} {b0 s0 : Nat} {t0 : Nat → Nat} {post : Int32 → (Nat → Nat) → (Nat → Nat) → (Nat → Nat → Nat) → Dt → Prop}   (X : Cx p c s m meth cX13_dropProbe 6 RX13 D tc) (hr : meth.sig.returnType = (Option.some FieldType.int)) (hT : ST h0 sa s s.heap) (hA0 : ∀ q, Am q → h0 ≤ q) (hAm9 : ∀ x, s.heap.size ≤ x → Am x) , ∀ (y0 : Nat) (y1 : Int32) (y2 : Int32) (y3 : Int32) (y4 : Int32) (z0 : Nat) (tS : Nat → Nat) (nS : Nat → Nat) (rS : Nat → Nat → Nat) (wS : Dt) (bS : Nat) (sS : Nat) (H : Heap) (locs : List Loc) (ls : Array Slot) (AS : Nat → Prop) (cells slots : Nat), wp_X13_dropProbe_41 post   y0 y1 y2 y3 y4 z0 tS nS rS wS bS sS → SB D tc (sa 3) AS tS nS rS wS H → (tS y0 = 7) → (tS z0 = 7) → (∀ x, AS x → Am x) → (∀ x, H.size ≤ x → AS x) → Ext t0 tS → cells + bS ≤ b0 → slots + sS ≤ s0 → va_S Am s.heap H locs → lv_has ls 6 [(0, .ref y0), (1, .int y1), (2, .int y2), (3, .int y3), (4, .int y4)] → W p l e (rm_X13_dropProbe b0 s0) s m args below meth c H locs cells slots (MQ below (QB (fun u : Int32 × (Nat → Nat) × (Nat → Nat) × (Nat → Nat → Nat) × Dt => post u.1 u.2.1 u.2.2.1 u.2.2.2.1 u.2.2.2.2) (fun (u : Int32 × (Nat → Nat) × (Nat → Nat) × (Nat → Nat → Nat) × Dt) (H1 : Heap) => SB D tc (sa 3) Am u.2.1 u.2.2.1 u.2.2.2.1 u.2.2.2.2 H1 ∧ Ext t0 u.2.1) (fun u : Int32 × (Nat → Nat) × (Nat → Nat) × (Nat → Nat → Nat) × Dt => some (.int u.1)) Am) args s (rm_X13_dropProbe b0 s0).cells (rm_X13_dropProbe b0 s0).slots Am) (F0 m 41 ls [.ref z0]) := by
  intro p l e s m args below meth c D tc h0 sa Am b0 s0 t0 post   X hr hT hA0 hAm9   y0 y1 y2 y3 y4 z0 tS nS rS wS bS sS H locs ls AS cells slots hw hB hky0 hkz0 hAS hAF hX hc hs hS hl
  have hx := X.1
  have hb := X.2.1
  have hown := X.2.2.2.1
  have hU := X.2.2.2.2.1.1
  unfold wp_X13_dropProbe_41 at hw
  refine lv_iconst (v := 1) hx hb dX13_dropProbe_41 (by decide) ?_
  refine lv_goto (tgt := 46) hx hb dX13_dropProbe_42 (by decide) ?_
  exact t_X13_dropProbe_46 X hr hT hA0 hAm9  y0 y1 y2 y3 y4 1 z0 tS nS rS wS bS sS _ _ _ _ _ _ hw hB hky0 hkz0 hAS hAF hX hc hs hS (lv_sub hl [0, 1, 2, 3, 4] rfl)
def wp_X13_dropProbe (post : Int32 → (Nat → Nat) → (Nat → Nat) → (Nat → Nat → Nat) → Dt → Prop)  (tS : Nat → Nat) (nS : Nat → Nat) (rS : Nat → Nat → Nat) (wS : Dt) (bS : Nat) (sS : Nat) (x0 : Nat) (x1 : Int32) (x2 : Int32) (x3 : Int32) (x4 : Int32) : Prop := wp_X13_begins (fun wS1 => wp_X13_in (fun r2 => (r2 = 0 → wp_X13_dropProbe_41 post   x0 x1 x2 x3 x4 x0 tS nS rS wS1 bS sS) ∧ (¬ r2 = 0 → wp_X13_in (fun r36 => (r36 = 0 → wp_X13_dropProbe_41 post   x0 x1 x2 x3 x4 x0 tS nS rS wS1 bS sS) ∧ (¬ r36 = 0 → wp_X13_in (fun r38 => (¬ r38 = 0 → wp_X13_dropProbe_46 post   x0 x1 x2 x3 x4 0 x0 tS nS rS wS1 bS sS) ∧ (r38 = 0 → wp_X13_dropProbe_41 post   x0 x1 x2 x3 x4 x0 tS nS rS wS1 bS sS)) tS nS rS wS1 x3.toInt64 1 3)) tS nS rS wS1 x2.toInt64 1 60)) tS nS rS wS1 x1.toInt64 1 9) tS nS rS wS x0
set_option maxHeartbeats 4000000 in
set_option maxRecDepth 100000 in
theorem c_X13_dropProbe (l : Launch) (D : va_G) (tc : Nat → ClassId) (h0 : Nat) (sa : Nat → Nat) (x0 : Nat) (x1 : Int32) (x2 : Int32) (x3 : Int32) (x4 : Int32) (b0 s0 : Nat) {Am : Nat → Prop} (H0 : Heap) {tS nS : Nat → Nat} {rS : Nat → Nat → Nat} {wS : Dt} (hB : SB D tc (sa 3) Am tS nS rS wS H0) (hkx0 : tS x0 = 7) (hA0 : ∀ q, Am q → h0 ≤ q) (hAF : ∀ x, H0.size ≤ x → Am x) {post : Int32 → (Nat → Nat) → (Nat → Nat) → (Nat → Nat → Nat) → Dt → Prop} (hw : wp_X13_dropProbe post  tS nS rS wS b0 s0 x0 x1 x2 x3 x4) : MB l yX13_dropProbe cX13_dropProbe 6 (Option.some FieldType.int) (rm_X13_dropProbe b0 s0) Am [.ref x0, .int x1, .int x2, .int x3, .int x4] D tc h0 sa H0 (fun u : Int32 × (Nat → Nat) × (Nat → Nat) × (Nat → Nat → Nat) × Dt => post u.1 u.2.1 u.2.2.1 u.2.2.2.1 u.2.2.2.2) (fun (u : Int32 × (Nat → Nat) × (Nat → Nat) × (Nat → Nat → Nat) × Dt) (H1 : Heap) => SB D tc (sa 3) Am u.2.1 u.2.2.1 u.2.2.2.1 u.2.2.2.2 H1 ∧ Ext tS u.2.1) (fun u : Int32 × (Nat → Nat) × (Nat → Nat) × (Nat → Nat → Nat) × Dt => some (.int u.1)) := by
  refine MB.of RX13 [(0, .ref x0), (1, .int x1), (2, .int x2), (3, .int x3), (4, .int x4)] (by decide +kernel) rfl (Nat.le_of_ble_eq_true rfl) rfl ?_
  intro p e s m below meth c ls X hr hin hT hH hS hl
  subst hH
  have hx := X.1
  have hb := X.2.1
  have hown := X.2.2.2.1
  have hU := X.2.2.2.2.1.1
  unfold wp_X13_dropProbe at hw
  obtain ⟨A, eA⟩ : ∃ z, z = Am := ⟨_, rfl⟩
  have hB : SB D tc (sa 3) A tS nS rS wS s.heap := by rw [eA]; exact hB
  have hAm9 := hAF
  have hAF : ∀ x, s.heap.size ≤ x → A x := by rw [eA]; exact hAF
  have hAS : ∀ x, A x → Am x := by rw [eA]; exact fun _ h => h
  have hX : Ext tS tS := Ext.rf
  obtain ⟨bS, ebS⟩ : ∃ z, z = b0 := ⟨_, rfl⟩
  obtain ⟨sS, esS⟩ : ∃ z, z = s0 := ⟨_, rfl⟩
  rw [← ebS, ← esS] at hw
  refine W_bud (b := bS) (s1 := sS) (B := b0) (S := s0) (show 0 + bS ≤ b0 by omega) (show 0 + sS ≤ s0 by omega) (fun cells slots hc hs => ?_)
  refine lv_aload_n hx hb dX13_dropProbe_0 rfl (lv_at hl 0 rfl) ?_
  refine g_after (st0 := [.ref x0]) (rest := []) (g_V X m_X13_61 (c_X13_begins l D tc h0 sa x0 _ hB hkx0 (fun x h => hA0 x (hAS x h)) hw) (recv1 X.2.2.2.2.1 rfl (hB.at (k := 7) hkx0 rfl)) hT hS hA0 dX13_dropProbe_1 hl.1 rfl rfl ⟨Nat.le_of_ble_eq_true rfl, Nat.le_of_ble_eq_true rfl⟩ (Nat.le_of_ble_eq_true rfl) ⟨show cells + 0 ≤ b0 by omega, show slots + 0 ≤ s0 by omega⟩) hS hAS (fun u => []) (fun _ => rfl) (fun u H locs hw hP9 hz9 hk9 hS => ?_)
  obtain ⟨wS1, rfl⟩ : ∃ z, z = u := ⟨_, rfl⟩
  try dsimp only at hw hP9
  have hB := hP9
  have hAF : ∀ x, H.size ≤ x → A x := fun x h => hAF x (by omega)
  refine W.widen (k := cells) (n := slots) (Nat.le_refl _) (Nat.le_refl _) ?_
  refine lv_aload_n hx hb dX13_dropProbe_4 rfl (lv_at hl 0 rfl) ?_
  refine lv_iload_n hx hb dX13_dropProbe_5 rfl (lv_at hl 1 rfl) ?_
  refine lv_i2l (v := x1.toInt64) hx hb dX13_dropProbe_6 rfl ?_
  refine lv_lconst (v := 1) hx hb dX13_dropProbe_7 (by decide) ?_
  refine lv_ldc2 (v := 9) hx hb hown (hU.use w_1269) dX13_dropProbe_8 ?_
  refine g_after (st0 := [.long 9, .long 1, .long x1.toInt64, .ref x0]) (rest := [.ref x0]) (g_S X m_X13_13 (c_X13_in l D tc h0 sa x1.toInt64 1 9 _ hB  hw) hT hS hA0 dX13_dropProbe_11 hl.1 rfl rfl ⟨Nat.le_of_ble_eq_true rfl, Nat.le_of_ble_eq_true rfl⟩ (Nat.le_of_ble_eq_true rfl) ⟨show cells + 0 ≤ b0 by omega, show slots + 0 ≤ s0 by omega⟩) hS (fun _ h => h.elim) (fun u => .int u :: [.ref x0]) (fun _ => rfl) (fun u H9 locs hw hP9 hz9 hk9 hS => ?_)
  obtain ⟨r2, rfl⟩ : ∃ z, z = u := ⟨_, rfl⟩
  try dsimp only at hw hP9
  have e9 : H9 = _ := hP9
  rw [e9] at hS ⊢
  refine W.widen (k := cells) (n := slots) (Nat.le_refl _) (Nat.le_refl _) ?_
  refine lv_if_eq (tgt := 41) hx hb dX13_dropProbe_14 (by decide) (fun c3 => ?_) (fun c3 => ?_)
  · have hw := hw.1 c3
    exact t_X13_dropProbe_41 X hr hT hA0 hAm9  x0 x1 x2 x3 x4 x0 tS nS rS wS1 bS sS _ _ _ _ _ _ hw hB hkx0 hkx0 hAS hAF hX hc hs hS (lv_sub hl [0, 1, 2, 3, 4] rfl)
  · have hw := hw.2 c3
    refine lv_iload_n hx hb dX13_dropProbe_17 rfl (lv_at hl 2 rfl) ?_
    refine lv_i2l (v := x2.toInt64) hx hb dX13_dropProbe_18 rfl ?_
    refine lv_lconst (v := 1) hx hb dX13_dropProbe_19 (by decide) ?_
    refine lv_ldc2 (v := 60) hx hb hown (hU.use w_1751) dX13_dropProbe_20 ?_
    refine g_after (st0 := [.long 60, .long 1, .long x2.toInt64, .ref x0]) (rest := [.ref x0]) (g_S X m_X13_13 (c_X13_in l D tc h0 sa x2.toInt64 1 60 _ hB  hw) hT hS hA0 dX13_dropProbe_23 hl.1 rfl rfl ⟨Nat.le_of_ble_eq_true rfl, Nat.le_of_ble_eq_true rfl⟩ (Nat.le_of_ble_eq_true rfl) ⟨show cells + 0 ≤ b0 by omega, show slots + 0 ≤ s0 by omega⟩) hS (fun _ h => h.elim) (fun u => .int u :: [.ref x0]) (fun _ => rfl) (fun u H9 locs hw hP9 hz9 hk9 hS => ?_)
    obtain ⟨r36, rfl⟩ : ∃ z, z = u := ⟨_, rfl⟩
    try dsimp only at hw hP9
    have e9 : H9 = _ := hP9
    rw [e9] at hS ⊢
    refine W.widen (k := cells) (n := slots) (Nat.le_refl _) (Nat.le_refl _) ?_
    refine lv_if_eq (tgt := 41) hx hb dX13_dropProbe_26 (by decide) (fun c37 => ?_) (fun c37 => ?_)
    · have hw := hw.1 c37
      exact t_X13_dropProbe_41 X hr hT hA0 hAm9  x0 x1 x2 x3 x4 x0 tS nS rS wS1 bS sS _ _ _ _ _ _ hw hB hkx0 hkx0 hAS hAF hX hc hs hS (lv_sub hl [0, 1, 2, 3, 4] rfl)
    · have hw := hw.2 c37
      refine lv_iload_n hx hb dX13_dropProbe_29 rfl (lv_at hl 3 rfl) ?_
      refine lv_i2l (v := x3.toInt64) hx hb dX13_dropProbe_30 rfl ?_
      refine lv_lconst (v := 1) hx hb dX13_dropProbe_31 (by decide) ?_
      refine lv_ldc2 (v := 3) hx hb hown (hU.use w_1752) dX13_dropProbe_32 ?_
      refine g_after (st0 := [.long 3, .long 1, .long x3.toInt64, .ref x0]) (rest := [.ref x0]) (g_S X m_X13_13 (c_X13_in l D tc h0 sa x3.toInt64 1 3 _ hB  hw) hT hS hA0 dX13_dropProbe_35 hl.1 rfl rfl ⟨Nat.le_of_ble_eq_true rfl, Nat.le_of_ble_eq_true rfl⟩ (Nat.le_of_ble_eq_true rfl) ⟨show cells + 0 ≤ b0 by omega, show slots + 0 ≤ s0 by omega⟩) hS (fun _ h => h.elim) (fun u => .int u :: [.ref x0]) (fun _ => rfl) (fun u H9 locs hw hP9 hz9 hk9 hS => ?_)
      obtain ⟨r38, rfl⟩ : ∃ z, z = u := ⟨_, rfl⟩
      try dsimp only at hw hP9
      have e9 : H9 = _ := hP9
      rw [e9] at hS ⊢
      refine W.widen (k := cells) (n := slots) (Nat.le_refl _) (Nat.le_refl _) ?_
      refine lv_if_ne (tgt := 45) hx hb dX13_dropProbe_38 (by decide) (fun c39 => ?_) (fun c39 => ?_)
      · have hw := hw.1 c39
        refine lv_iconst (v := 0) hx hb dX13_dropProbe_45 (by decide) ?_
        exact t_X13_dropProbe_46 X hr hT hA0 hAm9  x0 x1 x2 x3 x4 0 x0 tS nS rS wS1 bS sS _ _ _ _ _ _ hw hB hkx0 hkx0 hAS hAF hX hc hs hS (lv_sub hl [0, 1, 2, 3, 4] rfl)
      · have hw := hw.2 c39
        exact t_X13_dropProbe_41 X hr hT hA0 hAm9  x0 x1 x2 x3 x4 x0 tS nS rS wS1 bS sS _ _ _ _ _ _ hw hB hkx0 hkx0 hAS hAF hX hc hs hS (lv_sub hl [0, 1, 2, 3, 4] rfl)
abbrev rm_X13_tick (b0 s0 : Nat) : Room := { frames := 7, cells := b0, slots := s0, locals := 191 }
def wp_X13_tick_36 (post : Int32 → (Nat → Nat) → (Nat → Nat) → (Nat → Nat → Nat) → Dt → Prop)   (tS : Nat → Nat) (nS : Nat → Nat) (rS : Nat → Nat → Nat) (wS : Dt) (bS : Nat) (sS : Nat) : Prop := post (-1) tS nS rS wS
set_option maxHeartbeats 4000000 in
set_option maxRecDepth 100000 in
theorem t_X13_tick_36 : ∀ {p : Program} {l : Launch} {e : Env} {s : State} {m : MethodId} {args : Array Value} {below : List Frame} {meth : Method} {c : Code} {D : va_G} {tc : Nat → ClassId} {h0 : Nat} {sa : Nat → Nat} {Am : Nat → Prop} {b0 s0 : Nat} {t0 : Nat → Nat} {post : Int32 → (Nat → Nat) → (Nat → Nat) → (Nat → Nat → Nat) → Dt → Prop}   (X : Cx p c s m meth cX13_tick 8 RX13 D tc) (hr : meth.sig.returnType = (Option.some FieldType.int)) (hT : ST h0 sa s s.heap) (hA0 : ∀ q, Am q → h0 ≤ q) (hAm9 : ∀ x, s.heap.size ≤ x → Am x) , ∀ (tS : Nat → Nat) (nS : Nat → Nat) (rS : Nat → Nat → Nat) (wS : Dt) (bS : Nat) (sS : Nat) (H : Heap) (locs : List Loc) (ls : Array Slot) (AS : Nat → Prop) (cells slots : Nat), wp_X13_tick_36 post   tS nS rS wS bS sS → SB D tc (sa 3) AS tS nS rS wS H → (∀ x, AS x → Am x) → (∀ x, H.size ≤ x → AS x) → Ext t0 tS → cells + bS ≤ b0 → slots + sS ≤ s0 → va_S Am s.heap H locs → lv_has ls 8 [] → W p l e (rm_X13_tick b0 s0) s m args below meth c H locs cells slots (MQ below (QB (fun u : Int32 × (Nat → Nat) × (Nat → Nat) × (Nat → Nat → Nat) × Dt => post u.1 u.2.1 u.2.2.1 u.2.2.2.1 u.2.2.2.2) (fun (u : Int32 × (Nat → Nat) × (Nat → Nat) × (Nat → Nat → Nat) × Dt) (H1 : Heap) => SB D tc (sa 3) Am u.2.1 u.2.2.1 u.2.2.2.1 u.2.2.2.2 H1 ∧ Ext t0 u.2.1) (fun u : Int32 × (Nat → Nat) × (Nat → Nat) × (Nat → Nat → Nat) × Dt => some (.int u.1)) Am) args s (rm_X13_tick b0 s0).cells (rm_X13_tick b0 s0).slots Am) (F0 m 36 ls []) := by
  intro p l e s m args below meth c D tc h0 sa Am b0 s0 t0 post   X hr hT hA0 hAm9   tS nS rS wS bS sS H locs ls AS cells slots hw hB  hAS hAF hX hc hs hS hl
  have hx := X.1
  have hb := X.2.1
  have hown := X.2.2.2.1
  have hU := X.2.2.2.2.1.1
  unfold wp_X13_tick_36 at hw
  refine lv_iconst (v := (-1)) hx hb dX13_tick_36 (by decide) ?_
  exact e_i X hr dX13_tick_37 hS ((-1), tS, nS, rS, wS) rfl hw ⟨hB.regs hAS, hX⟩ ⟨show cells ≤ b0 by omega, show slots ≤ s0 by omega⟩
def wp_X13_tick_356 (post : Int32 → (Nat → Nat) → (Nat → Nat) → (Nat → Nat → Nat) → Dt → Prop)   (z0 : Int32) (tS : Nat → Nat) (nS : Nat → Nat) (rS : Nat → Nat → Nat) (wS : Dt) (bS : Nat) (sS : Nat) : Prop := post z0 tS nS rS wS
set_option maxHeartbeats 4000000 in
set_option maxRecDepth 100000 in
theorem t_X13_tick_356 : ∀ {p : Program} {l : Launch} {e : Env} {s : State} {m : MethodId} {args : Array Value} {below : List Frame} {meth : Method} {c : Code} {D : va_G} {tc : Nat → ClassId} {h0 : Nat} {sa : Nat → Nat} {Am : Nat → Prop} {b0 s0 : Nat} {t0 : Nat → Nat} {post : Int32 → (Nat → Nat) → (Nat → Nat) → (Nat → Nat → Nat) → Dt → Prop}   (X : Cx p c s m meth cX13_tick 8 RX13 D tc) (hr : meth.sig.returnType = (Option.some FieldType.int)) (hT : ST h0 sa s s.heap) (hA0 : ∀ q, Am q → h0 ≤ q) (hAm9 : ∀ x, s.heap.size ≤ x → Am x) , ∀ (z0 : Int32) (tS : Nat → Nat) (nS : Nat → Nat) (rS : Nat → Nat → Nat) (wS : Dt) (bS : Nat) (sS : Nat) (H : Heap) (locs : List Loc) (ls : Array Slot) (AS : Nat → Prop) (cells slots : Nat), wp_X13_tick_356 post   z0 tS nS rS wS bS sS → SB D tc (sa 3) AS tS nS rS wS H → (∀ x, AS x → Am x) → (∀ x, H.size ≤ x → AS x) → Ext t0 tS → cells + bS ≤ b0 → slots + sS ≤ s0 → va_S Am s.heap H locs → lv_has ls 8 [] → W p l e (rm_X13_tick b0 s0) s m args below meth c H locs cells slots (MQ below (QB (fun u : Int32 × (Nat → Nat) × (Nat → Nat) × (Nat → Nat → Nat) × Dt => post u.1 u.2.1 u.2.2.1 u.2.2.2.1 u.2.2.2.2) (fun (u : Int32 × (Nat → Nat) × (Nat → Nat) × (Nat → Nat → Nat) × Dt) (H1 : Heap) => SB D tc (sa 3) Am u.2.1 u.2.2.1 u.2.2.2.1 u.2.2.2.2 H1 ∧ Ext t0 u.2.1) (fun u : Int32 × (Nat → Nat) × (Nat → Nat) × (Nat → Nat → Nat) × Dt => some (.int u.1)) Am) args s (rm_X13_tick b0 s0).cells (rm_X13_tick b0 s0).slots Am) (F0 m 356 ls [.int z0]) := by
  intro p l e s m args below meth c D tc h0 sa Am b0 s0 t0 post   X hr hT hA0 hAm9   z0 tS nS rS wS bS sS H locs ls AS cells slots hw hB  hAS hAF hX hc hs hS hl
  have hx := X.1
  have hb := X.2.1
  have hown := X.2.2.2.1
  have hU := X.2.2.2.2.1.1
  unfold wp_X13_tick_356 at hw
  exact e_i X hr dX13_tick_356 hS (z0, tS, nS, rS, wS) rfl hw ⟨hB.regs hAS, hX⟩ ⟨show cells ≤ b0 by omega, show slots ≤ s0 by omega⟩
def wp_X13_tick_337 (post : Int32 → (Nat → Nat) → (Nat → Nat) → (Nat → Nat → Nat) → Dt → Prop)   (y2 : Nat) (z0 : Int32) (z1 : Int32) (z2 : Nat) (tS : Nat → Nat) (nS : Nat → Nat) (rS : Nat → Nat → Nat) (wS : Dt) (bS : Nat) (sS : Nat) : Prop := ∀ wS51 : Dt, wS51 = up2 wS z2 5 (z1 + z0) → (((wS51 y2 6) = 0 → wp_X13_tick_356 post   (wS51 y2 5) tS nS rS wS51 bS sS) ∧ (¬ (wS51 y2 6) = 0 → wp_X13_tick_356 post   (-1) tS nS rS wS51 bS sS))
set_option maxHeartbeats 4000000 in
set_option maxRecDepth 100000 in
theorem t_X13_tick_337 : ∀ {p : Program} {l : Launch} {e : Env} {s : State} {m : MethodId} {args : Array Value} {below : List Frame} {meth : Method} {c : Code} {D : va_G} {tc : Nat → ClassId} {h0 : Nat} {sa : Nat → Nat} {Am : Nat → Prop} {b0 s0 : Nat} {t0 : Nat → Nat} {post : Int32 → (Nat → Nat) → (Nat → Nat) → (Nat → Nat → Nat) → Dt → Prop}   (X : Cx p c s m meth cX13_tick 8 RX13 D tc) (hr : meth.sig.returnType = (Option.some FieldType.int)) (hT : ST h0 sa s s.heap) (hA0 : ∀ q, Am q → h0 ≤ q) (hAm9 : ∀ x, s.heap.size ≤ x → Am x) , ∀ (y2 : Nat) (z0 : Int32) (z1 : Int32) (z2 : Nat) (tS : Nat → Nat) (nS : Nat → Nat) (rS : Nat → Nat → Nat) (wS : Dt) (bS : Nat) (sS : Nat) (H : Heap) (locs : List Loc) (ls : Array Slot) (AS : Nat → Prop) (cells slots : Nat), wp_X13_tick_337 post   y2 z0 z1 z2 tS nS rS wS bS sS → SB D tc (sa 3) AS tS nS rS wS H → (tS y2 = 5) → (tS z2 = 5) → (∀ x, AS x → Am x) → (∀ x, H.size ≤ x → AS x) → Ext t0 tS → cells + bS ≤ b0 → slots + sS ≤ s0 → va_S Am s.heap H locs → lv_has ls 8 [(2, .ref y2)] → W p l e (rm_X13_tick b0 s0) s m args below meth c H locs cells slots (MQ below (QB (fun u : Int32 × (Nat → Nat) × (Nat → Nat) × (Nat → Nat → Nat) × Dt => post u.1 u.2.1 u.2.2.1 u.2.2.2.1 u.2.2.2.2) (fun (u : Int32 × (Nat → Nat) × (Nat → Nat) × (Nat → Nat → Nat) × Dt) (H1 : Heap) => SB D tc (sa 3) Am u.2.1 u.2.2.1 u.2.2.2.1 u.2.2.2.2 H1 ∧ Ext t0 u.2.1) (fun u : Int32 × (Nat → Nat) × (Nat → Nat) × (Nat → Nat → Nat) × Dt => some (.int u.1)) Am) args s (rm_X13_tick b0 s0).cells (rm_X13_tick b0 s0).slots Am) (F0 m 337 ls [.int z0, .int z1, .ref z2]) := by
  intro p l e s m args below meth c D tc h0 sa Am b0 s0 t0 post   X hr hT hA0 hAm9   y2 z0 z1 z2 tS nS rS wS bS sS H locs ls AS cells slots hw hB hky2 hkz2 hAS hAF hX hc hs hS hl
  have hx := X.1
  have hb := X.2.1
  have hown := X.2.2.2.1
  have hU := X.2.2.2.2.1.1
  unfold wp_X13_tick_337 at hw
  refine lv_iadd hx hb dX13_tick_337 ?_
  refine g_putiN X dX13_tick_338 f_X13_244 (hB.oneB (k := 5) hAS hkz2 rfl) hS (x := (z1 + z0)) rfl rfl rfl (fun H locs hb9 oq hS => ?_)
  have hB := hB.putB hkz2 rfl hb9 oq
  have hAF : ∀ x, H.size ≤ x → AS x := fun x h => hAF x (Nat.le_trans (sz_of oq (hB.lt (by rw [hkz2]; decide)).1) h)
  obtain ⟨wS51, ewS51⟩ : ∃ z : Dt, z = up2 wS z2 5 (z1 + z0) := ⟨_, rfl⟩
  rw [← ewS51] at hB
  have hw := hw wS51 ewS51
  refine lv_aload_n hx hb dX13_tick_341 rfl (lv_at hl 0 rfl) ?_
  refine g_getN X dX13_tick_342 f_X13_238 (hB.one (k := 5) hky2 rfl) 0 (v := .int (wS51 y2 6)) rfl rfl ?_
  refine lv_if_eq (tgt := 352) hx hb dX13_tick_345 (by decide) (fun c52 => ?_) (fun c52 => ?_)
  · have hw := hw.1 c52
    refine lv_aload_n hx hb dX13_tick_352 rfl (lv_at hl 0 rfl) ?_
    refine g_getN X dX13_tick_353 f_X13_244 (hB.one (k := 5) hky2 rfl) 0 (v := .int (wS51 y2 5)) rfl rfl ?_
    exact t_X13_tick_356 X hr hT hA0 hAm9  (wS51 y2 5) tS nS rS wS51 bS sS _ _ _ _ _ _ hw hB  hAS hAF hX hc hs hS (lv_sub hl [] rfl)
  · have hw := hw.2 c52
    refine lv_iconst (v := (-1)) hx hb dX13_tick_348 (by decide) ?_
    refine lv_goto (tgt := 356) hx hb dX13_tick_349 (by decide) ?_
    exact t_X13_tick_356 X hr hT hA0 hAm9  (-1) tS nS rS wS51 bS sS _ _ _ _ _ _ hw hB  hAS hAF hX hc hs hS (lv_sub hl [] rfl)
def wp_X13_tick_336 (post : Int32 → (Nat → Nat) → (Nat → Nat) → (Nat → Nat → Nat) → Dt → Prop)   (y2 : Nat) (z0 : Int32) (z1 : Nat) (tS : Nat → Nat) (nS : Nat → Nat) (rS : Nat → Nat → Nat) (wS : Dt) (bS : Nat) (sS : Nat) : Prop := wp_X13_tick_337 post   y2 0 z0 z1 tS nS rS wS bS sS
set_option maxHeartbeats 4000000 in
set_option maxRecDepth 100000 in
theorem t_X13_tick_336 : ∀ {p : Program} {l : Launch} {e : Env} {s : State} {m : MethodId} {args : Array Value} {below : List Frame} {meth : Method} {c : Code} {D : va_G} {tc : Nat → ClassId} {h0 : Nat} {sa : Nat → Nat} {Am : Nat → Prop} {b0 s0 : Nat} {t0 : Nat → Nat} {post : Int32 → (Nat → Nat) → (Nat → Nat) → (Nat → Nat → Nat) → Dt → Prop}   (X : Cx p c s m meth cX13_tick 8 RX13 D tc) (hr : meth.sig.returnType = (Option.some FieldType.int)) (hT : ST h0 sa s s.heap) (hA0 : ∀ q, Am q → h0 ≤ q) (hAm9 : ∀ x, s.heap.size ≤ x → Am x) , ∀ (y2 : Nat) (z0 : Int32) (z1 : Nat) (tS : Nat → Nat) (nS : Nat → Nat) (rS : Nat → Nat → Nat) (wS : Dt) (bS : Nat) (sS : Nat) (H : Heap) (locs : List Loc) (ls : Array Slot) (AS : Nat → Prop) (cells slots : Nat), wp_X13_tick_336 post   y2 z0 z1 tS nS rS wS bS sS → SB D tc (sa 3) AS tS nS rS wS H → (tS y2 = 5) → (tS z1 = 5) → (∀ x, AS x → Am x) → (∀ x, H.size ≤ x → AS x) → Ext t0 tS → cells + bS ≤ b0 → slots + sS ≤ s0 → va_S Am s.heap H locs → lv_has ls 8 [(2, .ref y2)] → W p l e (rm_X13_tick b0 s0) s m args below meth c H locs cells slots (MQ below (QB (fun u : Int32 × (Nat → Nat) × (Nat → Nat) × (Nat → Nat → Nat) × Dt => post u.1 u.2.1 u.2.2.1 u.2.2.2.1 u.2.2.2.2) (fun (u : Int32 × (Nat → Nat) × (Nat → Nat) × (Nat → Nat → Nat) × Dt) (H1 : Heap) => SB D tc (sa 3) Am u.2.1 u.2.2.1 u.2.2.2.1 u.2.2.2.2 H1 ∧ Ext t0 u.2.1) (fun u : Int32 × (Nat → Nat) × (Nat → Nat) × (Nat → Nat → Nat) × Dt => some (.int u.1)) Am) args s (rm_X13_tick b0 s0).cells (rm_X13_tick b0 s0).slots Am) (F0 m 336 ls [.int z0, .ref z1]) := by
  intro p l e s m args below meth c D tc h0 sa Am b0 s0 t0 post   X hr hT hA0 hAm9   y2 z0 z1 tS nS rS wS bS sS H locs ls AS cells slots hw hB hky2 hkz1 hAS hAF hX hc hs hS hl
  have hx := X.1
  have hb := X.2.1
  have hown := X.2.2.2.1
  have hU := X.2.2.2.2.1.1
  unfold wp_X13_tick_336 at hw
  refine lv_iconst (v := 0) hx hb dX13_tick_336 (by decide) ?_
  exact t_X13_tick_337 X hr hT hA0 hAm9  y2 0 z0 z1 tS nS rS wS bS sS _ _ _ _ _ _ hw hB hky2 hkz1 hAS hAF hX hc hs hS (lv_sub hl [0] rfl)
def wp_X13_tick_332 (post : Int32 → (Nat → Nat) → (Nat → Nat) → (Nat → Nat → Nat) → Dt → Prop)   (y2 : Nat) (z0 : Int32) (z1 : Nat) (tS : Nat → Nat) (nS : Nat → Nat) (rS : Nat → Nat → Nat) (wS : Dt) (bS : Nat) (sS : Nat) : Prop := wp_X13_tick_337 post   y2 1 z0 z1 tS nS rS wS bS sS
set_option maxHeartbeats 4000000 in
set_option maxRecDepth 100000 in
theorem t_X13_tick_332 : ∀ {p : Program} {l : Launch} {e : Env} {s : State} {m : MethodId} {args : Array Value} {below : List Frame} {meth : Method} {c : Code} {D : va_G} {tc : Nat → ClassId} {h0 : Nat} {sa : Nat → Nat} {Am : Nat → Prop} {b0 s0 : Nat} {t0 : Nat → Nat} {post : Int32 → (Nat → Nat) → (Nat → Nat) → (Nat → Nat → Nat) → Dt → Prop}   (X : Cx p c s m meth cX13_tick 8 RX13 D tc) (hr : meth.sig.returnType = (Option.some FieldType.int)) (hT : ST h0 sa s s.heap) (hA0 : ∀ q, Am q → h0 ≤ q) (hAm9 : ∀ x, s.heap.size ≤ x → Am x) , ∀ (y2 : Nat) (z0 : Int32) (z1 : Nat) (tS : Nat → Nat) (nS : Nat → Nat) (rS : Nat → Nat → Nat) (wS : Dt) (bS : Nat) (sS : Nat) (H : Heap) (locs : List Loc) (ls : Array Slot) (AS : Nat → Prop) (cells slots : Nat), wp_X13_tick_332 post   y2 z0 z1 tS nS rS wS bS sS → SB D tc (sa 3) AS tS nS rS wS H → (tS y2 = 5) → (tS z1 = 5) → (∀ x, AS x → Am x) → (∀ x, H.size ≤ x → AS x) → Ext t0 tS → cells + bS ≤ b0 → slots + sS ≤ s0 → va_S Am s.heap H locs → lv_has ls 8 [(2, .ref y2)] → W p l e (rm_X13_tick b0 s0) s m args below meth c H locs cells slots (MQ below (QB (fun u : Int32 × (Nat → Nat) × (Nat → Nat) × (Nat → Nat → Nat) × Dt => post u.1 u.2.1 u.2.2.1 u.2.2.2.1 u.2.2.2.2) (fun (u : Int32 × (Nat → Nat) × (Nat → Nat) × (Nat → Nat → Nat) × Dt) (H1 : Heap) => SB D tc (sa 3) Am u.2.1 u.2.2.1 u.2.2.2.1 u.2.2.2.2 H1 ∧ Ext t0 u.2.1) (fun u : Int32 × (Nat → Nat) × (Nat → Nat) × (Nat → Nat → Nat) × Dt => some (.int u.1)) Am) args s (rm_X13_tick b0 s0).cells (rm_X13_tick b0 s0).slots Am) (F0 m 332 ls [.int z0, .ref z1]) := by
  intro p l e s m args below meth c D tc h0 sa Am b0 s0 t0 post   X hr hT hA0 hAm9   y2 z0 z1 tS nS rS wS bS sS H locs ls AS cells slots hw hB hky2 hkz1 hAS hAF hX hc hs hS hl
  have hx := X.1
  have hb := X.2.1
  have hown := X.2.2.2.1
  have hU := X.2.2.2.2.1.1
  unfold wp_X13_tick_332 at hw
  refine lv_iconst (v := 1) hx hb dX13_tick_332 (by decide) ?_
  refine lv_goto (tgt := 337) hx hb dX13_tick_333 (by decide) ?_
  exact t_X13_tick_337 X hr hT hA0 hAm9  y2 1 z0 z1 tS nS rS wS bS sS _ _ _ _ _ _ hw hB hky2 hkz1 hAS hAF hX hc hs hS (lv_sub hl [0] rfl)
def wp_X13_tick_297 (post : Int32 → (Nat → Nat) → (Nat → Nat) → (Nat → Nat → Nat) → Dt → Prop)   (y2 : Nat) (z0 : Int32) (z1 : Nat) (tS : Nat → Nat) (nS : Nat → Nat) (rS : Nat → Nat → Nat) (wS : Dt) (bS : Nat) (sS : Nat) : Prop := narrow .boolean (.int z0) = .int z0 ∧ (fits .boolean (.int z0) = true ∧ (∀ wS49 : Dt, wS49 = up2 wS z1 6 z0 → ((¬ (wS49 y2 6) = 0 → wp_X13_tick_336 post   y2 (wS49 y2 5) y2 tS nS rS wS49 bS sS) ∧ ((wS49 y2 6) = 0 → ((wS49 y2 0) ≤ (wS49 y2 5) → wp_X13_tick_332 post   y2 (wS49 y2 5) y2 tS nS rS wS49 bS sS) ∧ (¬ (wS49 y2 0) ≤ (wS49 y2 5) → (¬ ((wS49 y2 4) - (wS49 y2 4) / 2 * 2) = 0 → wp_X13_tick_336 post   y2 (wS49 y2 5) y2 tS nS rS wS49 bS sS) ∧ (((wS49 y2 4) - (wS49 y2 4) / 2 * 2) = 0 → wp_X13_tick_332 post   y2 (wS49 y2 5) y2 tS nS rS wS49 bS sS))))))
set_option maxHeartbeats 4000000 in
set_option maxRecDepth 100000 in
theorem t_X13_tick_297 : ∀ {p : Program} {l : Launch} {e : Env} {s : State} {m : MethodId} {args : Array Value} {below : List Frame} {meth : Method} {c : Code} {D : va_G} {tc : Nat → ClassId} {h0 : Nat} {sa : Nat → Nat} {Am : Nat → Prop} {b0 s0 : Nat} {t0 : Nat → Nat} {post : Int32 → (Nat → Nat) → (Nat → Nat) → (Nat → Nat → Nat) → Dt → Prop}   (X : Cx p c s m meth cX13_tick 8 RX13 D tc) (hr : meth.sig.returnType = (Option.some FieldType.int)) (hT : ST h0 sa s s.heap) (hA0 : ∀ q, Am q → h0 ≤ q) (hAm9 : ∀ x, s.heap.size ≤ x → Am x) , ∀ (y2 : Nat) (z0 : Int32) (z1 : Nat) (tS : Nat → Nat) (nS : Nat → Nat) (rS : Nat → Nat → Nat) (wS : Dt) (bS : Nat) (sS : Nat) (H : Heap) (locs : List Loc) (ls : Array Slot) (AS : Nat → Prop) (cells slots : Nat), wp_X13_tick_297 post   y2 z0 z1 tS nS rS wS bS sS → SB D tc (sa 3) AS tS nS rS wS H → (tS y2 = 5) → (tS z1 = 5) → (∀ x, AS x → Am x) → (∀ x, H.size ≤ x → AS x) → Ext t0 tS → cells + bS ≤ b0 → slots + sS ≤ s0 → va_S Am s.heap H locs → lv_has ls 8 [(2, .ref y2)] → W p l e (rm_X13_tick b0 s0) s m args below meth c H locs cells slots (MQ below (QB (fun u : Int32 × (Nat → Nat) × (Nat → Nat) × (Nat → Nat → Nat) × Dt => post u.1 u.2.1 u.2.2.1 u.2.2.2.1 u.2.2.2.2) (fun (u : Int32 × (Nat → Nat) × (Nat → Nat) × (Nat → Nat → Nat) × Dt) (H1 : Heap) => SB D tc (sa 3) Am u.2.1 u.2.2.1 u.2.2.2.1 u.2.2.2.2 H1 ∧ Ext t0 u.2.1) (fun u : Int32 × (Nat → Nat) × (Nat → Nat) × (Nat → Nat → Nat) × Dt => some (.int u.1)) Am) args s (rm_X13_tick b0 s0).cells (rm_X13_tick b0 s0).slots Am) (F0 m 297 ls [.int z0, .ref z1]) := by
  intro p l e s m args below meth c D tc h0 sa Am b0 s0 t0 post   X hr hT hA0 hAm9   y2 z0 z1 tS nS rS wS bS sS H locs ls AS cells slots hw hB hky2 hkz1 hAS hAF hX hc hs hS hl
  have hx := X.1
  have hb := X.2.1
  have hown := X.2.2.2.1
  have hU := X.2.2.2.2.1.1
  unfold wp_X13_tick_297 at hw
  obtain ⟨o47, hw⟩ := hw
  obtain ⟨o48, hw⟩ := hw
  refine g_putiN X dX13_tick_297 f_X13_238 (hB.oneB (k := 5) hAS hkz1 rfl) hS (x := z0) rfl o47 o48 (fun H locs hb9 oq hS => ?_)
  have hB := hB.putB hkz1 rfl hb9 oq
  have hAF : ∀ x, H.size ≤ x → AS x := fun x h => hAF x (Nat.le_trans (sz_of oq (hB.lt (by rw [hkz1]; decide)).1) h)
  obtain ⟨wS49, ewS49⟩ : ∃ z : Dt, z = up2 wS z1 6 z0 := ⟨_, rfl⟩
  rw [← ewS49] at hB
  have hw := hw wS49 ewS49
  refine lv_aload_n hx hb dX13_tick_300 rfl (lv_at hl 0 rfl) ?_
  refine lv_dup hx hb dX13_tick_301 rfl ?_
  refine g_getN X dX13_tick_302 f_X13_244 (hB.one (k := 5) hky2 rfl) 0 (v := .int (wS49 y2 5)) rfl rfl ?_
  refine lv_aload_n hx hb dX13_tick_305 rfl (lv_at hl 0 rfl) ?_
  refine g_getN X dX13_tick_306 f_X13_238 (hB.one (k := 5) hky2 rfl) 0 (v := .int (wS49 y2 6)) rfl rfl ?_
  refine lv_if_ne (tgt := 336) hx hb dX13_tick_309 (by decide) (fun c50 => ?_) (fun c50 => ?_)
  · have hw := hw.1 c50
    exact t_X13_tick_336 X hr hT hA0 hAm9  y2 (wS49 y2 5) y2 tS nS rS wS49 bS sS _ _ _ _ _ _ hw hB hky2 hky2 hAS hAF hX hc hs hS (lv_sub hl [0] rfl)
  · have hw := hw.2 c50
    refine lv_aload_n hx hb dX13_tick_312 rfl (lv_at hl 0 rfl) ?_
    refine g_getN X dX13_tick_313 f_X13_244 (hB.one (k := 5) hky2 rfl) 0 (v := .int (wS49 y2 5)) rfl rfl ?_
    refine lv_aload_n hx hb dX13_tick_316 rfl (lv_at hl 0 rfl) ?_
    refine g_getN X dX13_tick_317 f_X13_223 (hB.one (k := 5) hky2 rfl) 0 (v := .int (wS49 y2 0)) rfl rfl ?_
    refine lv_icmp_ge (tgt := 332) hx hb dX13_tick_320 (by decide) (fun c53 => ?_) (fun c53 => ?_)
    · have hw := hw.1 c53
      exact t_X13_tick_332 X hr hT hA0 hAm9  y2 (wS49 y2 5) y2 tS nS rS wS49 bS sS _ _ _ _ _ _ hw hB hky2 hky2 hAS hAF hX hc hs hS (lv_sub hl [0] rfl)
    · have hw := hw.2 c53
      refine lv_aload_n hx hb dX13_tick_323 rfl (lv_at hl 0 rfl) ?_
      refine g_getN X dX13_tick_324 f_X13_241 (hB.one (k := 5) hky2 rfl) 0 (v := .int (wS49 y2 4)) rfl rfl ?_
      refine lv_iconst (v := 2) hx hb dX13_tick_327 (by decide) ?_
      refine lv_irem hx hb dX13_tick_328 (by decide) ?_
      refine lv_if_ne (tgt := 336) hx hb dX13_tick_329 (by decide) (fun c54 => ?_) (fun c54 => ?_)
      · have hw := hw.1 c54
        exact t_X13_tick_336 X hr hT hA0 hAm9  y2 (wS49 y2 5) y2 tS nS rS wS49 bS sS _ _ _ _ _ _ hw hB hky2 hky2 hAS hAF hX hc hs hS (lv_sub hl [0] rfl)
      · have hw := hw.2 c54
        exact t_X13_tick_332 X hr hT hA0 hAm9  y2 (wS49 y2 5) y2 tS nS rS wS49 bS sS _ _ _ _ _ _ hw hB hky2 hky2 hAS hAF hX hc hs hS (lv_sub hl [0] rfl)
def wp_X13_tick_292 (post : Int32 → (Nat → Nat) → (Nat → Nat) → (Nat → Nat → Nat) → Dt → Prop)   (y2 : Nat) (z0 : Nat) (tS : Nat → Nat) (nS : Nat → Nat) (rS : Nat → Nat → Nat) (wS : Dt) (bS : Nat) (sS : Nat) : Prop := wp_X13_tick_297 post   y2 1 z0 tS nS rS wS bS sS
set_option maxHeartbeats 4000000 in
set_option maxRecDepth 100000 in
theorem t_X13_tick_292 : ∀ {p : Program} {l : Launch} {e : Env} {s : State} {m : MethodId} {args : Array Value} {below : List Frame} {meth : Method} {c : Code} {D : va_G} {tc : Nat → ClassId} {h0 : Nat} {sa : Nat → Nat} {Am : Nat → Prop} {b0 s0 : Nat} {t0 : Nat → Nat} {post : Int32 → (Nat → Nat) → (Nat → Nat) → (Nat → Nat → Nat) → Dt → Prop}   (X : Cx p c s m meth cX13_tick 8 RX13 D tc) (hr : meth.sig.returnType = (Option.some FieldType.int)) (hT : ST h0 sa s s.heap) (hA0 : ∀ q, Am q → h0 ≤ q) (hAm9 : ∀ x, s.heap.size ≤ x → Am x) , ∀ (y2 : Nat) (z0 : Nat) (tS : Nat → Nat) (nS : Nat → Nat) (rS : Nat → Nat → Nat) (wS : Dt) (bS : Nat) (sS : Nat) (H : Heap) (locs : List Loc) (ls : Array Slot) (AS : Nat → Prop) (cells slots : Nat), wp_X13_tick_292 post   y2 z0 tS nS rS wS bS sS → SB D tc (sa 3) AS tS nS rS wS H → (tS y2 = 5) → (tS z0 = 5) → (∀ x, AS x → Am x) → (∀ x, H.size ≤ x → AS x) → Ext t0 tS → cells + bS ≤ b0 → slots + sS ≤ s0 → va_S Am s.heap H locs → lv_has ls 8 [(2, .ref y2)] → W p l e (rm_X13_tick b0 s0) s m args below meth c H locs cells slots (MQ below (QB (fun u : Int32 × (Nat → Nat) × (Nat → Nat) × (Nat → Nat → Nat) × Dt => post u.1 u.2.1 u.2.2.1 u.2.2.2.1 u.2.2.2.2) (fun (u : Int32 × (Nat → Nat) × (Nat → Nat) × (Nat → Nat → Nat) × Dt) (H1 : Heap) => SB D tc (sa 3) Am u.2.1 u.2.2.1 u.2.2.2.1 u.2.2.2.2 H1 ∧ Ext t0 u.2.1) (fun u : Int32 × (Nat → Nat) × (Nat → Nat) × (Nat → Nat → Nat) × Dt => some (.int u.1)) Am) args s (rm_X13_tick b0 s0).cells (rm_X13_tick b0 s0).slots Am) (F0 m 292 ls [.ref z0]) := by
  intro p l e s m args below meth c D tc h0 sa Am b0 s0 t0 post   X hr hT hA0 hAm9   y2 z0 tS nS rS wS bS sS H locs ls AS cells slots hw hB hky2 hkz0 hAS hAF hX hc hs hS hl
  have hx := X.1
  have hb := X.2.1
  have hown := X.2.2.2.1
  have hU := X.2.2.2.2.1.1
  unfold wp_X13_tick_292 at hw
  refine lv_iconst (v := 1) hx hb dX13_tick_292 (by decide) ?_
  refine lv_goto (tgt := 297) hx hb dX13_tick_293 (by decide) ?_
  exact t_X13_tick_297 X hr hT hA0 hAm9  y2 1 z0 tS nS rS wS bS sS _ _ _ _ _ _ hw hB hky2 hkz0 hAS hAF hX hc hs hS (lv_sub hl [0] rfl)
def wp_X13_tick_274 (post : Int32 → (Nat → Nat) → (Nat → Nat) → (Nat → Nat → Nat) → Dt → Prop)   (y2 : Nat) (y4 : Int32) (tS : Nat → Nat) (nS : Nat → Nat) (rS : Nat → Nat → Nat) (wS : Dt) (bS : Nat) (sS : Nat) : Prop := ((wS y2 5) = 9 → wp_X13_tick_292 post   y2 y2 tS nS rS wS bS sS) ∧ (¬ (wS y2 5) = 9 → (y4 ≤ 600 → wp_X13_tick_297 post   y2 0 y2 tS nS rS wS bS sS) ∧ (¬ y4 ≤ 600 → wp_X13_tick_292 post   y2 y2 tS nS rS wS bS sS))
set_option maxHeartbeats 4000000 in
set_option maxRecDepth 100000 in
theorem t_X13_tick_274 : ∀ {p : Program} {l : Launch} {e : Env} {s : State} {m : MethodId} {args : Array Value} {below : List Frame} {meth : Method} {c : Code} {D : va_G} {tc : Nat → ClassId} {h0 : Nat} {sa : Nat → Nat} {Am : Nat → Prop} {b0 s0 : Nat} {t0 : Nat → Nat} {post : Int32 → (Nat → Nat) → (Nat → Nat) → (Nat → Nat → Nat) → Dt → Prop}   (X : Cx p c s m meth cX13_tick 8 RX13 D tc) (hr : meth.sig.returnType = (Option.some FieldType.int)) (hT : ST h0 sa s s.heap) (hA0 : ∀ q, Am q → h0 ≤ q) (hAm9 : ∀ x, s.heap.size ≤ x → Am x) , ∀ (y2 : Nat) (y4 : Int32) (tS : Nat → Nat) (nS : Nat → Nat) (rS : Nat → Nat → Nat) (wS : Dt) (bS : Nat) (sS : Nat) (H : Heap) (locs : List Loc) (ls : Array Slot) (AS : Nat → Prop) (cells slots : Nat), wp_X13_tick_274 post   y2 y4 tS nS rS wS bS sS → SB D tc (sa 3) AS tS nS rS wS H → (tS y2 = 5) → (∀ x, AS x → Am x) → (∀ x, H.size ≤ x → AS x) → Ext t0 tS → cells + bS ≤ b0 → slots + sS ≤ s0 → va_S Am s.heap H locs → lv_has ls 8 [(2, .ref y2), (4, .int y4)] → W p l e (rm_X13_tick b0 s0) s m args below meth c H locs cells slots (MQ below (QB (fun u : Int32 × (Nat → Nat) × (Nat → Nat) × (Nat → Nat → Nat) × Dt => post u.1 u.2.1 u.2.2.1 u.2.2.2.1 u.2.2.2.2) (fun (u : Int32 × (Nat → Nat) × (Nat → Nat) × (Nat → Nat → Nat) × Dt) (H1 : Heap) => SB D tc (sa 3) Am u.2.1 u.2.2.1 u.2.2.2.1 u.2.2.2.2 H1 ∧ Ext t0 u.2.1) (fun u : Int32 × (Nat → Nat) × (Nat → Nat) × (Nat → Nat → Nat) × Dt => some (.int u.1)) Am) args s (rm_X13_tick b0 s0).cells (rm_X13_tick b0 s0).slots Am) (F0 m 274 ls []) := by
  intro p l e s m args below meth c D tc h0 sa Am b0 s0 t0 post   X hr hT hA0 hAm9   y2 y4 tS nS rS wS bS sS H locs ls AS cells slots hw hB hky2 hAS hAF hX hc hs hS hl
  have hx := X.1
  have hb := X.2.1
  have hown := X.2.2.2.1
  have hU := X.2.2.2.2.1.1
  unfold wp_X13_tick_274 at hw
  refine lv_aload_n hx hb dX13_tick_274 rfl (lv_at hl 0 rfl) ?_
  refine lv_aload_n hx hb dX13_tick_275 rfl (lv_at hl 0 rfl) ?_
  refine g_getN X dX13_tick_276 f_X13_244 (hB.one (k := 5) hky2 rfl) 0 (v := .int (wS y2 5)) rfl rfl ?_
  refine lv_bipush (v := 9) hx hb dX13_tick_279 (by decide) ?_
  refine lv_icmp_eq (tgt := 292) hx hb dX13_tick_281 (by decide) (fun c46 => ?_) (fun c46 => ?_)
  · have hw := hw.1 c46
    exact t_X13_tick_292 X hr hT hA0 hAm9  y2 y2 tS nS rS wS bS sS _ _ _ _ _ _ hw hB hky2 hky2 hAS hAF hX hc hs hS (lv_sub hl [0] rfl)
  · have hw := hw.2 c46
    refine lv_iload hx hb dX13_tick_284 (lv_at hl 1 rfl) ?_
    refine lv_sipush (v := 600) hx hb dX13_tick_286 (by decide) ?_
    refine lv_icmp_le (tgt := 296) hx hb dX13_tick_289 (by decide) (fun c55 => ?_) (fun c55 => ?_)
    · have hw := hw.1 c55
      refine lv_iconst (v := 0) hx hb dX13_tick_296 (by decide) ?_
      exact t_X13_tick_297 X hr hT hA0 hAm9  y2 0 y2 tS nS rS wS bS sS _ _ _ _ _ _ hw hB hky2 hky2 hAS hAF hX hc hs hS (lv_sub hl [0] rfl)
    · have hw := hw.2 c55
      exact t_X13_tick_292 X hr hT hA0 hAm9  y2 y2 tS nS rS wS bS sS _ _ _ _ _ _ hw hB hky2 hky2 hAS hAF hX hc hs hS (lv_sub hl [0] rfl)
def wp_X13_tick_254 (post : Int32 → (Nat → Nat) → (Nat → Nat) → (Nat → Nat → Nat) → Dt → Prop)  (K192 : Nat → Int32 → Int32 → (Nat → Nat) → (Nat → Nat) → (Nat → Nat → Nat) → (Dt) → (Nat) → (Nat) → Prop) (y2 : Nat) (y4 : Int32) (y5 : Int32) (z0 : Int32) (z1 : Nat) (z2 : Nat) (tS : Nat → Nat) (nS : Nat → Nat) (rS : Nat → Nat → Nat) (wS : Dt) (bS : Nat) (sS : Nat) : Prop := vp_in z0 (nS z1) ∧ (∀ nS65 : Nat → Nat, nS65 = va_up nS z1 (nS z1 - 1) → (∀ rS66 : Nat → Nat → Nat, rS66 = va_up rS z1 (fun j => if j < z0.toNatClampNeg then rS z1 j else rS z1 (j + 1)) → (∀ wS67 : Dt, wS67 = up2 wS z1 0 (wS z1 0 + 1) → (nS65 z2 < 400 ∧ (1 ≤ bS ∧ ((2 * (nS65 z2) + 10) ≤ sS ∧ (∀ nS71 : Nat → Nat, nS71 = va_up nS65 z2 (nS65 z2 + 1) → (∀ rS72 : Nat → Nat → Nat, rS72 = va_up rS66 z2 (va_up (rS66 z2) (nS65 z2) (rS z1 z0.toNatClampNeg)) → (∀ wS73 : Dt, wS73 = up2 wS67 z2 0 (wS67 z2 0 + 1) → (K192 y2 y4 (y5 + 1) tS nS71 rS72 wS73 (bS - 1) (sS - (2 * (nS65 z2) + 10))))))))))))
set_option maxHeartbeats 4000000 in
set_option maxRecDepth 100000 in
theorem t_X13_tick_254 : ∀ {p : Program} {l : Launch} {e : Env} {s : State} {m : MethodId} {args : Array Value} {below : List Frame} {meth : Method} {c : Code} {D : va_G} {tc : Nat → ClassId} {h0 : Nat} {sa : Nat → Nat} {Am : Nat → Prop} {b0 s0 : Nat} {t0 : Nat → Nat} {post : Int32 → (Nat → Nat) → (Nat → Nat) → (Nat → Nat → Nat) → Dt → Prop}  {K192 : Nat → Int32 → Int32 → (Nat → Nat) → (Nat → Nat) → (Nat → Nat → Nat) → (Dt) → (Nat) → (Nat) → Prop} (X : Cx p c s m meth cX13_tick 8 RX13 D tc) (hr : meth.sig.returnType = (Option.some FieldType.int)) (hT : ST h0 sa s s.heap) (hA0 : ∀ q, Am q → h0 ≤ q) (hAm9 : ∀ x, s.heap.size ≤ x → Am x) (hK192 : ∀ (y2 : Nat) (y4 : Int32) (y5 : Int32) (tS : Nat → Nat) (nS : Nat → Nat) (rS : Nat → Nat → Nat) (wS : Dt) (bS : Nat) (sS : Nat) (H : Heap) (locs : List Loc) (ls : Array Slot) (AS : Nat → Prop) (cells slots : Nat), K192 y2 y4 y5 tS nS rS wS bS sS → SB D tc (sa 3) AS tS nS rS wS H → (tS y2 = 5) → (∀ x, AS x → Am x) → (∀ x, H.size ≤ x → AS x) → Ext t0 tS → cells + bS ≤ b0 → slots + sS ≤ s0 → va_S Am s.heap H locs → lv_has ls 8 [(2, .ref y2), (4, .int y4), (5, .int y5)] → W p l e (rm_X13_tick b0 s0) s m args below meth c H locs cells slots (MQ below (QB (fun u : Int32 × (Nat → Nat) × (Nat → Nat) × (Nat → Nat → Nat) × Dt => post u.1 u.2.1 u.2.2.1 u.2.2.2.1 u.2.2.2.2) (fun (u : Int32 × (Nat → Nat) × (Nat → Nat) × (Nat → Nat → Nat) × Dt) (H1 : Heap) => SB D tc (sa 3) Am u.2.1 u.2.2.1 u.2.2.2.1 u.2.2.2.2 H1 ∧ Ext t0 u.2.1) (fun u : Int32 × (Nat → Nat) × (Nat → Nat) × (Nat → Nat → Nat) × Dt => some (.int u.1)) Am) args s (rm_X13_tick b0 s0).cells (rm_X13_tick b0 s0).slots Am) (F0 m 192 ls [])), ∀ (y2 : Nat) (y4 : Int32) (y5 : Int32) (z0 : Int32) (z1 : Nat) (z2 : Nat) (tS : Nat → Nat) (nS : Nat → Nat) (rS : Nat → Nat → Nat) (wS : Dt) (bS : Nat) (sS : Nat) (H : Heap) (locs : List Loc) (ls : Array Slot) (AS : Nat → Prop) (cells slots : Nat), wp_X13_tick_254 post  K192 y2 y4 y5 z0 z1 z2 tS nS rS wS bS sS → SB D tc (sa 3) AS tS nS rS wS H → (tS y2 = 5) → (tS z1 = 9) → (tS z2 = 9) → (∀ x, AS x → Am x) → (∀ x, H.size ≤ x → AS x) → Ext t0 tS → cells + bS ≤ b0 → slots + sS ≤ s0 → va_S Am s.heap H locs → lv_has ls 8 [(2, .ref y2), (4, .int y4), (5, .int y5)] → W p l e (rm_X13_tick b0 s0) s m args below meth c H locs cells slots (MQ below (QB (fun u : Int32 × (Nat → Nat) × (Nat → Nat) × (Nat → Nat → Nat) × Dt => post u.1 u.2.1 u.2.2.1 u.2.2.2.1 u.2.2.2.2) (fun (u : Int32 × (Nat → Nat) × (Nat → Nat) × (Nat → Nat → Nat) × Dt) (H1 : Heap) => SB D tc (sa 3) Am u.2.1 u.2.2.1 u.2.2.2.1 u.2.2.2.2 H1 ∧ Ext t0 u.2.1) (fun u : Int32 × (Nat → Nat) × (Nat → Nat) × (Nat → Nat → Nat) × Dt => some (.int u.1)) Am) args s (rm_X13_tick b0 s0).cells (rm_X13_tick b0 s0).slots Am) (F0 m 254 ls [.int z0, .ref z1, .ref z2]) := by
  intro p l e s m args below meth c D tc h0 sa Am b0 s0 t0 post  K192 X hr hT hA0 hAm9 hK192  y2 y4 y5 z0 z1 z2 tS nS rS wS bS sS H locs ls AS cells slots hw hB hky2 hkz1 hkz2 hAS hAF hX hc hs hS hl
  have hx := X.1
  have hb := X.2.1
  have hown := X.2.2.2.1
  have hU := X.2.2.2.2.1.1
  unfold wp_X13_tick_254 at hw
  obtain ⟨fs9, hat9⟩ := hB.lat (isL_of hkz1)
  obtain ⟨o63, hw⟩ := hw
  have k64 : tS (rS z1 z0.toNatClampNeg) = 23 := hB.elt hkz1 (lt10 o63)
  refine g_after5 (st0 := [.int z0, .ref z1, .ref z2]) (rest := [.ref z2]) (g_F X mf_X13_250 (c_rem l D tc h0 sa _ z1 hB (isL_of hkz1) o63 (fun x h => hA0 x (hAS x h)) hAF) rfl hat9 hT hS hA0 dX13_tick_254 hl.1 rfl rfl ⟨Nat.le_of_ble_eq_true rfl, Nat.le_of_ble_eq_true rfl⟩ (Nat.le_of_ble_eq_true rfl) ⟨show cells + 0 ≤ b0 by omega, show slots + 0 ≤ s0 by omega⟩) hS hAS (fun u => .ref (rS z1 z0.toNatClampNeg) :: [.ref z2]) (fun _ => rfl) (fun u H locs hu hP9 hz9 hk9 hS => ?_)
  have hB := hP9
  have hAF : ∀ x, H.size ≤ x → AS x := fun x h => hAF x (by omega)
  refine W.widen (k := cells) (n := slots) (Nat.le_refl _) (Nat.le_refl _) ?_
  obtain ⟨nS65, enS65⟩ : ∃ z : Nat → Nat, z = va_up nS z1 (nS z1 - 1) := ⟨_, rfl⟩
  rw [← enS65] at hB
  have hw := hw nS65 enS65
  obtain ⟨rS66, erS66⟩ : ∃ z : Nat → Nat → Nat, z = va_up rS z1 (fun j => if j < z0.toNatClampNeg then rS z1 j else rS z1 (j + 1)) := ⟨_, rfl⟩
  rw [← erS66] at hB
  have hw := hw rS66 erS66
  obtain ⟨wS67, ewS67⟩ : ∃ z : Dt, z = up2 wS z1 0 (wS z1 0 + 1) := ⟨_, rfl⟩
  rw [← ewS67] at hB
  have hw := hw wS67 ewS67
  refine x_casta X w_1636 (hB.at (k := 23) k64 rfl) dX13_tick_259 ?_
  obtain ⟨fs9, hat9⟩ := hB.lat (isL_of hkz2)
  obtain ⟨o68, hw⟩ := hw
  obtain ⟨o69, hw⟩ := hw
  obtain ⟨o70, hw⟩ := hw
  refine g_after5 (st0 := [.ref (rS z1 z0.toNatClampNeg), .ref z2]) (rest := []) (g_F X mf_X13_142 (c_add l D tc h0 sa _ z2 (rS z1 z0.toNatClampNeg) hB (isL_of hkz2) (by rw [hkz2, k64]; rfl) o68 (fun x h => hA0 x (hAS x h)) hAF) rfl hat9 hT hS hA0 dX13_tick_262 hl.1 rfl rfl ⟨Nat.le_of_ble_eq_true rfl, Nat.le_of_ble_eq_true rfl⟩ (Nat.le_of_ble_eq_true rfl) ⟨show cells + 1 ≤ b0 by omega, show slots + (2 * (nS65 z2) + 10) ≤ s0 by omega⟩) hS hAS (fun u => .int 1 :: []) (fun _ => rfl) (fun u H locs hu hP9 hz9 hk9 hS => ?_)
  have hB := hP9
  have hAF : ∀ x, H.size ≤ x → AS x := fun x h => hAF x (by omega)
  refine W_bud (b := (bS - 1)) (s1 := (sS - (2 * (nS65 z2) + 10))) (B := b0) (S := s0) (show (cells + 1) + (bS - 1) ≤ b0 by omega) (show (slots + (2 * (nS65 z2) + 10)) + (sS - (2 * (nS65 z2) + 10)) ≤ s0 by omega) (fun cells slots hc hs => ?_)
  obtain ⟨nS71, enS71⟩ : ∃ z : Nat → Nat, z = va_up nS65 z2 (nS65 z2 + 1) := ⟨_, rfl⟩
  rw [← enS71] at hB
  have hw := hw nS71 enS71
  obtain ⟨rS72, erS72⟩ : ∃ z : Nat → Nat → Nat, z = va_up rS66 z2 (va_up (rS66 z2) (nS65 z2) (rS z1 z0.toNatClampNeg)) := ⟨_, rfl⟩
  rw [← erS72] at hB
  have hw := hw rS72 erS72
  obtain ⟨wS73, ewS73⟩ : ∃ z : Dt, z = up2 wS67 z2 0 (wS67 z2 0 + 1) := ⟨_, rfl⟩
  rw [← ewS73] at hB
  have hw := hw wS73 ewS73
  refine lv_pop hx hb dX13_tick_267 rfl ?_
  refine lv_iinc (lv' := [(5, .int (y5 + 1)), (2, .ref y2), (4, .int y4)]) hx hb dX13_tick_268 hl (k := 2) rfl (by rfl) (by decide) rfl (fun ls hl => ?_)
  refine lv_goto (tgt := 192) hx hb dX13_tick_271 (by decide) ?_
  exact hK192 y2 y4 (y5 + 1) tS nS71 rS72 wS73 (bS - 1) (sS - (2 * (nS65 z2) + 10)) _ _ _ _ _ _ hw hB hky2 hAS hAF hX hc hs hS (lv_sub hl [1, 2, 0] rfl)
def wp_X13_tick_192 (post : Int32 → (Nat → Nat) → (Nat → Nat) → (Nat → Nat → Nat) → Dt → Prop)   : Nat → (Nat) → (Int32) → (Int32) → (Nat → Nat) → (Nat → Nat) → (Nat → Nat → Nat) → (Dt) → (Nat) → (Nat) → Prop
  | 0, _, _, _, _, _, _, _, _, _ => False
  | n9 + 1, y2, y4, y5, tS, nS, rS, wS, bS, sS => ((wS y2 2) ≤ y5 → wp_X13_tick_274 post   y2 y4 tS nS rS wS bS sS) ∧ (¬ (wS y2 2) ≤ y5 → ((wS y2 1) < (wS y2 4) → wp_X13_tick_274 post   y2 y4 tS nS rS wS bS sS) ∧ (¬ (wS y2 1) < (wS y2 4) → (nS (rS y2 8) = 0 → wp_X13_tick_274 post   y2 y4 tS nS rS wS bS sS) ∧ (¬ nS (rS y2 8) = 0 → ((wS y2 3) = 0 → wp_X13_tick_254 post  (fun a0 a1 a2 a3 a4 a5 a6 a7 a8 => wp_X13_tick_192 post   n9 a0 a1 a2 a3 a4 a5 a6 a7 a8) y2 y4 y5 ((nI (nS (rS y2 8))) - 1) (rS y2 8) (rS y2 9) tS nS rS wS bS sS) ∧ (¬ (wS y2 3) = 0 → wp_X13_tick_254 post  (fun a0 a1 a2 a3 a4 a5 a6 a7 a8 => wp_X13_tick_192 post   n9 a0 a1 a2 a3 a4 a5 a6 a7 a8) y2 y4 y5 0 (rS y2 8) (rS y2 9) tS nS rS wS bS sS))))
set_option maxHeartbeats 4000000 in
set_option maxRecDepth 100000 in
theorem t_X13_tick_192 : ∀ {p : Program} {l : Launch} {e : Env} {s : State} {m : MethodId} {args : Array Value} {below : List Frame} {meth : Method} {c : Code} {D : va_G} {tc : Nat → ClassId} {h0 : Nat} {sa : Nat → Nat} {Am : Nat → Prop} {b0 s0 : Nat} {t0 : Nat → Nat} {post : Int32 → (Nat → Nat) → (Nat → Nat) → (Nat → Nat → Nat) → Dt → Prop}   (X : Cx p c s m meth cX13_tick 8 RX13 D tc) (hr : meth.sig.returnType = (Option.some FieldType.int)) (hT : ST h0 sa s s.heap) (hA0 : ∀ q, Am q → h0 ≤ q) (hAm9 : ∀ x, s.heap.size ≤ x → Am x)  (n9 : Nat), ∀ (y2 : Nat) (y4 : Int32) (y5 : Int32) (tS : Nat → Nat) (nS : Nat → Nat) (rS : Nat → Nat → Nat) (wS : Dt) (bS : Nat) (sS : Nat) (H : Heap) (locs : List Loc) (ls : Array Slot) (AS : Nat → Prop) (cells slots : Nat), wp_X13_tick_192 post   n9 y2 y4 y5 tS nS rS wS bS sS → SB D tc (sa 3) AS tS nS rS wS H → (tS y2 = 5) → (∀ x, AS x → Am x) → (∀ x, H.size ≤ x → AS x) → Ext t0 tS → cells + bS ≤ b0 → slots + sS ≤ s0 → va_S Am s.heap H locs → lv_has ls 8 [(2, .ref y2), (4, .int y4), (5, .int y5)] → W p l e (rm_X13_tick b0 s0) s m args below meth c H locs cells slots (MQ below (QB (fun u : Int32 × (Nat → Nat) × (Nat → Nat) × (Nat → Nat → Nat) × Dt => post u.1 u.2.1 u.2.2.1 u.2.2.2.1 u.2.2.2.2) (fun (u : Int32 × (Nat → Nat) × (Nat → Nat) × (Nat → Nat → Nat) × Dt) (H1 : Heap) => SB D tc (sa 3) Am u.2.1 u.2.2.1 u.2.2.2.1 u.2.2.2.2 H1 ∧ Ext t0 u.2.1) (fun u : Int32 × (Nat → Nat) × (Nat → Nat) × (Nat → Nat → Nat) × Dt => some (.int u.1)) Am) args s (rm_X13_tick b0 s0).cells (rm_X13_tick b0 s0).slots Am) (F0 m 192 ls []) := by
  intro p l e s m args below meth c D tc h0 sa Am b0 s0 t0 post   X hr hT hA0 hAm9  n9
  have hx := X.1
  have hb := X.2.1
  have hown := X.2.2.2.1
  have hU := X.2.2.2.2.1.1
  induction n9 with
  | zero =>
    intro  y2 y4 y5 tS nS rS wS bS sS H locs ls AS cells slots hw
    exact hw.elim
  | succ n9 ih =>
    intro  y2 y4 y5 tS nS rS wS bS sS H locs ls AS cells slots hw hB hky2 hAS hAF hX hc hs hS hl
    unfold wp_X13_tick_192 at hw
    refine lv_iload hx hb dX13_tick_192 (lv_at hl 2 rfl) ?_
    refine lv_aload_n hx hb dX13_tick_194 rfl (lv_at hl 0 rfl) ?_
    refine g_getN X dX13_tick_195 f_X13_229 (hB.one (k := 5) hky2 rfl) 0 (v := .int (wS y2 2)) rfl rfl ?_
    refine lv_icmp_ge (tgt := 274) hx hb dX13_tick_198 (by decide) (fun c45 => ?_) (fun c45 => ?_)
    · have hw := hw.1 c45
      exact t_X13_tick_274 X hr hT hA0 hAm9  y2 y4 tS nS rS wS bS sS _ _ _ _ _ _ hw hB hky2 hAS hAF hX hc hs hS (lv_sub hl [0, 1] rfl)
    · have hw := hw.2 c45
      refine lv_aload_n hx hb dX13_tick_201 rfl (lv_at hl 0 rfl) ?_
      refine g_getN X dX13_tick_202 f_X13_241 (hB.one (k := 5) hky2 rfl) 0 (v := .int (wS y2 4)) rfl rfl ?_
      refine lv_aload_n hx hb dX13_tick_205 rfl (lv_at hl 0 rfl) ?_
      refine g_getN X dX13_tick_206 f_X13_226 (hB.one (k := 5) hky2 rfl) 0 (v := .int (wS y2 1)) rfl rfl ?_
      refine lv_icmp_gt (tgt := 274) hx hb dX13_tick_209 (by decide) (fun c56 => ?_) (fun c56 => ?_)
      · have hw := hw.1 c56
        exact t_X13_tick_274 X hr hT hA0 hAm9  y2 y4 tS nS rS wS bS sS _ _ _ _ _ _ hw hB hky2 hAS hAF hX hc hs hS (lv_sub hl [0, 1] rfl)
      · have hw := hw.2 c56
        refine lv_aload_n hx hb dX13_tick_212 rfl (lv_at hl 0 rfl) ?_
        refine g_getN X dX13_tick_213 f_X13_247 (hB.one (k := 5) hky2 rfl) 0 (v := .ref (rS y2 8)) rfl rfl ?_
        have k57 : tS (rS y2 8) = 9 := (hB.wtk hky2).1
        obtain ⟨fs9, hat9⟩ := hB.lat (isL_of k57)
        refine g_after5 (st0 := [.ref (rS y2 8)]) (rest := []) (g_F X mf_X13_256 (c_emp l D tc h0 sa _ (rS y2 8) hB (isL_of k57)) rfl hat9 hT hS hA0 dX13_tick_216 hl.1 rfl rfl ⟨Nat.le_of_ble_eq_true rfl, Nat.le_of_ble_eq_true rfl⟩ (Nat.le_of_ble_eq_true rfl) ⟨show cells + 0 ≤ b0 by omega, show slots + 0 ≤ s0 by omega⟩) hS (fun _ h => h.elim) (fun u => .int (if nS (rS y2 8) = 0 then 1 else 0) :: []) (fun _ => rfl) (fun u H9 locs hu hP9 hz9 hk9 hS => ?_)
        have e9 : H9 = _ := hP9
        rw [e9] at hS ⊢
        refine W.widen (k := cells) (n := slots) (Nat.le_refl _) (Nat.le_refl _) ?_
        refine lv_if_ne (tgt := 274) hx hb dX13_tick_221 (by decide) (fun c58 => ?_) (fun c58 => ?_)
        · have hw := hw.1 (em_ne c58)
          exact t_X13_tick_274 X hr hT hA0 hAm9  y2 y4 tS nS rS wS bS sS _ _ _ _ _ _ hw hB hky2 hAS hAF hX hc hs hS (lv_sub hl [0, 1] rfl)
        · have hw := hw.2 (em_eq c58)
          refine lv_aload_n hx hb dX13_tick_224 rfl (lv_at hl 0 rfl) ?_
          refine g_getN X dX13_tick_225 f_X13_260 (hB.one (k := 5) hky2 rfl) 0 (v := .ref (rS y2 9)) rfl rfl ?_
          have k59 : tS (rS y2 9) = 9 := (hB.wtk hky2).2
          refine lv_aload_n hx hb dX13_tick_228 rfl (lv_at hl 0 rfl) ?_
          refine g_getN X dX13_tick_229 f_X13_247 (hB.one (k := 5) hky2 rfl) 0 (v := .ref (rS y2 8)) rfl rfl ?_
          have k60 : tS (rS y2 8) = 9 := (hB.wtk hky2).1
          refine lv_aload_n hx hb dX13_tick_232 rfl (lv_at hl 0 rfl) ?_
          refine g_getN X dX13_tick_233 f_X13_232 (hB.one (k := 5) hky2 rfl) 0 (v := .int (wS y2 3)) rfl rfl ?_
          refine lv_if_eq (tgt := 243) hx hb dX13_tick_236 (by decide) (fun c61 => ?_) (fun c61 => ?_)
          · have hw := hw.1 c61
            refine lv_aload_n hx hb dX13_tick_243 rfl (lv_at hl 0 rfl) ?_
            refine g_getN X dX13_tick_244 f_X13_247 (hB.one (k := 5) hky2 rfl) 0 (v := .ref (rS y2 8)) rfl rfl ?_
            have k62 : tS (rS y2 8) = 9 := (hB.wtk hky2).1
            obtain ⟨fs9, hat9⟩ := hB.lat (isL_of k62)
            refine g_after5 (st0 := [.ref (rS y2 8), .ref (rS y2 8), .ref (rS y2 9)]) (rest := [.ref (rS y2 8), .ref (rS y2 9)]) (g_F X mf_X13_7 (c_size l D tc h0 sa _ (rS y2 8) hB (isL_of k62)) rfl hat9 hT hS hA0 dX13_tick_247 hl.1 rfl rfl ⟨Nat.le_of_ble_eq_true rfl, Nat.le_of_ble_eq_true rfl⟩ (Nat.le_of_ble_eq_true rfl) ⟨show cells + 0 ≤ b0 by omega, show slots + 0 ≤ s0 by omega⟩) hS (fun _ h => h.elim) (fun u => .int (nI (nS (rS y2 8))) :: [.ref (rS y2 8), .ref (rS y2 9)]) (fun _ => rfl) (fun u H9 locs hu hP9 hz9 hk9 hS => ?_)
            have e9 : H9 = _ := hP9
            rw [e9] at hS ⊢
            refine W.widen (k := cells) (n := slots) (Nat.le_refl _) (Nat.le_refl _) ?_
            refine lv_iconst (v := 1) hx hb dX13_tick_252 (by decide) ?_
            refine lv_isub hx hb dX13_tick_253 ?_
            exact t_X13_tick_254 X hr hT hA0 hAm9 ih y2 y4 y5 ((nI (nS (rS y2 8))) - 1) (rS y2 8) (rS y2 9) tS nS rS wS bS sS _ _ _ _ _ _ hw hB hky2 k60 k59 hAS hAF hX hc hs hS (lv_sub hl [0, 1, 2] rfl)
          · have hw := hw.2 c61
            refine lv_iconst (v := 0) hx hb dX13_tick_239 (by decide) ?_
            refine lv_goto (tgt := 254) hx hb dX13_tick_240 (by decide) ?_
            exact t_X13_tick_254 X hr hT hA0 hAm9 ih y2 y4 y5 0 (rS y2 8) (rS y2 9) tS nS rS wS bS sS _ _ _ _ _ _ hw hB hky2 k60 k59 hAS hAF hX hc hs hS (lv_sub hl [0, 1, 2] rfl)
def wp_X13_tick_189 (post : Int32 → (Nat → Nat) → (Nat → Nat) → (Nat → Nat → Nat) → Dt → Prop)   (y2 : Nat) (y4 : Int32) (tS : Nat → Nat) (nS : Nat → Nat) (rS : Nat → Nat → Nat) (wS : Dt) (bS : Nat) (sS : Nat) : Prop := ∃ k9 : Nat, wp_X13_tick_192 post   k9 y2 y4 0 tS nS rS wS bS sS
set_option maxHeartbeats 4000000 in
set_option maxRecDepth 100000 in
theorem t_X13_tick_189 : ∀ {p : Program} {l : Launch} {e : Env} {s : State} {m : MethodId} {args : Array Value} {below : List Frame} {meth : Method} {c : Code} {D : va_G} {tc : Nat → ClassId} {h0 : Nat} {sa : Nat → Nat} {Am : Nat → Prop} {b0 s0 : Nat} {t0 : Nat → Nat} {post : Int32 → (Nat → Nat) → (Nat → Nat) → (Nat → Nat → Nat) → Dt → Prop}   (X : Cx p c s m meth cX13_tick 8 RX13 D tc) (hr : meth.sig.returnType = (Option.some FieldType.int)) (hT : ST h0 sa s s.heap) (hA0 : ∀ q, Am q → h0 ≤ q) (hAm9 : ∀ x, s.heap.size ≤ x → Am x) , ∀ (y2 : Nat) (y4 : Int32) (tS : Nat → Nat) (nS : Nat → Nat) (rS : Nat → Nat → Nat) (wS : Dt) (bS : Nat) (sS : Nat) (H : Heap) (locs : List Loc) (ls : Array Slot) (AS : Nat → Prop) (cells slots : Nat), wp_X13_tick_189 post   y2 y4 tS nS rS wS bS sS → SB D tc (sa 3) AS tS nS rS wS H → (tS y2 = 5) → (∀ x, AS x → Am x) → (∀ x, H.size ≤ x → AS x) → Ext t0 tS → cells + bS ≤ b0 → slots + sS ≤ s0 → va_S Am s.heap H locs → lv_has ls 8 [(2, .ref y2), (4, .int y4)] → W p l e (rm_X13_tick b0 s0) s m args below meth c H locs cells slots (MQ below (QB (fun u : Int32 × (Nat → Nat) × (Nat → Nat) × (Nat → Nat → Nat) × Dt => post u.1 u.2.1 u.2.2.1 u.2.2.2.1 u.2.2.2.2) (fun (u : Int32 × (Nat → Nat) × (Nat → Nat) × (Nat → Nat → Nat) × Dt) (H1 : Heap) => SB D tc (sa 3) Am u.2.1 u.2.2.1 u.2.2.2.1 u.2.2.2.2 H1 ∧ Ext t0 u.2.1) (fun u : Int32 × (Nat → Nat) × (Nat → Nat) × (Nat → Nat → Nat) × Dt => some (.int u.1)) Am) args s (rm_X13_tick b0 s0).cells (rm_X13_tick b0 s0).slots Am) (F0 m 189 ls []) := by
  intro p l e s m args below meth c D tc h0 sa Am b0 s0 t0 post   X hr hT hA0 hAm9   y2 y4 tS nS rS wS bS sS H locs ls AS cells slots hw hB hky2 hAS hAF hX hc hs hS hl
  have hx := X.1
  have hb := X.2.1
  have hown := X.2.2.2.1
  have hU := X.2.2.2.2.1.1
  unfold wp_X13_tick_189 at hw
  refine lv_iconst (v := 0) hx hb dX13_tick_189 (by decide) ?_
  refine lv_istore (lv' := [(5, .int 0), (2, .ref y2), (4, .int y4)]) hx hb dX13_tick_190 hl (by decide) rfl (fun ls hl => ?_)
  obtain ⟨k9, hw⟩ := hw
  exact t_X13_tick_192 X hr hT hA0 hAm9  k9 y2 y4 0 tS nS rS wS bS sS _ _ _ _ _ _ hw hB hky2 hAS hAF hX hc hs hS (lv_sub hl [1, 2, 0] rfl)
def wp_X13_tick_86 (post : Int32 → (Nat → Nat) → (Nat → Nat) → (Nat → Nat → Nat) → Dt → Prop)   : Nat → (Nat) → (Nat) → (Int32) → (Nat) → (Int32) → (Int32) → (Nat → Nat) → (Nat → Nat) → (Nat → Nat → Nat) → (Dt) → (Nat) → (Nat) → Prop
  | 0, _, _, _, _, _, _, _, _, _, _, _, _ => False
  | n9 + 1, y0, y2, y3, y4, y5, y6, tS, nS, rS, wS, bS, sS => (y5 ≤ y6 → vp_in (wS y2 5) 10 ∧ (∀ v22 : Int32, v22 = (wS (rS (rS y0 1) 0) (wS y2 5).toNatClampNeg) → (1 ≤ bS ∧ (3 ≤ sS ∧ (∀ q26 : Nat, tS q26 = 0 → (∀ tS29 : Nat → Nat, tS29 = va_up tS q26 23 → (∀ wS30 : Dt, wS30 = va_up wS q26 (fun _ => 0) → (∀ wS34 : Dt, wS34 = up2 wS30 q26 0 (wS30 y2 5) → (∀ wS35 : Dt, wS35 = up2 wS34 q26 1 v22 → (∀ wS36 : Dt, wS36 = up2 wS35 q26 2 y3 → (nS (rS y2 8) < 400 ∧ (1 ≤ (bS - 1) ∧ ((2 * (nS (rS y2 8)) + 10) ≤ (sS - 3) ∧ (∀ nS40 : Nat → Nat, nS40 = va_up nS (rS y2 8) (nS (rS y2 8) + 1) → (∀ rS41 : Nat → Nat → Nat, rS41 = va_up rS (rS y2 8) (va_up (rS (rS y2 8)) (nS (rS y2 8)) q26) → (∀ wS42 : Dt, wS42 = up2 wS36 (rS y2 8) 0 (wS36 (rS y2 8) 0 + 1) → (((nI (nS40 (rS41 y2 8))) ≤ 6 → wp_X13_tick_189 post   y2 v22 tS29 nS40 rS41 wS42 ((bS - 1) - 1) ((sS - 3) - (2 * (nS (rS y2 8)) + 10))) ∧ (¬ (nI (nS40 (rS41 y2 8))) ≤ 6 → vp_in (0 : Int32) (nS40 (rS41 y2 8)) ∧ (∀ nS77 : Nat → Nat, nS77 = va_up nS40 (rS41 y2 8) (nS40 (rS41 y2 8) - 1) → (∀ rS78 : Nat → Nat → Nat, rS78 = va_up rS41 (rS41 y2 8) (fun j => if j < (0 : Int32).toNatClampNeg then rS41 (rS41 y2 8) j else rS41 (rS41 y2 8) (j + 1)) → (∀ wS79 : Dt, wS79 = up2 wS42 (rS41 y2 8) 0 (wS42 (rS41 y2 8) 0 + 1) → (∀ wS80 : Dt, wS80 = up2 wS79 y2 7 ((wS79 y2 7) + 1) → (wp_X13_tick_189 post   y2 v22 tS29 nS77 rS78 wS80 ((bS - 1) - 1) ((sS - 3) - (2 * (nS (rS y2 8)) + 10))))))))))))))))))))))))) ∧ (¬ y5 ≤ y6 → vp_in y6 3 ∧ (∀ v82 : Int32, v82 = (y3 + (wS y4 y6.toNatClampNeg)) → (wp_X13_tick_86 post   n9 y0 y2 v82 y4 y5 (y6 + 1) tS nS rS wS bS sS)))
set_option maxHeartbeats 4000000 in
set_option maxRecDepth 100000 in
theorem t_X13_tick_86 : ∀ {p : Program} {l : Launch} {e : Env} {s : State} {m : MethodId} {args : Array Value} {below : List Frame} {meth : Method} {c : Code} {D : va_G} {tc : Nat → ClassId} {h0 : Nat} {sa : Nat → Nat} {Am : Nat → Prop} {b0 s0 : Nat} {t0 : Nat → Nat} {post : Int32 → (Nat → Nat) → (Nat → Nat) → (Nat → Nat → Nat) → Dt → Prop}   (X : Cx p c s m meth cX13_tick 8 RX13 D tc) (hr : meth.sig.returnType = (Option.some FieldType.int)) (hT : ST h0 sa s s.heap) (hA0 : ∀ q, Am q → h0 ≤ q) (hAm9 : ∀ x, s.heap.size ≤ x → Am x)  (n9 : Nat), ∀ (y0 : Nat) (y2 : Nat) (y3 : Int32) (y4 : Nat) (y5 : Int32) (y6 : Int32) (tS : Nat → Nat) (nS : Nat → Nat) (rS : Nat → Nat → Nat) (wS : Dt) (bS : Nat) (sS : Nat) (H : Heap) (locs : List Loc) (ls : Array Slot) (AS : Nat → Prop) (cells slots : Nat), wp_X13_tick_86 post   n9 y0 y2 y3 y4 y5 y6 tS nS rS wS bS sS → SB D tc (sa 3) AS tS nS rS wS H → (tS y0 = 7) → (tS y2 = 5) → (tS y4 = 23) → (∀ x, AS x → Am x) → (∀ x, H.size ≤ x → AS x) → Ext t0 tS → cells + bS ≤ b0 → slots + sS ≤ s0 → va_S Am s.heap H locs → lv_has ls 8 [(0, .ref y0), (2, .ref y2), (3, .int y3), (4, .ref y4), (5, .int y5), (6, .int y6)] → W p l e (rm_X13_tick b0 s0) s m args below meth c H locs cells slots (MQ below (QB (fun u : Int32 × (Nat → Nat) × (Nat → Nat) × (Nat → Nat → Nat) × Dt => post u.1 u.2.1 u.2.2.1 u.2.2.2.1 u.2.2.2.2) (fun (u : Int32 × (Nat → Nat) × (Nat → Nat) × (Nat → Nat → Nat) × Dt) (H1 : Heap) => SB D tc (sa 3) Am u.2.1 u.2.2.1 u.2.2.2.1 u.2.2.2.2 H1 ∧ Ext t0 u.2.1) (fun u : Int32 × (Nat → Nat) × (Nat → Nat) × (Nat → Nat → Nat) × Dt => some (.int u.1)) Am) args s (rm_X13_tick b0 s0).cells (rm_X13_tick b0 s0).slots Am) (F0 m 86 ls []) := by
  intro p l e s m args below meth c D tc h0 sa Am b0 s0 t0 post   X hr hT hA0 hAm9  n9
  have hx := X.1
  have hb := X.2.1
  have hown := X.2.2.2.1
  have hU := X.2.2.2.2.1.1
  induction n9 with
  | zero =>
    intro  y0 y2 y3 y4 y5 y6 tS nS rS wS bS sS H locs ls AS cells slots hw
    exact hw.elim
  | succ n9 ih =>
    intro  y0 y2 y3 y4 y5 y6 tS nS rS wS bS sS H locs ls AS cells slots hw hB hky0 hky2 hky4 hAS hAF hX hc hs hS hl
    unfold wp_X13_tick_86 at hw
    refine lv_iload hx hb dX13_tick_86 (lv_at hl 5 rfl) ?_
    refine lv_iload hx hb dX13_tick_88 (lv_at hl 4 rfl) ?_
    refine lv_icmp_ge (tgt := 111) hx hb dX13_tick_90 (by decide) (fun c18 => ?_) (fun c18 => ?_)
    · have hw := hw.1 c18
      refine lv_aload_n hx hb dX13_tick_111 rfl (lv_at hl 0 rfl) ?_
      refine g_get X dX13_tick_112 f_X13_34 (hB.one (k := 7) hky0 rfl) 0 (v := .ref (rS y0 1)) rfl rfl ?_
      have k19 : tS (rS y0 1) = 4 := (hB.wtk hky0).1
      refine g_getN X dX13_tick_115 f_X13_51 (hB.one (k := 4) k19 rfl) 0 (v := .ref (rS (rS y0 1) 0)) rfl rfl ?_
      have k20 : tS (rS (rS y0 1) 0) = 1 := (hB.wtk k19).1
      refine lv_aload_n hx hb dX13_tick_118 rfl (lv_at hl 1 rfl) ?_
      refine g_getN X dX13_tick_119 f_X13_244 (hB.one (k := 5) hky2 rfl) 0 (v := .int (wS y2 5)) rfl rfl ?_
      obtain ⟨o21, hw⟩ := hw
      refine g_iald X dX13_tick_122 (hB.one (k := 1) k20 rfl) 0 rfl o21 rfl ?_
      refine lv_topi (fun v22 ev22 => ?_)
      have hw := hw v22 ev22
      refine lv_istore (lv' := [(4, .int v22), (0, .ref y0), (2, .ref y2), (3, .int y3), (5, .int y5), (6, .int y6)]) hx hb dX13_tick_123 hl (by decide) rfl (fun ls hl => ?_)
      refine lv_aload_n hx hb dX13_tick_125 rfl (lv_at hl 2 rfl) ?_
      refine g_getN X dX13_tick_126 f_X13_247 (hB.one (k := 5) hky2 rfl) 0 (v := .ref (rS y2 8)) rfl rfl ?_
      have k23 : tS (rS y2 8) = 9 := (hB.wtk hky2).1
      refine lv_iconst (v := 3) hx hb dX13_tick_129 (by decide) ?_
      obtain ⟨o24, hw⟩ := hw
      obtain ⟨o25, hw⟩ := hw
      refine x_newa (A := Am) (n := 3) (N := 3) X (by decide) rfl (by decide) hS hAm9 ⟨show cells + 1 ≤ b0 by omega, show slots + 3 ≤ s0 by omega⟩ dX13_tick_130 (fun q26 H hq9 hat9 hAq hz9 hqz o1 hS => ?_)
      obtain ⟨z27, hB, hX9, k28⟩ := hB.make (k := 23) (W := (fun _ => 0)) (hAF q26 hq9) hq9 o1 rfl hat9 trivial
      have hAF : ∀ x, H.size ≤ x → AS x := fun x h => hAF x (by omega)
      have hw := hw q26 z27
      obtain ⟨tS29, etS29⟩ : ∃ z : Nat → Nat, z = va_up tS q26 23 := ⟨_, rfl⟩
      rw [← etS29] at hB hX9 k28
      have hw := hw tS29 etS29
      obtain ⟨wS30, ewS30⟩ : ∃ z : Dt, z = va_up wS q26 (fun _ => 0) := ⟨_, rfl⟩
      rw [← ewS30] at hB
      have hw := hw wS30 ewS30
      have hX := hX.trans hX9
      have k31 : tS29 y0 = 7 := hX9.to hky0
      have k32 : tS29 y2 = 5 := hX9.to hky2
      have k33 : tS29 (rS y2 8) = 9 := hX9.to k23
      refine W_bud (b := (bS - 1)) (s1 := (sS - 3)) (B := b0) (S := s0) (show (cells + 1) + (bS - 1) ≤ b0 by omega) (show (slots + 3) + (sS - 3) ≤ s0 by omega) (fun cells slots hc hs => ?_)
      refine lv_dup hx hb dX13_tick_132 rfl ?_
      refine lv_iconst (v := 0) hx hb dX13_tick_133 (by decide) ?_
      refine lv_aload_n hx hb dX13_tick_134 rfl (lv_at hl 2 rfl) ?_
      refine g_getN X dX13_tick_135 f_X13_244 (hB.one (k := 5) k32 rfl) 0 (v := .int (wS30 y2 5)) rfl rfl ?_
      refine g_iast X dX13_tick_138 (hB.oneB (k := 23) hAS k28 rfl) hS 0 rfl (by unfold vp_in; decide) (k := 0) (by decide) (fun H locs hb9 oq hS => ?_)
      have hB := hB.putB k28 rfl hb9 oq
      have hAF : ∀ x, H.size ≤ x → AS x := fun x h => hAF x (Nat.le_trans (sz_of oq (hB.lt (by rw [k28]; decide)).1) h)
      obtain ⟨wS34, ewS34⟩ : ∃ z : Dt, z = up2 wS30 q26 0 (wS30 y2 5) := ⟨_, rfl⟩
      rw [← ewS34] at hB
      have hw := hw wS34 ewS34
      refine lv_dup hx hb dX13_tick_139 rfl ?_
      refine lv_iconst (v := 1) hx hb dX13_tick_140 (by decide) ?_
      refine lv_iload hx hb dX13_tick_141 (lv_at hl 0 rfl) ?_
      refine g_iast X dX13_tick_143 (hB.oneB (k := 23) hAS k28 rfl) hS 0 rfl (by unfold vp_in; decide) (k := 1) (by decide) (fun H locs hb9 oq hS => ?_)
      have hB := hB.putB k28 rfl hb9 oq
      have hAF : ∀ x, H.size ≤ x → AS x := fun x h => hAF x (Nat.le_trans (sz_of oq (hB.lt (by rw [k28]; decide)).1) h)
      obtain ⟨wS35, ewS35⟩ : ∃ z : Dt, z = up2 wS34 q26 1 v22 := ⟨_, rfl⟩
      rw [← ewS35] at hB
      have hw := hw wS35 ewS35
      refine lv_dup hx hb dX13_tick_144 rfl ?_
      refine lv_iconst (v := 2) hx hb dX13_tick_145 (by decide) ?_
      refine lv_iload_n hx hb dX13_tick_146 rfl (lv_at hl 3 rfl) ?_
      refine g_iast X dX13_tick_147 (hB.oneB (k := 23) hAS k28 rfl) hS 0 rfl (by unfold vp_in; decide) (k := 2) (by decide) (fun H locs hb9 oq hS => ?_)
      have hB := hB.putB k28 rfl hb9 oq
      have hAF : ∀ x, H.size ≤ x → AS x := fun x h => hAF x (Nat.le_trans (sz_of oq (hB.lt (by rw [k28]; decide)).1) h)
      obtain ⟨wS36, ewS36⟩ : ∃ z : Dt, z = up2 wS35 q26 2 y3 := ⟨_, rfl⟩
      rw [← ewS36] at hB
      have hw := hw wS36 ewS36
      obtain ⟨fs9, hat9⟩ := hB.lat (isL_of k33)
      obtain ⟨o37, hw⟩ := hw
      obtain ⟨o38, hw⟩ := hw
      obtain ⟨o39, hw⟩ := hw
      refine g_after5 (st0 := [.ref q26, .ref (rS y2 8)]) (rest := []) (g_F X mf_X13_142 (c_add l D tc h0 sa _ (rS y2 8) q26 hB (isL_of k33) (by rw [k33, k28]; rfl) o37 (fun x h => hA0 x (hAS x h)) hAF) rfl hat9 hT hS hA0 dX13_tick_148 hl.1 rfl rfl ⟨Nat.le_of_ble_eq_true rfl, Nat.le_of_ble_eq_true rfl⟩ (Nat.le_of_ble_eq_true rfl) ⟨show cells + 1 ≤ b0 by omega, show slots + (2 * (nS (rS y2 8)) + 10) ≤ s0 by omega⟩) hS hAS (fun u => .int 1 :: []) (fun _ => rfl) (fun u H locs hu hP9 hz9 hk9 hS => ?_)
      have hB := hP9
      have hAF : ∀ x, H.size ≤ x → AS x := fun x h => hAF x (by omega)
      refine W_bud (b := ((bS - 1) - 1)) (s1 := ((sS - 3) - (2 * (nS (rS y2 8)) + 10))) (B := b0) (S := s0) (show (cells + 1) + ((bS - 1) - 1) ≤ b0 by omega) (show (slots + (2 * (nS (rS y2 8)) + 10)) + ((sS - 3) - (2 * (nS (rS y2 8)) + 10)) ≤ s0 by omega) (fun cells slots hc hs => ?_)
      obtain ⟨nS40, enS40⟩ : ∃ z : Nat → Nat, z = va_up nS (rS y2 8) (nS (rS y2 8) + 1) := ⟨_, rfl⟩
      rw [← enS40] at hB
      have hw := hw nS40 enS40
      obtain ⟨rS41, erS41⟩ : ∃ z : Nat → Nat → Nat, z = va_up rS (rS y2 8) (va_up (rS (rS y2 8)) (nS (rS y2 8)) q26) := ⟨_, rfl⟩
      rw [← erS41] at hB
      have hw := hw rS41 erS41
      obtain ⟨wS42, ewS42⟩ : ∃ z : Dt, z = up2 wS36 (rS y2 8) 0 (wS36 (rS y2 8) 0 + 1) := ⟨_, rfl⟩
      rw [← ewS42] at hB
      have hw := hw wS42 ewS42
      refine lv_pop hx hb dX13_tick_153 rfl ?_
      refine lv_aload_n hx hb dX13_tick_154 rfl (lv_at hl 2 rfl) ?_
      refine g_getN X dX13_tick_155 f_X13_247 (hB.one (k := 5) k32 rfl) 0 (v := .ref (rS41 y2 8)) rfl rfl ?_
      have k43 : tS29 (rS41 y2 8) = 9 := (hB.wtk k32).1
      obtain ⟨fs9, hat9⟩ := hB.lat (isL_of k43)
      refine g_after5 (st0 := [.ref (rS41 y2 8)]) (rest := []) (g_F X mf_X13_7 (c_size l D tc h0 sa _ (rS41 y2 8) hB (isL_of k43)) rfl hat9 hT hS hA0 dX13_tick_158 hl.1 rfl rfl ⟨Nat.le_of_ble_eq_true rfl, Nat.le_of_ble_eq_true rfl⟩ (Nat.le_of_ble_eq_true rfl) ⟨show cells + 0 ≤ b0 by omega, show slots + 0 ≤ s0 by omega⟩) hS (fun _ h => h.elim) (fun u => .int (nI (nS40 (rS41 y2 8))) :: []) (fun _ => rfl) (fun u H9 locs hu hP9 hz9 hk9 hS => ?_)
      have e9 : H9 = _ := hP9
      rw [e9] at hS ⊢
      refine W.widen (k := cells) (n := slots) (Nat.le_refl _) (Nat.le_refl _) ?_
      refine lv_bipush (v := 6) hx hb dX13_tick_163 (by decide) ?_
      refine lv_icmp_le (tgt := 189) hx hb dX13_tick_165 (by decide) (fun c44 => ?_) (fun c44 => ?_)
      · have hw := hw.1 c44
        exact t_X13_tick_189 X hr hT hA0 hAm9  y2 v22 tS29 nS40 rS41 wS42 ((bS - 1) - 1) ((sS - 3) - (2 * (nS (rS y2 8)) + 10)) _ _ _ _ _ _ hw hB k32 hAS hAF hX hc hs hS (lv_sub hl [2, 0] rfl)
      · have hw := hw.2 c44
        refine lv_aload_n hx hb dX13_tick_168 rfl (lv_at hl 2 rfl) ?_
        refine g_getN X dX13_tick_169 f_X13_247 (hB.one (k := 5) k32 rfl) 0 (v := .ref (rS41 y2 8)) rfl rfl ?_
        have k74 : tS29 (rS41 y2 8) = 9 := (hB.wtk k32).1
        refine lv_iconst (v := 0) hx hb dX13_tick_172 (by decide) ?_
        obtain ⟨fs9, hat9⟩ := hB.lat (isL_of k74)
        obtain ⟨o75, hw⟩ := hw
        have k76 : tS29 (rS41 (rS41 y2 8) (0 : Int32).toNatClampNeg) = 23 := hB.elt k74 (lt10 o75)
        refine g_after5 (st0 := [.int 0, .ref (rS41 y2 8)]) (rest := []) (g_F X mf_X13_250 (c_rem l D tc h0 sa _ (rS41 y2 8) hB (isL_of k74) o75 (fun x h => hA0 x (hAS x h)) hAF) rfl hat9 hT hS hA0 dX13_tick_173 hl.1 rfl rfl ⟨Nat.le_of_ble_eq_true rfl, Nat.le_of_ble_eq_true rfl⟩ (Nat.le_of_ble_eq_true rfl) ⟨show cells + 0 ≤ b0 by omega, show slots + 0 ≤ s0 by omega⟩) hS hAS (fun u => .ref (rS41 (rS41 y2 8) (0 : Int32).toNatClampNeg) :: []) (fun _ => rfl) (fun u H locs hu hP9 hz9 hk9 hS => ?_)
        have hB := hP9
        have hAF : ∀ x, H.size ≤ x → AS x := fun x h => hAF x (by omega)
        refine W.widen (k := cells) (n := slots) (Nat.le_refl _) (Nat.le_refl _) ?_
        obtain ⟨nS77, enS77⟩ : ∃ z : Nat → Nat, z = va_up nS40 (rS41 y2 8) (nS40 (rS41 y2 8) - 1) := ⟨_, rfl⟩
        rw [← enS77] at hB
        have hw := hw nS77 enS77
        obtain ⟨rS78, erS78⟩ : ∃ z : Nat → Nat → Nat, z = va_up rS41 (rS41 y2 8) (fun j => if j < (0 : Int32).toNatClampNeg then rS41 (rS41 y2 8) j else rS41 (rS41 y2 8) (j + 1)) := ⟨_, rfl⟩
        rw [← erS78] at hB
        have hw := hw rS78 erS78
        obtain ⟨wS79, ewS79⟩ : ∃ z : Dt, z = up2 wS42 (rS41 y2 8) 0 (wS42 (rS41 y2 8) 0 + 1) := ⟨_, rfl⟩
        rw [← ewS79] at hB
        have hw := hw wS79 ewS79
        refine lv_pop hx hb dX13_tick_178 rfl ?_
        refine lv_aload_n hx hb dX13_tick_179 rfl (lv_at hl 2 rfl) ?_
        refine lv_dup hx hb dX13_tick_180 rfl ?_
        refine g_getN X dX13_tick_181 f_X13_253 (hB.one (k := 5) k32 rfl) 0 (v := .int (wS79 y2 7)) rfl rfl ?_
        refine lv_iconst (v := 1) hx hb dX13_tick_184 (by decide) ?_
        refine lv_iadd hx hb dX13_tick_185 ?_
        refine g_putiN X dX13_tick_186 f_X13_253 (hB.oneB (k := 5) hAS k32 rfl) hS (x := ((wS79 y2 7) + 1)) rfl rfl rfl (fun H locs hb9 oq hS => ?_)
        have hB := hB.putB k32 rfl hb9 oq
        have hAF : ∀ x, H.size ≤ x → AS x := fun x h => hAF x (Nat.le_trans (sz_of oq (hB.lt (by rw [k32]; decide)).1) h)
        obtain ⟨wS80, ewS80⟩ : ∃ z : Dt, z = up2 wS79 y2 7 ((wS79 y2 7) + 1) := ⟨_, rfl⟩
        rw [← ewS80] at hB
        have hw := hw wS80 ewS80
        exact t_X13_tick_189 X hr hT hA0 hAm9  y2 v22 tS29 nS77 rS78 wS80 ((bS - 1) - 1) ((sS - 3) - (2 * (nS (rS y2 8)) + 10)) _ _ _ _ _ _ hw hB k32 hAS hAF hX hc hs hS (lv_sub hl [2, 0] rfl)
    · have hw := hw.2 c18
      refine lv_aload hx hb dX13_tick_93 (lv_at hl 3 rfl) ?_
      refine lv_iload hx hb dX13_tick_95 (lv_at hl 5 rfl) ?_
      obtain ⟨o81, hw⟩ := hw
      refine g_iald X dX13_tick_97 (hB.one (k := 23) hky4 rfl) 0 rfl o81 rfl ?_
      refine lv_istore (lv' := [(7, .int (wS y4 y6.toNatClampNeg)), (0, .ref y0), (2, .ref y2), (3, .int y3), (4, .ref y4), (5, .int y5), (6, .int y6)]) hx hb dX13_tick_98 hl (by decide) rfl (fun ls hl => ?_)
      refine lv_iload_n hx hb dX13_tick_100 rfl (lv_at hl 3 rfl) ?_
      refine lv_iload hx hb dX13_tick_101 (lv_at hl 0 rfl) ?_
      refine lv_iadd hx hb dX13_tick_103 ?_
      refine lv_topi (fun v82 ev82 => ?_)
      have hw := hw v82 ev82
      refine lv_istore_n (lv' := [(3, .int v82), (7, .int (wS y4 y6.toNatClampNeg)), (0, .ref y0), (2, .ref y2), (4, .ref y4), (5, .int y5), (6, .int y6)]) hx hb dX13_tick_104 rfl hl (by decide) rfl (fun ls hl => ?_)
      refine lv_iinc (lv' := [(6, .int (y6 + 1)), (3, .int v82), (7, .int (wS y4 y6.toNatClampNeg)), (0, .ref y0), (2, .ref y2), (4, .ref y4), (5, .int y5)]) hx hb dX13_tick_105 hl (k := 6) rfl (by rfl) (by decide) rfl (fun ls hl => ?_)
      refine lv_goto (tgt := 86) hx hb dX13_tick_108 (by decide) ?_
      exact ih y0 y2 v82 y4 y5 (y6 + 1) tS nS rS wS bS sS _ _ _ _ _ _ hw hB hky0 hky2 hky4 hAS hAF hX hc hs hS (lv_sub hl [3, 4, 1, 5, 6, 0] rfl)
def wp_X13_tick (post : Int32 → (Nat → Nat) → (Nat → Nat) → (Nat → Nat → Nat) → Dt → Prop)  (tS : Nat → Nat) (nS : Nat → Nat) (rS : Nat → Nat → Nat) (wS : Dt) (bS : Nat) (sS : Nat) (x0 : Nat) (x1 : Int32) : Prop := wp_X13_begins (fun wS1 => wp_X13_noProbe (fun r2 wS3 => (¬ r2 = 0 → wp_X13_tick_36 post   tS nS rS wS3 bS sS) ∧ (r2 = 0 → vp_in x1 (nS (rS x0 3)) ∧ (wp_X13_fails (fun r8 wS9 => (r8 = 0 → ∀ wS13 : Dt, wS13 = up2 wS9 (rS (rS x0 3) x1.toNatClampNeg) 4 ((wS9 (rS (rS x0 3) x1.toNatClampNeg) 4) + 1) → (vp_in (wS13 (rS (rS x0 3) x1.toNatClampNeg) 5) 10 ∧ (∃ k9 : Nat, wp_X13_tick_86 post   k9 x0 (rS (rS x0 3) x1.toNatClampNeg) 0 (rS (rS (rS x0 1) 2) (wS13 (rS (rS x0 3) x1.toNatClampNeg) 5).toNatClampNeg) (nI 3) 0 tS nS rS wS13 bS sS))) ∧ (¬ r8 = 0 → wp_X13_tick_36 post   tS nS rS wS9 bS sS)) tS nS rS wS3 x0 (wS3 (rS (rS x0 3) x1.toNatClampNeg) 6) 2))) tS nS rS wS1 x0 x1) tS nS rS wS x0
set_option maxHeartbeats 4000000 in
set_option maxRecDepth 100000 in
theorem c_X13_tick (l : Launch) (D : va_G) (tc : Nat → ClassId) (h0 : Nat) (sa : Nat → Nat) (x0 : Nat) (x1 : Int32) (b0 s0 : Nat) {Am : Nat → Prop} (H0 : Heap) {tS nS : Nat → Nat} {rS : Nat → Nat → Nat} {wS : Dt} (hB : SB D tc (sa 3) Am tS nS rS wS H0) (hkx0 : tS x0 = 7) (hA0 : ∀ q, Am q → h0 ≤ q) (hAF : ∀ x, H0.size ≤ x → Am x) {post : Int32 → (Nat → Nat) → (Nat → Nat) → (Nat → Nat → Nat) → Dt → Prop} (hw : wp_X13_tick post  tS nS rS wS b0 s0 x0 x1) : MB l yX13_tick cX13_tick 8 (Option.some FieldType.int) (rm_X13_tick b0 s0) Am [.ref x0, .int x1] D tc h0 sa H0 (fun u : Int32 × (Nat → Nat) × (Nat → Nat) × (Nat → Nat → Nat) × Dt => post u.1 u.2.1 u.2.2.1 u.2.2.2.1 u.2.2.2.2) (fun (u : Int32 × (Nat → Nat) × (Nat → Nat) × (Nat → Nat → Nat) × Dt) (H1 : Heap) => SB D tc (sa 3) Am u.2.1 u.2.2.1 u.2.2.2.1 u.2.2.2.2 H1 ∧ Ext tS u.2.1) (fun u : Int32 × (Nat → Nat) × (Nat → Nat) × (Nat → Nat → Nat) × Dt => some (.int u.1)) := by
  refine MB.of RX13 [(0, .ref x0), (1, .int x1)] (by decide +kernel) rfl (Nat.le_of_ble_eq_true rfl) rfl ?_
  intro p e s m below meth c ls X hr hin hT hH hS hl
  subst hH
  have hx := X.1
  have hb := X.2.1
  have hown := X.2.2.2.1
  have hU := X.2.2.2.2.1.1
  unfold wp_X13_tick at hw
  obtain ⟨A, eA⟩ : ∃ z, z = Am := ⟨_, rfl⟩
  have hB : SB D tc (sa 3) A tS nS rS wS s.heap := by rw [eA]; exact hB
  have hAm9 := hAF
  have hAF : ∀ x, s.heap.size ≤ x → A x := by rw [eA]; exact hAF
  have hAS : ∀ x, A x → Am x := by rw [eA]; exact fun _ h => h
  have hX : Ext tS tS := Ext.rf
  obtain ⟨bS, ebS⟩ : ∃ z, z = b0 := ⟨_, rfl⟩
  obtain ⟨sS, esS⟩ : ∃ z, z = s0 := ⟨_, rfl⟩
  rw [← ebS, ← esS] at hw
  refine W_bud (b := bS) (s1 := sS) (B := b0) (S := s0) (show 0 + bS ≤ b0 by omega) (show 0 + sS ≤ s0 by omega) (fun cells slots hc hs => ?_)
  refine lv_aload_n hx hb dX13_tick_0 rfl (lv_at hl 0 rfl) ?_
  refine g_after (st0 := [.ref x0]) (rest := []) (g_V X m_X13_61 (c_X13_begins l D tc h0 sa x0 _ hB hkx0 (fun x h => hA0 x (hAS x h)) hw) (recv1 X.2.2.2.2.1 rfl (hB.at (k := 7) hkx0 rfl)) hT hS hA0 dX13_tick_1 hl.1 rfl rfl ⟨Nat.le_of_ble_eq_true rfl, Nat.le_of_ble_eq_true rfl⟩ (Nat.le_of_ble_eq_true rfl) ⟨show cells + 0 ≤ b0 by omega, show slots + 0 ≤ s0 by omega⟩) hS hAS (fun u => []) (fun _ => rfl) (fun u H locs hw hP9 hz9 hk9 hS => ?_)
  obtain ⟨wS1, rfl⟩ : ∃ z, z = u := ⟨_, rfl⟩
  try dsimp only at hw hP9
  have hB := hP9
  have hAF : ∀ x, H.size ≤ x → A x := fun x h => hAF x (by omega)
  refine W.widen (k := cells) (n := slots) (Nat.le_refl _) (Nat.le_refl _) ?_
  refine lv_aload_n hx hb dX13_tick_4 rfl (lv_at hl 0 rfl) ?_
  refine lv_iload_n hx hb dX13_tick_5 rfl (lv_at hl 1 rfl) ?_
  refine g_after (st0 := [.int x1, .ref x0]) (rest := []) (g_V X m_X13_235 (c_X13_noProbe l D tc h0 sa x0 x1 _ hB hkx0 (fun x h => hA0 x (hAS x h)) hw) (recv1 X.2.2.2.2.1 rfl (hB.at (k := 7) hkx0 rfl)) hT hS hA0 dX13_tick_6 hl.1 rfl rfl ⟨Nat.le_of_ble_eq_true rfl, Nat.le_of_ble_eq_true rfl⟩ (Nat.le_of_ble_eq_true rfl) ⟨show cells + 0 ≤ b0 by omega, show slots + 0 ≤ s0 by omega⟩) hS hAS (fun u => .int u.1 :: []) (fun _ => rfl) (fun u H locs hw hP9 hz9 hk9 hS => ?_)
  obtain ⟨r2, wS3⟩ := u
  try dsimp only at hw hP9
  have hB := hP9
  have hAF : ∀ x, H.size ≤ x → A x := fun x h => hAF x (by omega)
  refine W.widen (k := cells) (n := slots) (Nat.le_refl _) (Nat.le_refl _) ?_
  refine lv_if_ne (tgt := 36) hx hb dX13_tick_9 (by decide) (fun c4 => ?_) (fun c4 => ?_)
  · have hw := hw.1 c4
    exact t_X13_tick_36 X hr hT hA0 hAm9  tS nS rS wS3 bS sS _ _ _ _ _ _ hw hB  hAS hAF hX hc hs hS (lv_sub hl [] rfl)
  · have hw := hw.2 c4
    refine lv_aload_n hx hb dX13_tick_12 rfl (lv_at hl 0 rfl) ?_
    refine lv_aload_n hx hb dX13_tick_13 rfl (lv_at hl 0 rfl) ?_
    refine g_get X dX13_tick_14 f_X13_45 (hB.one (k := 7) hkx0 rfl) 0 (v := .ref (rS x0 3)) rfl rfl ?_
    have k5 : tS (rS x0 3) = 11 := (hB.wtk hkx0).2.2.1
    refine lv_iload_n hx hb dX13_tick_17 rfl (lv_at hl 1 rfl) ?_
    obtain ⟨fs9, hat9⟩ := hB.lat (isL_of k5)
    obtain ⟨o6, hw⟩ := hw
    refine g_after5 (st0 := [.int x1, .ref (rS x0 3), .ref x0]) (rest := [.ref x0]) (g_F X mf_X13_163 (c_get l D tc h0 sa _ (rS x0 3) hB (isL_of k5) o6) rfl hat9 hT hS hA0 dX13_tick_18 hl.1 rfl rfl ⟨Nat.le_of_ble_eq_true rfl, Nat.le_of_ble_eq_true rfl⟩ (Nat.le_of_ble_eq_true rfl) ⟨show cells + 0 ≤ b0 by omega, show slots + 0 ≤ s0 by omega⟩) hS (fun _ h => h.elim) (fun u => .ref (rS (rS x0 3) x1.toNatClampNeg) :: [.ref x0]) (fun _ => rfl) (fun u H9 locs hu hP9 hz9 hk9 hS => ?_)
    have e9 : H9 = _ := hP9
    rw [e9] at hS ⊢
    refine W.widen (k := cells) (n := slots) (Nat.le_refl _) (Nat.le_refl _) ?_
    have k7 : tS (rS (rS x0 3) x1.toNatClampNeg) = 5 := hB.elt k5 (lt10 o6)
    refine x_cast X w_1753 rfl (hB.at (k := 5) k7 rfl) dX13_tick_23 ?_
    refine g_getN X dX13_tick_26 f_X13_238 (hB.one (k := 5) k7 rfl) 0 (v := .int (wS3 (rS (rS x0 3) x1.toNatClampNeg) 6)) rfl rfl ?_
    refine lv_iconst (v := 2) hx hb dX13_tick_29 (by decide) ?_
    refine g_after (st0 := [.int 2, .int (wS3 (rS (rS x0 3) x1.toNatClampNeg) 6), .ref x0]) (rest := []) (g_V X m_X13_57 (c_X13_fails l D tc h0 sa x0 (wS3 (rS (rS x0 3) x1.toNatClampNeg) 6) 2 _ hB hkx0 (fun x h => hA0 x (hAS x h)) hw) (recv1 X.2.2.2.2.1 rfl (hB.at (k := 7) hkx0 rfl)) hT hS hA0 dX13_tick_30 hl.1 rfl rfl ⟨Nat.le_of_ble_eq_true rfl, Nat.le_of_ble_eq_true rfl⟩ (Nat.le_of_ble_eq_true rfl) ⟨show cells + 0 ≤ b0 by omega, show slots + 0 ≤ s0 by omega⟩) hS hAS (fun u => .int u.1 :: []) (fun _ => rfl) (fun u H locs hw hP9 hz9 hk9 hS => ?_)
    obtain ⟨r8, wS9⟩ := u
    try dsimp only at hw hP9
    have hB := hP9
    have hAF : ∀ x, H.size ≤ x → A x := fun x h => hAF x (by omega)
    refine W.widen (k := cells) (n := slots) (Nat.le_refl _) (Nat.le_refl _) ?_
    refine lv_if_eq (tgt := 38) hx hb dX13_tick_33 (by decide) (fun c10 => ?_) (fun c10 => ?_)
    · have hw := hw.1 c10
      refine lv_aload_n hx hb dX13_tick_38 rfl (lv_at hl 0 rfl) ?_
      refine g_get X dX13_tick_39 f_X13_45 (hB.one (k := 7) hkx0 rfl) 0 (v := .ref (rS x0 3)) rfl rfl ?_
      have k11 : tS (rS x0 3) = 11 := (hB.wtk hkx0).2.2.1
      refine lv_iload_n hx hb dX13_tick_42 rfl (lv_at hl 1 rfl) ?_
      obtain ⟨fs9, hat9⟩ := hB.lat (isL_of k11)
      refine g_after5 (st0 := [.int x1, .ref (rS x0 3)]) (rest := []) (g_F X mf_X13_163 (c_get l D tc h0 sa _ (rS x0 3) hB (isL_of k11) o6) rfl hat9 hT hS hA0 dX13_tick_43 hl.1 rfl rfl ⟨Nat.le_of_ble_eq_true rfl, Nat.le_of_ble_eq_true rfl⟩ (Nat.le_of_ble_eq_true rfl) ⟨show cells + 0 ≤ b0 by omega, show slots + 0 ≤ s0 by omega⟩) hS (fun _ h => h.elim) (fun u => .ref (rS (rS x0 3) x1.toNatClampNeg) :: []) (fun _ => rfl) (fun u H9 locs hu hP9 hz9 hk9 hS => ?_)
      have e9 : H9 = _ := hP9
      rw [e9] at hS ⊢
      refine W.widen (k := cells) (n := slots) (Nat.le_refl _) (Nat.le_refl _) ?_
      have k12 : tS (rS (rS x0 3) x1.toNatClampNeg) = 5 := hB.elt k11 (lt10 o6)
      refine x_cast X w_1753 rfl (hB.at (k := 5) k12 rfl) dX13_tick_48 ?_
      refine lv_astore_n (lv' := [(2, .ref (rS (rS x0 3) x1.toNatClampNeg)), (0, .ref x0), (1, .int x1)]) hx hb dX13_tick_51 rfl hl (by decide) rfl (fun ls hl => ?_)
      refine lv_aload_n hx hb dX13_tick_52 rfl (lv_at hl 0 rfl) ?_
      refine lv_dup hx hb dX13_tick_53 rfl ?_
      refine g_getN X dX13_tick_54 f_X13_241 (hB.one (k := 5) k12 rfl) 0 (v := .int (wS9 (rS (rS x0 3) x1.toNatClampNeg) 4)) rfl rfl ?_
      refine lv_iconst (v := 1) hx hb dX13_tick_57 (by decide) ?_
      refine lv_iadd hx hb dX13_tick_58 ?_
      refine g_putiN X dX13_tick_59 f_X13_241 (hB.oneB (k := 5) hAS k12 rfl) hS (x := ((wS9 (rS (rS x0 3) x1.toNatClampNeg) 4) + 1)) rfl rfl rfl (fun H locs hb9 oq hS => ?_)
      have hB := hB.putB k12 rfl hb9 oq
      have hAF : ∀ x, H.size ≤ x → A x := fun x h => hAF x (Nat.le_trans (sz_of oq (hB.lt (by rw [k12]; decide)).1) h)
      obtain ⟨wS13, ewS13⟩ : ∃ z : Dt, z = up2 wS9 (rS (rS x0 3) x1.toNatClampNeg) 4 ((wS9 (rS (rS x0 3) x1.toNatClampNeg) 4) + 1) := ⟨_, rfl⟩
      rw [← ewS13] at hB
      have hw := hw wS13 ewS13
      refine lv_iconst (v := 0) hx hb dX13_tick_62 (by decide) ?_
      refine lv_istore_n (lv' := [(3, .int 0), (2, .ref (rS (rS x0 3) x1.toNatClampNeg)), (0, .ref x0), (1, .int x1)]) hx hb dX13_tick_63 rfl hl (by decide) rfl (fun ls hl => ?_)
      refine lv_aload_n hx hb dX13_tick_64 rfl (lv_at hl 2 rfl) ?_
      refine g_get X dX13_tick_65 f_X13_34 (hB.one (k := 7) hkx0 rfl) 0 (v := .ref (rS x0 1)) rfl rfl ?_
      have k14 : tS (rS x0 1) = 4 := (hB.wtk hkx0).1
      refine g_getN X dX13_tick_68 f_X13_84 (hB.one (k := 4) k14 rfl) 0 (v := .ref (rS (rS x0 1) 2)) rfl rfl ?_
      have k15 : tS (rS (rS x0 1) 2) = 2 := (hB.wtk k14).2.2.1
      refine lv_aload_n hx hb dX13_tick_71 rfl (lv_at hl 1 rfl) ?_
      refine g_getN X dX13_tick_72 f_X13_244 (hB.one (k := 5) k12 rfl) 0 (v := .int (wS13 (rS (rS x0 3) x1.toNatClampNeg) 5)) rfl rfl ?_
      obtain ⟨o16, hw⟩ := hw
      refine g_aaldA X dX13_tick_75 (hB.one (k := 2) k15 rfl) 0 rfl o16 (v := .ref (rS (rS (rS x0 1) 2) (wS13 (rS (rS x0 3) x1.toNatClampNeg) 5).toNatClampNeg)) (row_at (lt10 o16)) ?_
      have k17 : tS (rS (rS (rS x0 1) 2) (wS13 (rS (rS x0 3) x1.toNatClampNeg) 5).toNatClampNeg) = 23 := (hB.wtk k15) _ (lt10 o16)
      refine lv_astore (lv' := [(4, .ref (rS (rS (rS x0 1) 2) (wS13 (rS (rS x0 3) x1.toNatClampNeg) 5).toNatClampNeg)), (3, .int 0), (2, .ref (rS (rS x0 3) x1.toNatClampNeg)), (0, .ref x0), (1, .int x1)]) hx hb dX13_tick_76 hl (by decide) rfl (fun ls hl => ?_)
      refine lv_aload hx hb dX13_tick_78 (lv_at hl 0 rfl) ?_
      refine g_alen X dX13_tick_80 (hB.one (k := 23) k17 rfl) 0 rfl rfl rfl ?_
      refine lv_istore (lv' := [(5, .int (nI 3)), (4, .ref (rS (rS (rS x0 1) 2) (wS13 (rS (rS x0 3) x1.toNatClampNeg) 5).toNatClampNeg)), (3, .int 0), (2, .ref (rS (rS x0 3) x1.toNatClampNeg)), (0, .ref x0), (1, .int x1)]) hx hb dX13_tick_81 hl (by decide) rfl (fun ls hl => ?_)
      refine lv_iconst (v := 0) hx hb dX13_tick_83 (by decide) ?_
      refine lv_istore (lv' := [(6, .int 0), (5, .int (nI 3)), (4, .ref (rS (rS (rS x0 1) 2) (wS13 (rS (rS x0 3) x1.toNatClampNeg) 5).toNatClampNeg)), (3, .int 0), (2, .ref (rS (rS x0 3) x1.toNatClampNeg)), (0, .ref x0), (1, .int x1)]) hx hb dX13_tick_84 hl (by decide) rfl (fun ls hl => ?_)
      obtain ⟨k9, hw⟩ := hw
      exact t_X13_tick_86 X hr hT hA0 hAm9  k9 x0 (rS (rS x0 3) x1.toNatClampNeg) 0 (rS (rS (rS x0 1) 2) (wS13 (rS (rS x0 3) x1.toNatClampNeg) 5).toNatClampNeg) (nI 3) 0 tS nS rS wS13 bS sS _ _ _ _ _ _ hw hB hkx0 k12 k17 hAS hAF hX hc hs hS (lv_sub hl [5, 4, 3, 2, 1, 0] rfl)
    · have hw := hw.2 c10
      exact t_X13_tick_36 X hr hT hA0 hAm9  tS nS rS wS9 bS sS _ _ _ _ _ _ hw hB  hAS hAF hX hc hs hS (lv_sub hl [] rfl)
abbrev rm_X13_sent : Room := { frames := 3, cells := 0, slots := 0, locals := 67 }
def wp_X13_sent_37 (post : Int32 → Dt → Prop) (tS : Nat → Nat) (nS : Nat → Nat) (rS : Nat → Nat → Nat)  (z0 : Int32) (wS : Dt) : Prop := post z0 wS
set_option maxHeartbeats 4000000 in
set_option maxRecDepth 100000 in
theorem t_X13_sent_37 : ∀ {p : Program} {l : Launch} {e : Env} {s : State} {m : MethodId} {args : Array Value} {below : List Frame} {meth : Method} {c : Code} {D : va_G} {tc : Nat → ClassId} {h0 : Nat} {sa : Nat → Nat} {A : Nat → Prop} {post : Int32 → Dt → Prop} {tS : Nat → Nat} {nS : Nat → Nat} {rS : Nat → Nat → Nat}  (X : Cx p c s m meth cX13_sent 2 RX13 D tc) (hr : meth.sig.returnType = (Option.some FieldType.int)) (hT : ST h0 sa s s.heap) (hA0 : ∀ q, A q → h0 ≤ q) , ∀ (z0 : Int32) (wS : Dt) (H : Heap) (locs : List Loc) (ls : Array Slot), wp_X13_sent_37 post tS nS rS  z0 wS → SB D tc (sa 3) A tS nS rS wS H → va_S A s.heap H locs → lv_has ls 2 [] → W p l e rm_X13_sent s m args below meth c H locs 0 0 (MQ below (QB (fun u : Int32 × Dt => post u.1 u.2) (fun (u : Int32 × Dt) (H1 : Heap) => SB D tc (sa 3) A tS nS rS u.2 H1) (fun u : Int32 × Dt => some (.int u.1)) A) args s rm_X13_sent.cells rm_X13_sent.slots A) (F0 m 37 ls [.int z0]) := by
  intro p l e s m args below meth c D tc h0 sa A post tS nS rS  X hr hT hA0   z0 wS H locs ls hw hB  hS hl
  have hx := X.1
  have hb := X.2.1
  have hown := X.2.2.2.1
  have hU := X.2.2.2.2.1.1
  unfold wp_X13_sent_37 at hw
  exact e_i X hr dX13_sent_37 hS (z0, wS) rfl hw hB ⟨Nat.le_of_ble_eq_true rfl, Nat.le_of_ble_eq_true rfl⟩
def wp_X13_sent (post : Int32 → Dt → Prop) (tS : Nat → Nat) (nS : Nat → Nat) (rS : Nat → Nat → Nat) (wS : Dt) (x0 : Nat) (x1 : Int32) : Prop := wp_X13_begins (fun wS1 => wp_X13_noProbe (fun r2 wS3 => (r2 = 0 → vp_in x1 (nS (rS x0 3)) ∧ (wp_X13_sent_37 post tS nS rS  (nI (nS (rS (rS (rS x0 3) x1.toNatClampNeg) 9))) wS3)) ∧ (¬ r2 = 0 → wp_X13_sent_37 post tS nS rS  (-1) wS3)) tS nS rS wS1 x0 x1) tS nS rS wS x0
set_option maxHeartbeats 4000000 in
set_option maxRecDepth 100000 in
theorem c_X13_sent (l : Launch) (D : va_G) (tc : Nat → ClassId) (h0 : Nat) (sa : Nat → Nat) (x0 : Nat) (x1 : Int32) {A : Nat → Prop} (H0 : Heap) {tS nS : Nat → Nat} {rS : Nat → Nat → Nat} {wS : Dt} (hB : SB D tc (sa 3) A tS nS rS wS H0) (hkx0 : tS x0 = 7) (hA0 : ∀ q, A q → h0 ≤ q) {post : Int32 → Dt → Prop} (hw : wp_X13_sent post tS nS rS wS x0 x1) : MB l yX13_sent cX13_sent 2 (Option.some FieldType.int) rm_X13_sent A [.ref x0, .int x1] D tc h0 sa H0 (fun u : Int32 × Dt => post u.1 u.2) (fun (u : Int32 × Dt) (H1 : Heap) => SB D tc (sa 3) A tS nS rS u.2 H1) (fun u : Int32 × Dt => some (.int u.1)) := by
  refine MB.of RX13 [(0, .ref x0), (1, .int x1)] (by decide +kernel) rfl (Nat.le_of_ble_eq_true rfl) rfl ?_
  intro p e s m below meth c ls X hr hin hT hH hS hl
  subst hH
  have hx := X.1
  have hb := X.2.1
  have hown := X.2.2.2.1
  have hU := X.2.2.2.2.1.1
  unfold wp_X13_sent at hw
  refine lv_aload_n hx hb dX13_sent_0 rfl (lv_at hl 0 rfl) ?_
  refine g_after (st0 := [.ref x0]) (rest := []) (g_V X m_X13_61 (c_X13_begins l D tc h0 sa x0 _ hB hkx0 hA0 hw) (recv1 X.2.2.2.2.1 rfl (hB.at (k := 7) hkx0 rfl)) hT hS hA0 dX13_sent_1 hl.1 rfl rfl ⟨Nat.le_of_ble_eq_true rfl, Nat.le_of_ble_eq_true rfl⟩ (Nat.le_of_ble_eq_true rfl) ⟨Nat.le_of_ble_eq_true rfl, Nat.le_of_ble_eq_true rfl⟩) hS (fun _ h => h) (fun u => []) (fun _ => rfl) (fun u H locs hw hP9 hz9 hk9 hS => ?_)
  obtain ⟨wS1, rfl⟩ : ∃ z, z = u := ⟨_, rfl⟩
  try dsimp only at hw hP9
  have hB := hP9
  refine lv_aload_n hx hb dX13_sent_4 rfl (lv_at hl 0 rfl) ?_
  refine lv_iload_n hx hb dX13_sent_5 rfl (lv_at hl 1 rfl) ?_
  refine g_after (st0 := [.int x1, .ref x0]) (rest := []) (g_V X m_X13_235 (c_X13_noProbe l D tc h0 sa x0 x1 _ hB hkx0 hA0 hw) (recv1 X.2.2.2.2.1 rfl (hB.at (k := 7) hkx0 rfl)) hT hS hA0 dX13_sent_6 hl.1 rfl rfl ⟨Nat.le_of_ble_eq_true rfl, Nat.le_of_ble_eq_true rfl⟩ (Nat.le_of_ble_eq_true rfl) ⟨Nat.le_of_ble_eq_true rfl, Nat.le_of_ble_eq_true rfl⟩) hS (fun _ h => h) (fun u => .int u.1 :: []) (fun _ => rfl) (fun u H locs hw hP9 hz9 hk9 hS => ?_)
  obtain ⟨r2, wS3⟩ := u
  try dsimp only at hw hP9
  have hB := hP9
  refine lv_if_eq (tgt := 16) hx hb dX13_sent_9 (by decide) (fun c4 => ?_) (fun c4 => ?_)
  · have hw := hw.1 c4
    refine lv_aload_n hx hb dX13_sent_16 rfl (lv_at hl 0 rfl) ?_
    refine g_get X dX13_sent_17 f_X13_45 (hB.one (k := 7) hkx0 rfl) 0 (v := .ref (rS x0 3)) rfl rfl ?_
    have k5 : tS (rS x0 3) = 11 := (hB.wtk hkx0).2.2.1
    refine lv_iload_n hx hb dX13_sent_20 rfl (lv_at hl 1 rfl) ?_
    obtain ⟨fs9, hat9⟩ := hB.lat (isL_of k5)
    obtain ⟨o6, hw⟩ := hw
    refine g_after5 (st0 := [.int x1, .ref (rS x0 3)]) (rest := []) (g_F X mf_X13_163 (c_get l D tc h0 sa _ (rS x0 3) hB (isL_of k5) o6) rfl hat9 hT hS hA0 dX13_sent_21 hl.1 rfl rfl ⟨Nat.le_of_ble_eq_true rfl, Nat.le_of_ble_eq_true rfl⟩ (Nat.le_of_ble_eq_true rfl) ⟨Nat.le_of_ble_eq_true rfl, Nat.le_of_ble_eq_true rfl⟩) hS (fun _ h => h.elim) (fun u => .ref (rS (rS x0 3) x1.toNatClampNeg) :: []) (fun _ => rfl) (fun u H9 locs hu hP9 hz9 hk9 hS => ?_)
    have e9 : H9 = _ := hP9
    rw [e9] at hS ⊢
    have k7 : tS (rS (rS x0 3) x1.toNatClampNeg) = 5 := hB.elt k5 (lt10 o6)
    refine x_cast X w_1753 rfl (hB.at (k := 5) k7 rfl) dX13_sent_26 ?_
    refine g_getN X dX13_sent_29 f_X13_260 (hB.one (k := 5) k7 rfl) 0 (v := .ref (rS (rS (rS x0 3) x1.toNatClampNeg) 9)) rfl rfl ?_
    have k8 : tS (rS (rS (rS x0 3) x1.toNatClampNeg) 9) = 9 := (hB.wtk k7).2
    obtain ⟨fs9, hat9⟩ := hB.lat (isL_of k8)
    refine g_after5 (st0 := [.ref (rS (rS (rS x0 3) x1.toNatClampNeg) 9)]) (rest := []) (g_F X mf_X13_7 (c_size l D tc h0 sa _ (rS (rS (rS x0 3) x1.toNatClampNeg) 9) hB (isL_of k8)) rfl hat9 hT hS hA0 dX13_sent_32 hl.1 rfl rfl ⟨Nat.le_of_ble_eq_true rfl, Nat.le_of_ble_eq_true rfl⟩ (Nat.le_of_ble_eq_true rfl) ⟨Nat.le_of_ble_eq_true rfl, Nat.le_of_ble_eq_true rfl⟩) hS (fun _ h => h.elim) (fun u => .int (nI (nS (rS (rS (rS x0 3) x1.toNatClampNeg) 9))) :: []) (fun _ => rfl) (fun u H9 locs hu hP9 hz9 hk9 hS => ?_)
    have e9 : H9 = _ := hP9
    rw [e9] at hS ⊢
    exact t_X13_sent_37 X hr hT hA0  (nI (nS (rS (rS (rS x0 3) x1.toNatClampNeg) 9))) wS3 _ _ _ hw hB  hS (lv_sub hl [] rfl)
  · have hw := hw.2 c4
    refine lv_iconst (v := (-1)) hx hb dX13_sent_12 (by decide) ?_
    refine lv_goto (tgt := 37) hx hb dX13_sent_13 (by decide) ?_
    exact t_X13_sent_37 X hr hT hA0  (-1) wS3 _ _ _ hw hB  hS (lv_sub hl [] rfl)
abbrev rm_X13_sentAt : Room := { frames := 4, cells := 0, slots := 0, locals := 91 }
def wp_X13_sentAt_71 (post : Int32 → Dt → Prop) (tS : Nat → Nat) (nS : Nat → Nat) (rS : Nat → Nat → Nat)  (wS : Dt) : Prop := post (-1) wS
set_option maxHeartbeats 4000000 in
set_option maxRecDepth 100000 in
theorem t_X13_sentAt_71 : ∀ {p : Program} {l : Launch} {e : Env} {s : State} {m : MethodId} {args : Array Value} {below : List Frame} {meth : Method} {c : Code} {D : va_G} {tc : Nat → ClassId} {h0 : Nat} {sa : Nat → Nat} {A : Nat → Prop} {post : Int32 → Dt → Prop} {tS : Nat → Nat} {nS : Nat → Nat} {rS : Nat → Nat → Nat}  (X : Cx p c s m meth cX13_sentAt 4 RX13 D tc) (hr : meth.sig.returnType = (Option.some FieldType.int)) (hT : ST h0 sa s s.heap) (hA0 : ∀ q, A q → h0 ≤ q) , ∀ (wS : Dt) (H : Heap) (locs : List Loc) (ls : Array Slot), wp_X13_sentAt_71 post tS nS rS  wS → SB D tc (sa 3) A tS nS rS wS H → va_S A s.heap H locs → lv_has ls 4 [] → W p l e rm_X13_sentAt s m args below meth c H locs 0 0 (MQ below (QB (fun u : Int32 × Dt => post u.1 u.2) (fun (u : Int32 × Dt) (H1 : Heap) => SB D tc (sa 3) A tS nS rS u.2 H1) (fun u : Int32 × Dt => some (.int u.1)) A) args s rm_X13_sentAt.cells rm_X13_sentAt.slots A) (F0 m 71 ls []) := by
  intro p l e s m args below meth c D tc h0 sa A post tS nS rS  X hr hT hA0   wS H locs ls hw hB  hS hl
  have hx := X.1
  have hb := X.2.1
  have hown := X.2.2.2.1
  have hU := X.2.2.2.2.1.1
  unfold wp_X13_sentAt_71 at hw
  refine lv_iconst (v := (-1)) hx hb dX13_sentAt_71 (by decide) ?_
  exact e_i X hr dX13_sentAt_72 hS ((-1), wS) rfl hw hB ⟨Nat.le_of_ble_eq_true rfl, Nat.le_of_ble_eq_true rfl⟩
def wp_X13_sentAt_64 (post : Int32 → Dt → Prop) (tS : Nat → Nat) (nS : Nat → Nat) (rS : Nat → Nat → Nat)  (y0 : Nat) (y1 : Int32) (y2 : Int32) (y3 : Int32) (z0 : Int32) (z1 : Nat) (wS : Dt) : Prop := wp_X13_fails (fun r15 wS16 => (r15 = 0 → vp_in y1 (nS (rS y0 3)) ∧ (vp_in y2 (nS (rS (rS (rS y0 3) y1.toNatClampNeg) 9)) ∧ (vp_in (ixlti y3) 3 ∧ (post (wS16 (rS (rS (rS (rS y0 3) y1.toNatClampNeg) 9) y2.toNatClampNeg) (ixlti y3).toNatClampNeg) wS16)))) ∧ (¬ r15 = 0 → wp_X13_sentAt_71 post tS nS rS  wS16)) tS nS rS wS z1 z0 3
set_option maxHeartbeats 4000000 in
set_option maxRecDepth 100000 in
theorem t_X13_sentAt_64 : ∀ {p : Program} {l : Launch} {e : Env} {s : State} {m : MethodId} {args : Array Value} {below : List Frame} {meth : Method} {c : Code} {D : va_G} {tc : Nat → ClassId} {h0 : Nat} {sa : Nat → Nat} {A : Nat → Prop} {post : Int32 → Dt → Prop} {tS : Nat → Nat} {nS : Nat → Nat} {rS : Nat → Nat → Nat}  (X : Cx p c s m meth cX13_sentAt 4 RX13 D tc) (hr : meth.sig.returnType = (Option.some FieldType.int)) (hT : ST h0 sa s s.heap) (hA0 : ∀ q, A q → h0 ≤ q) , ∀ (y0 : Nat) (y1 : Int32) (y2 : Int32) (y3 : Int32) (z0 : Int32) (z1 : Nat) (wS : Dt) (H : Heap) (locs : List Loc) (ls : Array Slot), wp_X13_sentAt_64 post tS nS rS  y0 y1 y2 y3 z0 z1 wS → SB D tc (sa 3) A tS nS rS wS H → (tS y0 = 7) → (tS z1 = 7) → va_S A s.heap H locs → lv_has ls 4 [(0, .ref y0), (1, .int y1), (2, .int y2), (3, .int y3)] → W p l e rm_X13_sentAt s m args below meth c H locs 0 0 (MQ below (QB (fun u : Int32 × Dt => post u.1 u.2) (fun (u : Int32 × Dt) (H1 : Heap) => SB D tc (sa 3) A tS nS rS u.2 H1) (fun u : Int32 × Dt => some (.int u.1)) A) args s rm_X13_sentAt.cells rm_X13_sentAt.slots A) (F0 m 64 ls [.int z0, .ref z1]) := by
  intro p l e s m args below meth c D tc h0 sa A post tS nS rS  X hr hT hA0   y0 y1 y2 y3 z0 z1 wS H locs ls hw hB hky0 hkz1 hS hl
  have hx := X.1
  have hb := X.2.1
  have hown := X.2.2.2.1
  have hU := X.2.2.2.2.1.1
  unfold wp_X13_sentAt_64 at hw
  refine lv_iconst (v := 3) hx hb dX13_sentAt_64 (by decide) ?_
  refine g_after (st0 := [.int 3, .int z0, .ref z1]) (rest := []) (g_V X m_X13_57 (c_X13_fails l D tc h0 sa z1 z0 3 _ hB hkz1 hA0 hw) (recv1 X.2.2.2.2.1 rfl (hB.at (k := 7) hkz1 rfl)) hT hS hA0 dX13_sentAt_65 hl.1 rfl rfl ⟨Nat.le_of_ble_eq_true rfl, Nat.le_of_ble_eq_true rfl⟩ (Nat.le_of_ble_eq_true rfl) ⟨Nat.le_of_ble_eq_true rfl, Nat.le_of_ble_eq_true rfl⟩) hS (fun _ h => h) (fun u => .int u.1 :: []) (fun _ => rfl) (fun u H locs hw hP9 hz9 hk9 hS => ?_)
  obtain ⟨r15, wS16⟩ := u
  try dsimp only at hw hP9
  have hB := hP9
  refine lv_if_eq (tgt := 73) hx hb dX13_sentAt_68 (by decide) (fun c17 => ?_) (fun c17 => ?_)
  · have hw := hw.1 c17
    refine lv_aload_n hx hb dX13_sentAt_73 rfl (lv_at hl 0 rfl) ?_
    refine g_get X dX13_sentAt_74 f_X13_45 (hB.one (k := 7) hky0 rfl) 0 (v := .ref (rS y0 3)) rfl rfl ?_
    have k18 : tS (rS y0 3) = 11 := (hB.wtk hky0).2.2.1
    refine lv_iload_n hx hb dX13_sentAt_77 rfl (lv_at hl 1 rfl) ?_
    obtain ⟨fs9, hat9⟩ := hB.lat (isL_of k18)
    obtain ⟨o19, hw⟩ := hw
    refine g_after5 (st0 := [.int y1, .ref (rS y0 3)]) (rest := []) (g_F X mf_X13_163 (c_get l D tc h0 sa _ (rS y0 3) hB (isL_of k18) o19) rfl hat9 hT hS hA0 dX13_sentAt_78 hl.1 rfl rfl ⟨Nat.le_of_ble_eq_true rfl, Nat.le_of_ble_eq_true rfl⟩ (Nat.le_of_ble_eq_true rfl) ⟨Nat.le_of_ble_eq_true rfl, Nat.le_of_ble_eq_true rfl⟩) hS (fun _ h => h.elim) (fun u => .ref (rS (rS y0 3) y1.toNatClampNeg) :: []) (fun _ => rfl) (fun u H9 locs hu hP9 hz9 hk9 hS => ?_)
    have e9 : H9 = _ := hP9
    rw [e9] at hS ⊢
    have k20 : tS (rS (rS y0 3) y1.toNatClampNeg) = 5 := hB.elt k18 (lt10 o19)
    refine x_cast X w_1753 rfl (hB.at (k := 5) k20 rfl) dX13_sentAt_83 ?_
    refine g_getN X dX13_sentAt_86 f_X13_260 (hB.one (k := 5) k20 rfl) 0 (v := .ref (rS (rS (rS y0 3) y1.toNatClampNeg) 9)) rfl rfl ?_
    have k21 : tS (rS (rS (rS y0 3) y1.toNatClampNeg) 9) = 9 := (hB.wtk k20).2
    refine lv_iload_n hx hb dX13_sentAt_89 rfl (lv_at hl 2 rfl) ?_
    obtain ⟨fs9, hat9⟩ := hB.lat (isL_of k21)
    obtain ⟨o22, hw⟩ := hw
    refine g_after5 (st0 := [.int y2, .ref (rS (rS (rS y0 3) y1.toNatClampNeg) 9)]) (rest := []) (g_F X mf_X13_163 (c_get l D tc h0 sa _ (rS (rS (rS y0 3) y1.toNatClampNeg) 9) hB (isL_of k21) o22) rfl hat9 hT hS hA0 dX13_sentAt_90 hl.1 rfl rfl ⟨Nat.le_of_ble_eq_true rfl, Nat.le_of_ble_eq_true rfl⟩ (Nat.le_of_ble_eq_true rfl) ⟨Nat.le_of_ble_eq_true rfl, Nat.le_of_ble_eq_true rfl⟩) hS (fun _ h => h.elim) (fun u => .ref (rS (rS (rS (rS y0 3) y1.toNatClampNeg) 9) y2.toNatClampNeg) :: []) (fun _ => rfl) (fun u H9 locs hu hP9 hz9 hk9 hS => ?_)
    have e9 : H9 = _ := hP9
    rw [e9] at hS ⊢
    have k23 : tS (rS (rS (rS (rS y0 3) y1.toNatClampNeg) 9) y2.toNatClampNeg) = 23 := hB.elt k21 (lt10 o22)
    refine x_casta X w_1636 (hB.at (k := 23) k23 rfl) dX13_sentAt_95 ?_
    refine va_ldcwS hx hb hown hT.2.2.2.2.2.2.2.2.2.2.2.2.2.2.1 dX13_sentAt_98 ?_
    refine lv_iload_n hx hb dX13_sentAt_101 rfl (lv_at hl 3 rfl) ?_
    refine g_after (st0 := .int y3 :: .ref (sa 11) :: [.ref (rS (rS (rS (rS y0 3) y1.toNatClampNeg) 9) y2.toNatClampNeg)]) (rest := [.ref (rS (rS (rS (rS y0 3) y1.toNatClampNeg) 9) y2.toNatClampNeg)]) (g_V X m_X13_265 (c_ixo l D tc h0 sa _ y3) (strv hT hS hA0 (i := 1) (by decide)) hT hS hA0 dX13_sentAt_102 hl.1 rfl rfl ⟨Nat.le_of_ble_eq_true rfl, Nat.le_of_ble_eq_true rfl⟩ (Nat.le_of_ble_eq_true rfl) ⟨Nat.le_of_ble_eq_true rfl, Nat.le_of_ble_eq_true rfl⟩) hS (fun _ h => h.elim) (fun u => .int (ixlti y3) :: [.ref (rS (rS (rS (rS y0 3) y1.toNatClampNeg) 9) y2.toNatClampNeg)]) (fun _ => rfl) (fun u H9 locs hu hP9 hz9 hk9 hS => ?_)
    have e9 : H9 = _ := hP9
    rw [e9] at hS ⊢
    obtain ⟨o24, hw⟩ := hw
    refine g_iald X dX13_sentAt_105 (hB.one (k := 23) k23 rfl) 0 rfl o24 rfl ?_
    exact e_i X hr dX13_sentAt_106 hS ((wS16 (rS (rS (rS (rS y0 3) y1.toNatClampNeg) 9) y2.toNatClampNeg) (ixlti y3).toNatClampNeg), wS16) rfl hw hB ⟨Nat.le_of_ble_eq_true rfl, Nat.le_of_ble_eq_true rfl⟩
  · have hw := hw.2 c17
    exact t_X13_sentAt_71 X hr hT hA0  wS16 _ _ _ hw hB  hS (lv_sub hl [] rfl)
def wp_X13_sentAt_28 (post : Int32 → Dt → Prop) (tS : Nat → Nat) (nS : Nat → Nat) (rS : Nat → Nat → Nat)  (y0 : Nat) (y1 : Int32) (y2 : Int32) (y3 : Int32) (z0 : Int32) (z1 : Nat) (wS : Dt) : Prop := wp_X13_fails (fun r6 wS7 => (¬ r6 = 0 → wp_X13_sentAt_71 post tS nS rS  wS7) ∧ (r6 = 0 → vp_in y1 (nS (rS y0 3)) ∧ (wp_X13_isOf (fun r13 => (¬ r13 = 0 → wp_X13_sentAt_64 post tS nS rS  y0 y1 y2 y3 0 y0 wS7) ∧ (r13 = 0 → wp_X13_sentAt_64 post tS nS rS  y0 y1 y2 y3 1 y0 wS7)) tS nS rS wS7 (rS (rS (rS y0 3) y1.toNatClampNeg) 9) y2))) tS nS rS wS z1 z0 2
set_option maxHeartbeats 4000000 in
set_option maxRecDepth 100000 in
theorem t_X13_sentAt_28 : ∀ {p : Program} {l : Launch} {e : Env} {s : State} {m : MethodId} {args : Array Value} {below : List Frame} {meth : Method} {c : Code} {D : va_G} {tc : Nat → ClassId} {h0 : Nat} {sa : Nat → Nat} {A : Nat → Prop} {post : Int32 → Dt → Prop} {tS : Nat → Nat} {nS : Nat → Nat} {rS : Nat → Nat → Nat}  (X : Cx p c s m meth cX13_sentAt 4 RX13 D tc) (hr : meth.sig.returnType = (Option.some FieldType.int)) (hT : ST h0 sa s s.heap) (hA0 : ∀ q, A q → h0 ≤ q) , ∀ (y0 : Nat) (y1 : Int32) (y2 : Int32) (y3 : Int32) (z0 : Int32) (z1 : Nat) (wS : Dt) (H : Heap) (locs : List Loc) (ls : Array Slot), wp_X13_sentAt_28 post tS nS rS  y0 y1 y2 y3 z0 z1 wS → SB D tc (sa 3) A tS nS rS wS H → (tS y0 = 7) → (tS z1 = 7) → va_S A s.heap H locs → lv_has ls 4 [(0, .ref y0), (1, .int y1), (2, .int y2), (3, .int y3)] → W p l e rm_X13_sentAt s m args below meth c H locs 0 0 (MQ below (QB (fun u : Int32 × Dt => post u.1 u.2) (fun (u : Int32 × Dt) (H1 : Heap) => SB D tc (sa 3) A tS nS rS u.2 H1) (fun u : Int32 × Dt => some (.int u.1)) A) args s rm_X13_sentAt.cells rm_X13_sentAt.slots A) (F0 m 28 ls [.int z0, .ref z1]) := by
  intro p l e s m args below meth c D tc h0 sa A post tS nS rS  X hr hT hA0   y0 y1 y2 y3 z0 z1 wS H locs ls hw hB hky0 hkz1 hS hl
  have hx := X.1
  have hb := X.2.1
  have hown := X.2.2.2.1
  have hU := X.2.2.2.2.1.1
  unfold wp_X13_sentAt_28 at hw
  refine lv_iconst (v := 2) hx hb dX13_sentAt_28 (by decide) ?_
  refine g_after (st0 := [.int 2, .int z0, .ref z1]) (rest := []) (g_V X m_X13_57 (c_X13_fails l D tc h0 sa z1 z0 2 _ hB hkz1 hA0 hw) (recv1 X.2.2.2.2.1 rfl (hB.at (k := 7) hkz1 rfl)) hT hS hA0 dX13_sentAt_29 hl.1 rfl rfl ⟨Nat.le_of_ble_eq_true rfl, Nat.le_of_ble_eq_true rfl⟩ (Nat.le_of_ble_eq_true rfl) ⟨Nat.le_of_ble_eq_true rfl, Nat.le_of_ble_eq_true rfl⟩) hS (fun _ h => h) (fun u => .int u.1 :: []) (fun _ => rfl) (fun u H locs hw hP9 hz9 hk9 hS => ?_)
  obtain ⟨r6, wS7⟩ := u
  try dsimp only at hw hP9
  have hB := hP9
  refine lv_if_ne (tgt := 71) hx hb dX13_sentAt_32 (by decide) (fun c8 => ?_) (fun c8 => ?_)
  · have hw := hw.1 c8
    exact t_X13_sentAt_71 X hr hT hA0  wS7 _ _ _ hw hB  hS (lv_sub hl [] rfl)
  · have hw := hw.2 c8
    refine lv_aload_n hx hb dX13_sentAt_35 rfl (lv_at hl 0 rfl) ?_
    refine lv_aload_n hx hb dX13_sentAt_36 rfl (lv_at hl 0 rfl) ?_
    refine g_get X dX13_sentAt_37 f_X13_45 (hB.one (k := 7) hky0 rfl) 0 (v := .ref (rS y0 3)) rfl rfl ?_
    have k9 : tS (rS y0 3) = 11 := (hB.wtk hky0).2.2.1
    refine lv_iload_n hx hb dX13_sentAt_40 rfl (lv_at hl 1 rfl) ?_
    obtain ⟨fs9, hat9⟩ := hB.lat (isL_of k9)
    obtain ⟨o10, hw⟩ := hw
    refine g_after5 (st0 := [.int y1, .ref (rS y0 3), .ref y0]) (rest := [.ref y0]) (g_F X mf_X13_163 (c_get l D tc h0 sa _ (rS y0 3) hB (isL_of k9) o10) rfl hat9 hT hS hA0 dX13_sentAt_41 hl.1 rfl rfl ⟨Nat.le_of_ble_eq_true rfl, Nat.le_of_ble_eq_true rfl⟩ (Nat.le_of_ble_eq_true rfl) ⟨Nat.le_of_ble_eq_true rfl, Nat.le_of_ble_eq_true rfl⟩) hS (fun _ h => h.elim) (fun u => .ref (rS (rS y0 3) y1.toNatClampNeg) :: [.ref y0]) (fun _ => rfl) (fun u H9 locs hu hP9 hz9 hk9 hS => ?_)
    have e9 : H9 = _ := hP9
    rw [e9] at hS ⊢
    have k11 : tS (rS (rS y0 3) y1.toNatClampNeg) = 5 := hB.elt k9 (lt10 o10)
    refine x_cast X w_1753 rfl (hB.at (k := 5) k11 rfl) dX13_sentAt_46 ?_
    refine g_getN X dX13_sentAt_49 f_X13_260 (hB.one (k := 5) k11 rfl) 0 (v := .ref (rS (rS (rS y0 3) y1.toNatClampNeg) 9)) rfl rfl ?_
    have k12 : tS (rS (rS (rS y0 3) y1.toNatClampNeg) 9) = 9 := (hB.wtk k11).2
    refine lv_iload_n hx hb dX13_sentAt_52 rfl (lv_at hl 2 rfl) ?_
    refine g_after (st0 := [.int y2, .ref (rS (rS (rS y0 3) y1.toNatClampNeg) 9), .ref y0]) (rest := [.ref y0]) (g_S X m_X13_159 (c_X13_isOf l D tc h0 sa (rS (rS (rS y0 3) y1.toNatClampNeg) 9) y2 _ hB (isL_of k12) hw) hT hS hA0 dX13_sentAt_53 hl.1 rfl rfl ⟨Nat.le_of_ble_eq_true rfl, Nat.le_of_ble_eq_true rfl⟩ (Nat.le_of_ble_eq_true rfl) ⟨Nat.le_of_ble_eq_true rfl, Nat.le_of_ble_eq_true rfl⟩) hS (fun _ h => h.elim) (fun u => .int u :: [.ref y0]) (fun _ => rfl) (fun u H9 locs hw hP9 hz9 hk9 hS => ?_)
    obtain ⟨r13, rfl⟩ : ∃ z, z = u := ⟨_, rfl⟩
    try dsimp only at hw hP9
    have e9 : H9 = _ := hP9
    rw [e9] at hS ⊢
    refine lv_if_ne (tgt := 63) hx hb dX13_sentAt_56 (by decide) (fun c14 => ?_) (fun c14 => ?_)
    · have hw := hw.1 c14
      refine lv_iconst (v := 0) hx hb dX13_sentAt_63 (by decide) ?_
      exact t_X13_sentAt_64 X hr hT hA0  y0 y1 y2 y3 0 y0 wS7 _ _ _ hw hB hky0 hky0 hS (lv_sub hl [0, 1, 2, 3] rfl)
    · have hw := hw.2 c14
      refine lv_iconst (v := 1) hx hb dX13_sentAt_59 (by decide) ?_
      refine lv_goto (tgt := 64) hx hb dX13_sentAt_60 (by decide) ?_
      exact t_X13_sentAt_64 X hr hT hA0  y0 y1 y2 y3 1 y0 wS7 _ _ _ hw hB hky0 hky0 hS (lv_sub hl [0, 1, 2, 3] rfl)
def wp_X13_sentAt (post : Int32 → Dt → Prop) (tS : Nat → Nat) (nS : Nat → Nat) (rS : Nat → Nat → Nat) (wS : Dt) (x0 : Nat) (x1 : Int32) (x2 : Int32) (x3 : Int32) : Prop := wp_X13_begins (fun wS1 => wp_X13_noProbe (fun r2 wS3 => (¬ r2 = 0 → wp_X13_sentAt_71 post tS nS rS  wS3) ∧ (r2 = 0 → (0 ≤ (ixlti x3) → wp_X13_sentAt_28 post tS nS rS  x0 x1 x2 x3 0 x0 wS3) ∧ (¬ 0 ≤ (ixlti x3) → wp_X13_sentAt_28 post tS nS rS  x0 x1 x2 x3 1 x0 wS3))) tS nS rS wS1 x0 x1) tS nS rS wS x0
set_option maxHeartbeats 4000000 in
set_option maxRecDepth 100000 in
theorem c_X13_sentAt (l : Launch) (D : va_G) (tc : Nat → ClassId) (h0 : Nat) (sa : Nat → Nat) (x0 : Nat) (x1 : Int32) (x2 : Int32) (x3 : Int32) {A : Nat → Prop} (H0 : Heap) {tS nS : Nat → Nat} {rS : Nat → Nat → Nat} {wS : Dt} (hB : SB D tc (sa 3) A tS nS rS wS H0) (hkx0 : tS x0 = 7) (hA0 : ∀ q, A q → h0 ≤ q) {post : Int32 → Dt → Prop} (hw : wp_X13_sentAt post tS nS rS wS x0 x1 x2 x3) : MB l yX13_sentAt cX13_sentAt 4 (Option.some FieldType.int) rm_X13_sentAt A [.ref x0, .int x1, .int x2, .int x3] D tc h0 sa H0 (fun u : Int32 × Dt => post u.1 u.2) (fun (u : Int32 × Dt) (H1 : Heap) => SB D tc (sa 3) A tS nS rS u.2 H1) (fun u : Int32 × Dt => some (.int u.1)) := by
  refine MB.of RX13 [(0, .ref x0), (1, .int x1), (2, .int x2), (3, .int x3)] (by decide +kernel) rfl (Nat.le_of_ble_eq_true rfl) rfl ?_
  intro p e s m below meth c ls X hr hin hT hH hS hl
  subst hH
  have hx := X.1
  have hb := X.2.1
  have hown := X.2.2.2.1
  have hU := X.2.2.2.2.1.1
  unfold wp_X13_sentAt at hw
  refine lv_aload_n hx hb dX13_sentAt_0 rfl (lv_at hl 0 rfl) ?_
  refine g_after (st0 := [.ref x0]) (rest := []) (g_V X m_X13_61 (c_X13_begins l D tc h0 sa x0 _ hB hkx0 hA0 hw) (recv1 X.2.2.2.2.1 rfl (hB.at (k := 7) hkx0 rfl)) hT hS hA0 dX13_sentAt_1 hl.1 rfl rfl ⟨Nat.le_of_ble_eq_true rfl, Nat.le_of_ble_eq_true rfl⟩ (Nat.le_of_ble_eq_true rfl) ⟨Nat.le_of_ble_eq_true rfl, Nat.le_of_ble_eq_true rfl⟩) hS (fun _ h => h) (fun u => []) (fun _ => rfl) (fun u H locs hw hP9 hz9 hk9 hS => ?_)
  obtain ⟨wS1, rfl⟩ : ∃ z, z = u := ⟨_, rfl⟩
  try dsimp only at hw hP9
  have hB := hP9
  refine lv_aload_n hx hb dX13_sentAt_4 rfl (lv_at hl 0 rfl) ?_
  refine lv_iload_n hx hb dX13_sentAt_5 rfl (lv_at hl 1 rfl) ?_
  refine g_after (st0 := [.int x1, .ref x0]) (rest := []) (g_V X m_X13_235 (c_X13_noProbe l D tc h0 sa x0 x1 _ hB hkx0 hA0 hw) (recv1 X.2.2.2.2.1 rfl (hB.at (k := 7) hkx0 rfl)) hT hS hA0 dX13_sentAt_6 hl.1 rfl rfl ⟨Nat.le_of_ble_eq_true rfl, Nat.le_of_ble_eq_true rfl⟩ (Nat.le_of_ble_eq_true rfl) ⟨Nat.le_of_ble_eq_true rfl, Nat.le_of_ble_eq_true rfl⟩) hS (fun _ h => h) (fun u => .int u.1 :: []) (fun _ => rfl) (fun u H locs hw hP9 hz9 hk9 hS => ?_)
  obtain ⟨r2, wS3⟩ := u
  try dsimp only at hw hP9
  have hB := hP9
  refine lv_if_ne (tgt := 71) hx hb dX13_sentAt_9 (by decide) (fun c4 => ?_) (fun c4 => ?_)
  · have hw := hw.1 c4
    exact t_X13_sentAt_71 X hr hT hA0  wS3 _ _ _ hw hB  hS (lv_sub hl [] rfl)
  · have hw := hw.2 c4
    refine lv_aload_n hx hb dX13_sentAt_12 rfl (lv_at hl 0 rfl) ?_
    refine va_ldcwS hx hb hown hT.2.2.2.2.2.2.2.2.2.2.2.2.2.2.1 dX13_sentAt_13 ?_
    refine lv_iload_n hx hb dX13_sentAt_16 rfl (lv_at hl 3 rfl) ?_
    refine g_after (st0 := .int x3 :: .ref (sa 11) :: [.ref x0]) (rest := [.ref x0]) (g_V X m_X13_265 (c_ixo l D tc h0 sa _ x3) (strv hT hS hA0 (i := 1) (by decide)) hT hS hA0 dX13_sentAt_17 hl.1 rfl rfl ⟨Nat.le_of_ble_eq_true rfl, Nat.le_of_ble_eq_true rfl⟩ (Nat.le_of_ble_eq_true rfl) ⟨Nat.le_of_ble_eq_true rfl, Nat.le_of_ble_eq_true rfl⟩) hS (fun _ h => h.elim) (fun u => .int (ixlti x3) :: [.ref x0]) (fun _ => rfl) (fun u H9 locs hu hP9 hz9 hk9 hS => ?_)
    have e9 : H9 = _ := hP9
    rw [e9] at hS ⊢
    refine lv_if_ge (tgt := 27) hx hb dX13_sentAt_20 (by decide) (fun c5 => ?_) (fun c5 => ?_)
    · have hw := hw.1 c5
      refine lv_iconst (v := 0) hx hb dX13_sentAt_27 (by decide) ?_
      exact t_X13_sentAt_28 X hr hT hA0  x0 x1 x2 x3 0 x0 wS3 _ _ _ hw hB hkx0 hkx0 hS (lv_sub hl [0, 1, 2, 3] rfl)
    · have hw := hw.2 c5
      refine lv_iconst (v := 1) hx hb dX13_sentAt_23 (by decide) ?_
      refine lv_goto (tgt := 28) hx hb dX13_sentAt_24 (by decide) ?_
      exact t_X13_sentAt_28 X hr hT hA0  x0 x1 x2 x3 1 x0 wS3 _ _ _ hw hB hkx0 hkx0 hS (lv_sub hl [0, 1, 2, 3] rfl)
abbrev rm_X13_lost : Room := { frames := 3, cells := 0, slots := 0, locals := 67 }
def wp_X13_lost_32 (post : Int32 → Dt → Prop) (tS : Nat → Nat) (nS : Nat → Nat) (rS : Nat → Nat → Nat)  (z0 : Int32) (wS : Dt) : Prop := post z0 wS
set_option maxHeartbeats 4000000 in
set_option maxRecDepth 100000 in
theorem t_X13_lost_32 : ∀ {p : Program} {l : Launch} {e : Env} {s : State} {m : MethodId} {args : Array Value} {below : List Frame} {meth : Method} {c : Code} {D : va_G} {tc : Nat → ClassId} {h0 : Nat} {sa : Nat → Nat} {A : Nat → Prop} {post : Int32 → Dt → Prop} {tS : Nat → Nat} {nS : Nat → Nat} {rS : Nat → Nat → Nat}  (X : Cx p c s m meth cX13_lost 2 RX13 D tc) (hr : meth.sig.returnType = (Option.some FieldType.int)) (hT : ST h0 sa s s.heap) (hA0 : ∀ q, A q → h0 ≤ q) , ∀ (z0 : Int32) (wS : Dt) (H : Heap) (locs : List Loc) (ls : Array Slot), wp_X13_lost_32 post tS nS rS  z0 wS → SB D tc (sa 3) A tS nS rS wS H → va_S A s.heap H locs → lv_has ls 2 [] → W p l e rm_X13_lost s m args below meth c H locs 0 0 (MQ below (QB (fun u : Int32 × Dt => post u.1 u.2) (fun (u : Int32 × Dt) (H1 : Heap) => SB D tc (sa 3) A tS nS rS u.2 H1) (fun u : Int32 × Dt => some (.int u.1)) A) args s rm_X13_lost.cells rm_X13_lost.slots A) (F0 m 32 ls [.int z0]) := by
  intro p l e s m args below meth c D tc h0 sa A post tS nS rS  X hr hT hA0   z0 wS H locs ls hw hB  hS hl
  have hx := X.1
  have hb := X.2.1
  have hown := X.2.2.2.1
  have hU := X.2.2.2.2.1.1
  unfold wp_X13_lost_32 at hw
  exact e_i X hr dX13_lost_32 hS (z0, wS) rfl hw hB ⟨Nat.le_of_ble_eq_true rfl, Nat.le_of_ble_eq_true rfl⟩
def wp_X13_lost (post : Int32 → Dt → Prop) (tS : Nat → Nat) (nS : Nat → Nat) (rS : Nat → Nat → Nat) (wS : Dt) (x0 : Nat) (x1 : Int32) : Prop := wp_X13_begins (fun wS1 => wp_X13_noProbe (fun r2 wS3 => (r2 = 0 → vp_in x1 (nS (rS x0 3)) ∧ (wp_X13_lost_32 post tS nS rS  (wS3 (rS (rS x0 3) x1.toNatClampNeg) 7) wS3)) ∧ (¬ r2 = 0 → wp_X13_lost_32 post tS nS rS  (-1) wS3)) tS nS rS wS1 x0 x1) tS nS rS wS x0
set_option maxHeartbeats 4000000 in
set_option maxRecDepth 100000 in
theorem c_X13_lost (l : Launch) (D : va_G) (tc : Nat → ClassId) (h0 : Nat) (sa : Nat → Nat) (x0 : Nat) (x1 : Int32) {A : Nat → Prop} (H0 : Heap) {tS nS : Nat → Nat} {rS : Nat → Nat → Nat} {wS : Dt} (hB : SB D tc (sa 3) A tS nS rS wS H0) (hkx0 : tS x0 = 7) (hA0 : ∀ q, A q → h0 ≤ q) {post : Int32 → Dt → Prop} (hw : wp_X13_lost post tS nS rS wS x0 x1) : MB l yX13_lost cX13_lost 2 (Option.some FieldType.int) rm_X13_lost A [.ref x0, .int x1] D tc h0 sa H0 (fun u : Int32 × Dt => post u.1 u.2) (fun (u : Int32 × Dt) (H1 : Heap) => SB D tc (sa 3) A tS nS rS u.2 H1) (fun u : Int32 × Dt => some (.int u.1)) := by
  refine MB.of RX13 [(0, .ref x0), (1, .int x1)] (by decide +kernel) rfl (Nat.le_of_ble_eq_true rfl) rfl ?_
  intro p e s m below meth c ls X hr hin hT hH hS hl
  subst hH
  have hx := X.1
  have hb := X.2.1
  have hown := X.2.2.2.1
  have hU := X.2.2.2.2.1.1
  unfold wp_X13_lost at hw
  refine lv_aload_n hx hb dX13_lost_0 rfl (lv_at hl 0 rfl) ?_
  refine g_after (st0 := [.ref x0]) (rest := []) (g_V X m_X13_61 (c_X13_begins l D tc h0 sa x0 _ hB hkx0 hA0 hw) (recv1 X.2.2.2.2.1 rfl (hB.at (k := 7) hkx0 rfl)) hT hS hA0 dX13_lost_1 hl.1 rfl rfl ⟨Nat.le_of_ble_eq_true rfl, Nat.le_of_ble_eq_true rfl⟩ (Nat.le_of_ble_eq_true rfl) ⟨Nat.le_of_ble_eq_true rfl, Nat.le_of_ble_eq_true rfl⟩) hS (fun _ h => h) (fun u => []) (fun _ => rfl) (fun u H locs hw hP9 hz9 hk9 hS => ?_)
  obtain ⟨wS1, rfl⟩ : ∃ z, z = u := ⟨_, rfl⟩
  try dsimp only at hw hP9
  have hB := hP9
  refine lv_aload_n hx hb dX13_lost_4 rfl (lv_at hl 0 rfl) ?_
  refine lv_iload_n hx hb dX13_lost_5 rfl (lv_at hl 1 rfl) ?_
  refine g_after (st0 := [.int x1, .ref x0]) (rest := []) (g_V X m_X13_235 (c_X13_noProbe l D tc h0 sa x0 x1 _ hB hkx0 hA0 hw) (recv1 X.2.2.2.2.1 rfl (hB.at (k := 7) hkx0 rfl)) hT hS hA0 dX13_lost_6 hl.1 rfl rfl ⟨Nat.le_of_ble_eq_true rfl, Nat.le_of_ble_eq_true rfl⟩ (Nat.le_of_ble_eq_true rfl) ⟨Nat.le_of_ble_eq_true rfl, Nat.le_of_ble_eq_true rfl⟩) hS (fun _ h => h) (fun u => .int u.1 :: []) (fun _ => rfl) (fun u H locs hw hP9 hz9 hk9 hS => ?_)
  obtain ⟨r2, wS3⟩ := u
  try dsimp only at hw hP9
  have hB := hP9
  refine lv_if_eq (tgt := 16) hx hb dX13_lost_9 (by decide) (fun c4 => ?_) (fun c4 => ?_)
  · have hw := hw.1 c4
    refine lv_aload_n hx hb dX13_lost_16 rfl (lv_at hl 0 rfl) ?_
    refine g_get X dX13_lost_17 f_X13_45 (hB.one (k := 7) hkx0 rfl) 0 (v := .ref (rS x0 3)) rfl rfl ?_
    have k5 : tS (rS x0 3) = 11 := (hB.wtk hkx0).2.2.1
    refine lv_iload_n hx hb dX13_lost_20 rfl (lv_at hl 1 rfl) ?_
    obtain ⟨fs9, hat9⟩ := hB.lat (isL_of k5)
    obtain ⟨o6, hw⟩ := hw
    refine g_after5 (st0 := [.int x1, .ref (rS x0 3)]) (rest := []) (g_F X mf_X13_163 (c_get l D tc h0 sa _ (rS x0 3) hB (isL_of k5) o6) rfl hat9 hT hS hA0 dX13_lost_21 hl.1 rfl rfl ⟨Nat.le_of_ble_eq_true rfl, Nat.le_of_ble_eq_true rfl⟩ (Nat.le_of_ble_eq_true rfl) ⟨Nat.le_of_ble_eq_true rfl, Nat.le_of_ble_eq_true rfl⟩) hS (fun _ h => h.elim) (fun u => .ref (rS (rS x0 3) x1.toNatClampNeg) :: []) (fun _ => rfl) (fun u H9 locs hu hP9 hz9 hk9 hS => ?_)
    have e9 : H9 = _ := hP9
    rw [e9] at hS ⊢
    have k7 : tS (rS (rS x0 3) x1.toNatClampNeg) = 5 := hB.elt k5 (lt10 o6)
    refine x_cast X w_1753 rfl (hB.at (k := 5) k7 rfl) dX13_lost_26 ?_
    refine g_getN X dX13_lost_29 f_X13_253 (hB.one (k := 5) k7 rfl) 0 (v := .int (wS3 (rS (rS x0 3) x1.toNatClampNeg) 7)) rfl rfl ?_
    exact t_X13_lost_32 X hr hT hA0  (wS3 (rS (rS x0 3) x1.toNatClampNeg) 7) wS3 _ _ _ hw hB  hS (lv_sub hl [] rfl)
  · have hw := hw.2 c4
    refine lv_iconst (v := (-1)) hx hb dX13_lost_12 (by decide) ?_
    refine lv_goto (tgt := 32) hx hb dX13_lost_13 (by decide) ?_
    exact t_X13_lost_32 X hr hT hA0  (-1) wS3 _ _ _ hw hB  hS (lv_sub hl [] rfl)
abbrev rm_X13_countSeen : Room := { frames := 3, cells := 0, slots := 0, locals := 67 }
def wp_X13_countSeen_37 (post : Int32 → Dt → Prop) (tS : Nat → Nat) (nS : Nat → Nat) (rS : Nat → Nat → Nat)  (z0 : Int32) (wS : Dt) : Prop := post z0 wS
set_option maxHeartbeats 4000000 in
set_option maxRecDepth 100000 in
theorem t_X13_countSeen_37 : ∀ {p : Program} {l : Launch} {e : Env} {s : State} {m : MethodId} {args : Array Value} {below : List Frame} {meth : Method} {c : Code} {D : va_G} {tc : Nat → ClassId} {h0 : Nat} {sa : Nat → Nat} {A : Nat → Prop} {post : Int32 → Dt → Prop} {tS : Nat → Nat} {nS : Nat → Nat} {rS : Nat → Nat → Nat}  (X : Cx p c s m meth cX13_countSeen 2 RX13 D tc) (hr : meth.sig.returnType = (Option.some FieldType.int)) (hT : ST h0 sa s s.heap) (hA0 : ∀ q, A q → h0 ≤ q) , ∀ (z0 : Int32) (wS : Dt) (H : Heap) (locs : List Loc) (ls : Array Slot), wp_X13_countSeen_37 post tS nS rS  z0 wS → SB D tc (sa 3) A tS nS rS wS H → va_S A s.heap H locs → lv_has ls 2 [] → W p l e rm_X13_countSeen s m args below meth c H locs 0 0 (MQ below (QB (fun u : Int32 × Dt => post u.1 u.2) (fun (u : Int32 × Dt) (H1 : Heap) => SB D tc (sa 3) A tS nS rS u.2 H1) (fun u : Int32 × Dt => some (.int u.1)) A) args s rm_X13_countSeen.cells rm_X13_countSeen.slots A) (F0 m 37 ls [.int z0]) := by
  intro p l e s m args below meth c D tc h0 sa A post tS nS rS  X hr hT hA0   z0 wS H locs ls hw hB  hS hl
  have hx := X.1
  have hb := X.2.1
  have hown := X.2.2.2.1
  have hU := X.2.2.2.2.1.1
  unfold wp_X13_countSeen_37 at hw
  exact e_i X hr dX13_countSeen_37 hS (z0, wS) rfl hw hB ⟨Nat.le_of_ble_eq_true rfl, Nat.le_of_ble_eq_true rfl⟩
def wp_X13_countSeen (post : Int32 → Dt → Prop) (tS : Nat → Nat) (nS : Nat → Nat) (rS : Nat → Nat → Nat) (wS : Dt) (x0 : Nat) (x1 : Int32) : Prop := wp_X13_begins (fun wS1 => wp_X13_noFrame (fun r2 wS3 => (r2 = 0 → vp_in x1 (nS (rS x0 4)) ∧ (wp_X13_countSeen_37 post tS nS rS  (nI (nS (rS (rS (rS x0 4) x1.toNatClampNeg) 1))) wS3)) ∧ (¬ r2 = 0 → wp_X13_countSeen_37 post tS nS rS  (-1) wS3)) tS nS rS wS1 x0 x1) tS nS rS wS x0
set_option maxHeartbeats 4000000 in
set_option maxRecDepth 100000 in
theorem c_X13_countSeen (l : Launch) (D : va_G) (tc : Nat → ClassId) (h0 : Nat) (sa : Nat → Nat) (x0 : Nat) (x1 : Int32) {A : Nat → Prop} (H0 : Heap) {tS nS : Nat → Nat} {rS : Nat → Nat → Nat} {wS : Dt} (hB : SB D tc (sa 3) A tS nS rS wS H0) (hkx0 : tS x0 = 7) (hA0 : ∀ q, A q → h0 ≤ q) {post : Int32 → Dt → Prop} (hw : wp_X13_countSeen post tS nS rS wS x0 x1) : MB l yX13_countSeen cX13_countSeen 2 (Option.some FieldType.int) rm_X13_countSeen A [.ref x0, .int x1] D tc h0 sa H0 (fun u : Int32 × Dt => post u.1 u.2) (fun (u : Int32 × Dt) (H1 : Heap) => SB D tc (sa 3) A tS nS rS u.2 H1) (fun u : Int32 × Dt => some (.int u.1)) := by
  refine MB.of RX13 [(0, .ref x0), (1, .int x1)] (by decide +kernel) rfl (Nat.le_of_ble_eq_true rfl) rfl ?_
  intro p e s m below meth c ls X hr hin hT hH hS hl
  subst hH
  have hx := X.1
  have hb := X.2.1
  have hown := X.2.2.2.1
  have hU := X.2.2.2.2.1.1
  unfold wp_X13_countSeen at hw
  refine lv_aload_n hx hb dX13_countSeen_0 rfl (lv_at hl 0 rfl) ?_
  refine g_after (st0 := [.ref x0]) (rest := []) (g_V X m_X13_61 (c_X13_begins l D tc h0 sa x0 _ hB hkx0 hA0 hw) (recv1 X.2.2.2.2.1 rfl (hB.at (k := 7) hkx0 rfl)) hT hS hA0 dX13_countSeen_1 hl.1 rfl rfl ⟨Nat.le_of_ble_eq_true rfl, Nat.le_of_ble_eq_true rfl⟩ (Nat.le_of_ble_eq_true rfl) ⟨Nat.le_of_ble_eq_true rfl, Nat.le_of_ble_eq_true rfl⟩) hS (fun _ h => h) (fun u => []) (fun _ => rfl) (fun u H locs hw hP9 hz9 hk9 hS => ?_)
  obtain ⟨wS1, rfl⟩ : ∃ z, z = u := ⟨_, rfl⟩
  try dsimp only at hw hP9
  have hB := hP9
  refine lv_aload_n hx hb dX13_countSeen_4 rfl (lv_at hl 0 rfl) ?_
  refine lv_iload_n hx hb dX13_countSeen_5 rfl (lv_at hl 1 rfl) ?_
  refine g_after (st0 := [.int x1, .ref x0]) (rest := []) (g_V X m_X13_298 (c_X13_noFrame l D tc h0 sa x0 x1 _ hB hkx0 hA0 hw) (recv1 X.2.2.2.2.1 rfl (hB.at (k := 7) hkx0 rfl)) hT hS hA0 dX13_countSeen_6 hl.1 rfl rfl ⟨Nat.le_of_ble_eq_true rfl, Nat.le_of_ble_eq_true rfl⟩ (Nat.le_of_ble_eq_true rfl) ⟨Nat.le_of_ble_eq_true rfl, Nat.le_of_ble_eq_true rfl⟩) hS (fun _ h => h) (fun u => .int u.1 :: []) (fun _ => rfl) (fun u H locs hw hP9 hz9 hk9 hS => ?_)
  obtain ⟨r2, wS3⟩ := u
  try dsimp only at hw hP9
  have hB := hP9
  refine lv_if_eq (tgt := 16) hx hb dX13_countSeen_9 (by decide) (fun c4 => ?_) (fun c4 => ?_)
  · have hw := hw.1 c4
    refine lv_aload_n hx hb dX13_countSeen_16 rfl (lv_at hl 0 rfl) ?_
    refine g_get X dX13_countSeen_17 f_X13_48 (hB.one (k := 7) hkx0 rfl) 0 (v := .ref (rS x0 4)) rfl rfl ?_
    have k5 : tS (rS x0 4) = 12 := (hB.wtk hkx0).2.2.2
    refine lv_iload_n hx hb dX13_countSeen_20 rfl (lv_at hl 1 rfl) ?_
    obtain ⟨fs9, hat9⟩ := hB.lat (isL_of k5)
    obtain ⟨o6, hw⟩ := hw
    refine g_after5 (st0 := [.int x1, .ref (rS x0 4)]) (rest := []) (g_F X mf_X13_163 (c_get l D tc h0 sa _ (rS x0 4) hB (isL_of k5) o6) rfl hat9 hT hS hA0 dX13_countSeen_21 hl.1 rfl rfl ⟨Nat.le_of_ble_eq_true rfl, Nat.le_of_ble_eq_true rfl⟩ (Nat.le_of_ble_eq_true rfl) ⟨Nat.le_of_ble_eq_true rfl, Nat.le_of_ble_eq_true rfl⟩) hS (fun _ h => h.elim) (fun u => .ref (rS (rS x0 4) x1.toNatClampNeg) :: []) (fun _ => rfl) (fun u H9 locs hu hP9 hz9 hk9 hS => ?_)
    have e9 : H9 = _ := hP9
    rw [e9] at hS ⊢
    have k7 : tS (rS (rS x0 4) x1.toNatClampNeg) = 6 := hB.elt k5 (lt10 o6)
    refine x_cast X w_1904 rfl (hB.at (k := 6) k7 rfl) dX13_countSeen_26 ?_
    refine g_getN X dX13_countSeen_29 f_X13_291 (hB.one (k := 6) k7 rfl) 0 (v := .ref (rS (rS (rS x0 4) x1.toNatClampNeg) 1)) rfl rfl ?_
    have k8 : tS (rS (rS (rS x0 4) x1.toNatClampNeg) 1) = 8 := (hB.wtk k7)
    obtain ⟨fs9, hat9⟩ := hB.lat (isL_of k8)
    refine g_after5 (st0 := [.ref (rS (rS (rS x0 4) x1.toNatClampNeg) 1)]) (rest := []) (g_F X mf_X13_7 (c_size l D tc h0 sa _ (rS (rS (rS x0 4) x1.toNatClampNeg) 1) hB (isL_of k8)) rfl hat9 hT hS hA0 dX13_countSeen_32 hl.1 rfl rfl ⟨Nat.le_of_ble_eq_true rfl, Nat.le_of_ble_eq_true rfl⟩ (Nat.le_of_ble_eq_true rfl) ⟨Nat.le_of_ble_eq_true rfl, Nat.le_of_ble_eq_true rfl⟩) hS (fun _ h => h.elim) (fun u => .int (nI (nS (rS (rS (rS x0 4) x1.toNatClampNeg) 1))) :: []) (fun _ => rfl) (fun u H9 locs hu hP9 hz9 hk9 hS => ?_)
    have e9 : H9 = _ := hP9
    rw [e9] at hS ⊢
    exact t_X13_countSeen_37 X hr hT hA0  (nI (nS (rS (rS (rS x0 4) x1.toNatClampNeg) 1))) wS3 _ _ _ hw hB  hS (lv_sub hl [] rfl)
  · have hw := hw.2 c4
    refine lv_iconst (v := (-1)) hx hb dX13_countSeen_12 (by decide) ?_
    refine lv_goto (tgt := 37) hx hb dX13_countSeen_13 (by decide) ?_
    exact t_X13_countSeen_37 X hr hT hA0  (-1) wS3 _ _ _ hw hB  hS (lv_sub hl [] rfl)
abbrev rm_X9_with (b0 s0 : Nat) : Room := { frames := 3, cells := b0, slots := s0, locals := 61 }
def wp_X9_with_47 (post : Option Nat → (Nat → Nat) → (Nat → Nat) → (Nat → Nat → Nat) → Dt → Prop)  (K12 : Int32 → Option Nat → Nat → Int32 → Int32 → (Nat → Nat) → (Nat → Nat) → (Nat → Nat → Nat) → (Dt) → (Nat) → (Nat) → Prop) (y1 : Int32) (ay3 : Nat) (cy3 : Int32) (my3 : Int32) (z0 : Option Nat) (tS : Nat → Nat) (nS : Nat → Nat) (rS : Nat → Nat → Nat) (wS : Dt) (bS : Nat) (sS : Nat) : Prop := K12 y1 z0 ay3 cy3 my3 tS nS rS wS bS sS
set_option maxHeartbeats 4000000 in
set_option maxRecDepth 100000 in
theorem t_X9_with_47 : ∀ {p : Program} {l : Launch} {e : Env} {s : State} {m : MethodId} {args : Array Value} {below : List Frame} {meth : Method} {c : Code} {D : va_G} {tc : Nat → ClassId} {h0 : Nat} {sa : Nat → Nat} {Am : Nat → Prop} {b0 s0 : Nat} {t0 : Nat → Nat} {post : Option Nat → (Nat → Nat) → (Nat → Nat) → (Nat → Nat → Nat) → Dt → Prop}  {K12 : Int32 → Option Nat → Nat → Int32 → Int32 → (Nat → Nat) → (Nat → Nat) → (Nat → Nat → Nat) → (Dt) → (Nat) → (Nat) → Prop} (X : Cx p c s m meth cX9_with 5 RX9 D tc) (hr : meth.sig.returnType = (Option.some (FieldType.object "BandworldModel$Storm"))) (hT : ST h0 sa s s.heap) (hA0 : ∀ q, Am q → h0 ≤ q) (hAm9 : ∀ x, s.heap.size ≤ x → Am x) (hK12 : ∀ (qy3 : Nat) (y1 : Int32) (y2 : Option Nat) (ay3 : Nat) (cy3 : Int32) (my3 : Int32) (tS : Nat → Nat) (nS : Nat → Nat) (rS : Nat → Nat → Nat) (wS : Dt) (bS : Nat) (sS : Nat) (H : Heap) (locs : List Loc) (ls : Array Slot) (AS : Nat → Prop) (cells slots : Nat), K12 y1 y2 ay3 cy3 my3 tS nS rS wS bS sS → SB D tc (sa 3) AS tS nS rS wS H → (∀ x, y2 = some x → tS x = 3) → (tS ay3 = 8) → (IT D qy3 ay3 cy3 my3 H) → (¬ AS qy3) → (Am qy3) → (∀ x, AS x → Am x) → (∀ x, H.size ≤ x → AS x) → Ext t0 tS → cells + bS ≤ b0 → slots + sS ≤ s0 → va_S Am s.heap H locs → lv_has ls 5 [(1, .int y1), (2, (va_rf y2)), (3, .ref qy3)] → W p l e (rm_X9_with b0 s0) s m args below meth c H locs cells slots (MQ below (QB (fun u : Option Nat × (Nat → Nat) × (Nat → Nat) × (Nat → Nat → Nat) × Dt => post u.1 u.2.1 u.2.2.1 u.2.2.2.1 u.2.2.2.2) (fun (u : Option Nat × (Nat → Nat) × (Nat → Nat) × (Nat → Nat → Nat) × Dt) (H1 : Heap) => SB D tc (sa 3) Am u.2.1 u.2.2.1 u.2.2.2.1 u.2.2.2.2 H1 ∧ Ext t0 u.2.1 ∧ ∀ x, u.1 = some x → u.2.1 x = 3) (fun u : Option Nat × (Nat → Nat) × (Nat → Nat) × (Nat → Nat → Nat) × Dt => some (va_rf u.1)) Am) args s (rm_X9_with b0 s0).cells (rm_X9_with b0 s0).slots Am) (F0 m 12 ls [])), ∀ (qy3 : Nat) (y1 : Int32) (ay3 : Nat) (cy3 : Int32) (my3 : Int32) (z0 : Option Nat) (tS : Nat → Nat) (nS : Nat → Nat) (rS : Nat → Nat → Nat) (wS : Dt) (bS : Nat) (sS : Nat) (H : Heap) (locs : List Loc) (ls : Array Slot) (AS : Nat → Prop) (cells slots : Nat), wp_X9_with_47 post  K12 y1 ay3 cy3 my3 z0 tS nS rS wS bS sS → SB D tc (sa 3) AS tS nS rS wS H → (tS ay3 = 8) → (IT D qy3 ay3 cy3 my3 H) → (¬ AS qy3) → (Am qy3) → (∀ x, z0 = some x → tS x = 3) → (∀ x, AS x → Am x) → (∀ x, H.size ≤ x → AS x) → Ext t0 tS → cells + bS ≤ b0 → slots + sS ≤ s0 → va_S Am s.heap H locs → lv_has ls 5 [(1, .int y1), (3, .ref qy3)] → W p l e (rm_X9_with b0 s0) s m args below meth c H locs cells slots (MQ below (QB (fun u : Option Nat × (Nat → Nat) × (Nat → Nat) × (Nat → Nat → Nat) × Dt => post u.1 u.2.1 u.2.2.1 u.2.2.2.1 u.2.2.2.2) (fun (u : Option Nat × (Nat → Nat) × (Nat → Nat) × (Nat → Nat → Nat) × Dt) (H1 : Heap) => SB D tc (sa 3) Am u.2.1 u.2.2.1 u.2.2.2.1 u.2.2.2.2 H1 ∧ Ext t0 u.2.1 ∧ ∀ x, u.1 = some x → u.2.1 x = 3) (fun u : Option Nat × (Nat → Nat) × (Nat → Nat) × (Nat → Nat → Nat) × Dt => some (va_rf u.1)) Am) args s (rm_X9_with b0 s0).cells (rm_X9_with b0 s0).slots Am) (F0 m 47 ls [(va_rf z0)]) := by
  intro p l e s m args below meth c D tc h0 sa Am b0 s0 t0 post  K12 X hr hT hA0 hAm9 hK12 qy3 y1 ay3 cy3 my3 z0 tS nS rS wS bS sS H locs ls AS cells slots hw hB hky3 hIy3 hny3 hmy3 hkz0 hAS hAF hX hc hs hS hl
  have hx := X.1
  have hb := X.2.1
  have hown := X.2.2.2.1
  have hU := X.2.2.2.2.1.1
  unfold wp_X9_with_47 at hw
  refine lv_astore_nO (lv' := [(2, (va_rf z0)), (1, .int y1), (3, .ref qy3)]) hx hb dX9_with_47 rfl hl (by decide) rfl (fun ls hl => ?_)
  refine lv_goto (tgt := 12) hx hb dX9_with_48 (by decide) ?_
  exact hK12 qy3 y1 z0 ay3 cy3 my3 tS nS rS wS bS sS _ _ _ _ _ _ hw hB hkz0 hky3 hIy3 hny3 hmy3 hAS hAF hX hc hs hS (lv_sub hl [1, 0, 2] rfl)
def wp_X9_with_12 (post : Option Nat → (Nat → Nat) → (Nat → Nat) → (Nat → Nat → Nat) → Dt → Prop)   : Nat → (Int32) → (Option Nat) → (Nat) → (Int32) → (Int32) → (Nat → Nat) → (Nat → Nat) → (Nat → Nat → Nat) → (Dt) → (Nat) → (Nat) → Prop
  | 0, _, _, _, _, _, _, _, _, _, _, _ => False
  | n9 + 1, y1, y2, ay3, cy3, my3, tS, nS, rS, wS, bS, sS => (cy3 = nI (nS ay3) → post y2 tS nS rS wS) ∧ (¬ cy3 = nI (nS ay3) → vp_in cy3 (nS ay3) ∧ (wS ay3 0 = my3 ∧ ((¬ (wS (rS ay3 cy3.toNatClampNeg) 4) = y1 → wp_X9_with_47 post  (fun a0 a1 a2 a3 a4 a5 a6 a7 a8 a9 a10 => wp_X9_with_12 post   n9 a0 a1 a2 a3 a4 a5 a6 a7 a8 a9 a10) y1 ay3 (cy3 + 1) my3 y2 tS nS rS wS bS sS) ∧ ((wS (rS ay3 cy3.toNatClampNeg) 4) = y1 → wp_X9_with_47 post  (fun a0 a1 a2 a3 a4 a5 a6 a7 a8 a9 a10 => wp_X9_with_12 post   n9 a0 a1 a2 a3 a4 a5 a6 a7 a8 a9 a10) y1 ay3 (cy3 + 1) my3 (some (rS ay3 cy3.toNatClampNeg)) tS nS rS wS bS sS))))
set_option maxHeartbeats 4000000 in
set_option maxRecDepth 100000 in
theorem t_X9_with_12 : ∀ {p : Program} {l : Launch} {e : Env} {s : State} {m : MethodId} {args : Array Value} {below : List Frame} {meth : Method} {c : Code} {D : va_G} {tc : Nat → ClassId} {h0 : Nat} {sa : Nat → Nat} {Am : Nat → Prop} {b0 s0 : Nat} {t0 : Nat → Nat} {post : Option Nat → (Nat → Nat) → (Nat → Nat) → (Nat → Nat → Nat) → Dt → Prop}   (X : Cx p c s m meth cX9_with 5 RX9 D tc) (hr : meth.sig.returnType = (Option.some (FieldType.object "BandworldModel$Storm"))) (hT : ST h0 sa s s.heap) (hA0 : ∀ q, Am q → h0 ≤ q) (hAm9 : ∀ x, s.heap.size ≤ x → Am x)  (n9 : Nat), ∀ (qy3 : Nat) (y1 : Int32) (y2 : Option Nat) (ay3 : Nat) (cy3 : Int32) (my3 : Int32) (tS : Nat → Nat) (nS : Nat → Nat) (rS : Nat → Nat → Nat) (wS : Dt) (bS : Nat) (sS : Nat) (H : Heap) (locs : List Loc) (ls : Array Slot) (AS : Nat → Prop) (cells slots : Nat), wp_X9_with_12 post   n9 y1 y2 ay3 cy3 my3 tS nS rS wS bS sS → SB D tc (sa 3) AS tS nS rS wS H → (∀ x, y2 = some x → tS x = 3) → (tS ay3 = 8) → (IT D qy3 ay3 cy3 my3 H) → (¬ AS qy3) → (Am qy3) → (∀ x, AS x → Am x) → (∀ x, H.size ≤ x → AS x) → Ext t0 tS → cells + bS ≤ b0 → slots + sS ≤ s0 → va_S Am s.heap H locs → lv_has ls 5 [(1, .int y1), (2, (va_rf y2)), (3, .ref qy3)] → W p l e (rm_X9_with b0 s0) s m args below meth c H locs cells slots (MQ below (QB (fun u : Option Nat × (Nat → Nat) × (Nat → Nat) × (Nat → Nat → Nat) × Dt => post u.1 u.2.1 u.2.2.1 u.2.2.2.1 u.2.2.2.2) (fun (u : Option Nat × (Nat → Nat) × (Nat → Nat) × (Nat → Nat → Nat) × Dt) (H1 : Heap) => SB D tc (sa 3) Am u.2.1 u.2.2.1 u.2.2.2.1 u.2.2.2.2 H1 ∧ Ext t0 u.2.1 ∧ ∀ x, u.1 = some x → u.2.1 x = 3) (fun u : Option Nat × (Nat → Nat) × (Nat → Nat) × (Nat → Nat → Nat) × Dt => some (va_rf u.1)) Am) args s (rm_X9_with b0 s0).cells (rm_X9_with b0 s0).slots Am) (F0 m 12 ls []) := by
  intro p l e s m args below meth c D tc h0 sa Am b0 s0 t0 post   X hr hT hA0 hAm9  n9
  have hx := X.1
  have hb := X.2.1
  have hown := X.2.2.2.1
  have hU := X.2.2.2.2.1.1
  induction n9 with
  | zero =>
    intro qy3 y1 y2 ay3 cy3 my3 tS nS rS wS bS sS H locs ls AS cells slots hw
    exact hw.elim
  | succ n9 ih =>
    intro qy3 y1 y2 ay3 cy3 my3 tS nS rS wS bS sS H locs ls AS cells slots hw hB hky2 hky3 hIy3 hny3 hmy3 hAS hAF hX hc hs hS hl
    unfold wp_X9_with_12 at hw
    refine lv_aload_n hx hb dX9_with_12 rfl (lv_at hl 2 rfl) ?_
    have hI9 := hIy3
    obtain ⟨lr9, hat9⟩ := hI9
    refine g_after5 (st0 := [.ref qy3]) (rest := []) (g_F X mf_X9_22 (c_hn l D tc h0 sa _ qy3 ay3 hB (isL_of hky3) hIy3) rfl hat9 hT hS hA0 dX9_with_13 hl.1 rfl rfl ⟨Nat.le_of_ble_eq_true rfl, Nat.le_of_ble_eq_true rfl⟩ (Nat.le_of_ble_eq_true rfl) ⟨show cells + 0 ≤ b0 by omega, show slots + 0 ≤ s0 by omega⟩) hS (fun _ h => h.elim) (fun u => .int (if cy3 = nI (nS ay3) then 0 else 1) :: []) (fun _ => rfl) (fun u H9 locs hu hP9 hz9 hk9 hS => ?_)
    have e9 : H9 = _ := hP9
    rw [e9] at hS ⊢
    refine W.widen (k := cells) (n := slots) (Nat.le_refl _) (Nat.le_refl _) ?_
    refine lv_if_eq (tgt := 51) hx hb dX9_with_18 (by decide) (fun c6 => ?_) (fun c6 => ?_)
    · have hw := hw.1 (hn_eq c6)
      refine lv_aload_nO hx hb dX9_with_51 rfl (lv_at hl 1 rfl) ?_
      exact e_a X hr (Or.inl ⟨_, rfl⟩) (va_rf_or y2) dX9_with_52 hS (y2, tS, nS, rS, wS) rfl hw ⟨hB.regs hAS, hX, hky2⟩ ⟨show cells ≤ b0 by omega, show slots ≤ s0 by omega⟩
    · have hw := hw.2 (hn_ne c6)
      refine lv_aload_n hx hb dX9_with_21 rfl (lv_at hl 2 rfl) ?_
      have hI9 := hIy3
      obtain ⟨lr9, hat9⟩ := hI9
      obtain ⟨o7, hw⟩ := hw
      obtain ⟨o8, hw⟩ := hw
      refine g_after5 (st0 := [.ref qy3]) (rest := []) (g_F X mf_X9_28 (c_nx l D tc h0 sa _ qy3 ay3 hB (isL_of hky3) hIy3 o8 o7 hny3 (hA0 _ hmy3)) rfl hat9 hT hS hA0 dX9_with_22 hl.1 rfl rfl ⟨Nat.le_of_ble_eq_true rfl, Nat.le_of_ble_eq_true rfl⟩ (Nat.le_of_ble_eq_true rfl) ⟨show cells + 0 ≤ b0 by omega, show slots + 0 ≤ s0 by omega⟩) hS (fun x h => h ▸ hmy3) (fun u => .ref (rS ay3 cy3.toNatClampNeg) :: []) (fun _ => rfl) (fun u H locs hu hP9 hz9 hk9 hS => ?_)
      refine W.widen (k := cells) (n := slots) (Nat.le_refl _) (Nat.le_refl _) ?_
      have hB := hB.kept (fun x hx hA => hk9 x hx (fun e => hny3 (e ▸ hA)))
      have hAF : ∀ x, H.size ≤ x → AS x := fun x h => hAF x (by omega)
      have hIy3 := hP9
      have k9 : tS (rS ay3 cy3.toNatClampNeg) = 3 := hB.elt hky3 (lt10 o7)
      refine x_cast X w_1956 rfl (hB.at (k := 3) k9 rfl) dX9_with_27 ?_
      refine lv_astore (lv' := [(4, .ref (rS ay3 cy3.toNatClampNeg)), (1, .int y1), (2, (va_rf y2)), (3, .ref qy3)]) hx hb dX9_with_30 hl (by decide) rfl (fun ls hl => ?_)
      refine lv_aload hx hb dX9_with_32 (lv_at hl 0 rfl) ?_
      refine g_getN X dX9_with_34 f_X9_34 (hB.one (k := 3) k9 rfl) 0 (v := .int (wS (rS ay3 cy3.toNatClampNeg) 4)) rfl rfl ?_
      refine lv_iload_n hx hb dX9_with_37 rfl (lv_at hl 1 rfl) ?_
      refine lv_icmp_ne (tgt := 46) hx hb dX9_with_38 (by decide) (fun c10 => ?_) (fun c10 => ?_)
      · have hw := hw.1 c10
        refine lv_aload_nO hx hb dX9_with_46 rfl (lv_at hl 2 rfl) ?_
        exact t_X9_with_47 X hr hT hA0 hAm9 ih qy3 y1 ay3 (cy3 + 1) my3 y2 tS nS rS wS bS sS _ _ _ _ _ _ hw hB hky3 hIy3 hny3 hmy3 hky2 hAS hAF hX hc hs hS (lv_sub hl [1, 3] rfl)
      · have hw := hw.2 c10
        refine lv_aload hx hb dX9_with_41 (lv_at hl 0 rfl) ?_
        refine lv_goto (tgt := 47) hx hb dX9_with_43 (by decide) ?_
        exact t_X9_with_47 X hr hT hA0 hAm9 ih qy3 y1 ay3 (cy3 + 1) my3 (some (rS ay3 cy3.toNatClampNeg)) tS nS rS wS bS sS _ _ _ _ _ _ hw hB hky3 hIy3 hny3 hmy3 (fun x h => Option.some.inj h ▸ k9) hAS hAF hX hc hs hS (lv_sub hl [1, 3] rfl)
def wp_X9_with (post : Option Nat → (Nat → Nat) → (Nat → Nat) → (Nat → Nat → Nat) → Dt → Prop)  (tS : Nat → Nat) (nS : Nat → Nat) (rS : Nat → Nat → Nat) (wS : Dt) (bS : Nat) (sS : Nat) (x0 : Nat) (x1 : Int32) : Prop := 1 ≤ bS ∧ (4 ≤ sS ∧ (∃ k9 : Nat, wp_X9_with_12 post   k9 x1 none (rS x0 1) (0 : Int32) (wS (rS x0 1) 0) tS nS rS wS (bS - 1) (sS - 4)))
set_option maxHeartbeats 4000000 in
set_option maxRecDepth 100000 in
theorem c_X9_with (l : Launch) (D : va_G) (tc : Nat → ClassId) (h0 : Nat) (sa : Nat → Nat) (x0 : Nat) (x1 : Int32) (b0 s0 : Nat) {Am : Nat → Prop} (H0 : Heap) {tS nS : Nat → Nat} {rS : Nat → Nat → Nat} {wS : Dt} (hB : SB D tc (sa 3) Am tS nS rS wS H0) (hkx0 : tS x0 = 6) (hA0 : ∀ q, Am q → h0 ≤ q) (hAF : ∀ x, H0.size ≤ x → Am x) {post : Option Nat → (Nat → Nat) → (Nat → Nat) → (Nat → Nat → Nat) → Dt → Prop} (hw : wp_X9_with post  tS nS rS wS b0 s0 x0 x1) : MB l yX9_with cX9_with 5 (Option.some (FieldType.object "BandworldModel$Storm")) (rm_X9_with b0 s0) Am [.ref x0, .int x1] D tc h0 sa H0 (fun u : Option Nat × (Nat → Nat) × (Nat → Nat) × (Nat → Nat → Nat) × Dt => post u.1 u.2.1 u.2.2.1 u.2.2.2.1 u.2.2.2.2) (fun (u : Option Nat × (Nat → Nat) × (Nat → Nat) × (Nat → Nat → Nat) × Dt) (H1 : Heap) => SB D tc (sa 3) Am u.2.1 u.2.2.1 u.2.2.2.1 u.2.2.2.2 H1 ∧ Ext tS u.2.1 ∧ ∀ x, u.1 = some x → u.2.1 x = 3) (fun u : Option Nat × (Nat → Nat) × (Nat → Nat) × (Nat → Nat → Nat) × Dt => some (va_rf u.1)) := by
  refine MB.of RX9 [(0, .ref x0), (1, .int x1)] (by decide +kernel) rfl (Nat.le_of_ble_eq_true rfl) rfl ?_
  intro p e s m below meth c ls X hr hin hT hH hS hl
  subst hH
  have hx := X.1
  have hb := X.2.1
  have hown := X.2.2.2.1
  have hU := X.2.2.2.2.1.1
  unfold wp_X9_with at hw
  obtain ⟨A, eA⟩ : ∃ z, z = Am := ⟨_, rfl⟩
  have hB : SB D tc (sa 3) A tS nS rS wS s.heap := by rw [eA]; exact hB
  have hAm9 := hAF
  have hAF : ∀ x, s.heap.size ≤ x → A x := by rw [eA]; exact hAF
  have hAS : ∀ x, A x → Am x := by rw [eA]; exact fun _ h => h
  have hX : Ext tS tS := Ext.rf
  obtain ⟨bS, ebS⟩ : ∃ z, z = b0 := ⟨_, rfl⟩
  obtain ⟨sS, esS⟩ : ∃ z, z = s0 := ⟨_, rfl⟩
  rw [← ebS, ← esS] at hw
  refine W_bud (b := bS) (s1 := sS) (B := b0) (S := s0) (show 0 + bS ≤ b0 by omega) (show 0 + sS ≤ s0 by omega) (fun cells slots hc hs => ?_)
  refine lv_null hx hb dX9_with_0 ?_
  refine lv_astore_nN (lv' := [(2, (va_rf none)), (0, .ref x0), (1, .int x1)]) hx hb dX9_with_1 rfl hl (by decide) rfl (fun ls hl => ?_)
  refine lv_aload_n hx hb dX9_with_2 rfl (lv_at hl 1 rfl) ?_
  refine g_get X dX9_with_3 f_X9_10 (hB.one (k := 6) hkx0 rfl) 0 (v := .ref (rS x0 1)) rfl rfl ?_
  have k1 : tS (rS x0 1) = 8 := (hB.wtk hkx0)
  obtain ⟨fs9, hat9⟩ := hB.lat (isL_of k1)
  obtain ⟨o2, hw⟩ := hw
  obtain ⟨o3, hw⟩ := hw
  refine g_after5 (st0 := [.ref (rS x0 1)]) (rest := []) (g_F X mf_X9_16 (c_itr l D tc h0 sa _ (rS x0 1) hB (isL_of k1) (fun x h => hA0 x (hAS x (hAF x h)))) rfl hat9 hT hS hA0 dX9_with_6 hl.1 rfl rfl ⟨Nat.le_of_ble_eq_true rfl, Nat.le_of_ble_eq_true rfl⟩ (Nat.le_of_ble_eq_true rfl) ⟨show cells + 1 ≤ b0 by omega, show slots + 4 ≤ s0 by omega⟩) hS (fun x h => hAS x (hAF x h)) (fun qi4 => .ref qi4 :: []) (fun _ => rfl) (fun qi4 H9 locs hu hP9 hz9 hk9 hS => ?_)
  obtain ⟨hq9, hqz, hIi4⟩ := hP9
  have o1 := fun x hx => hk9 x hx (fun h => by omega)
  have hmi4 : Am qi4 := hAS _ (hAF _ hq9)
  have hB := hB.off hq9 o1
  have hni4 : ¬ (fun x => A x ∧ x ≠ qi4) qi4 := fun h => h.2 rfl
  have hAF : ∀ x, H9.size ≤ x → (fun x => A x ∧ x ≠ qi4) x := fun x h => ⟨hAF x (by omega), fun e => by omega⟩
  have hAS : ∀ x, (fun x => A x ∧ x ≠ qi4) x → Am x := fun x h => hAS x h.1
  obtain ⟨AS5, eAS5⟩ : ∃ z : Nat → Prop, z = (fun x => A x ∧ x ≠ qi4) := ⟨_, rfl⟩
  rw [← eAS5] at hB hAF hAS hni4 
  refine W_bud (b := (bS - 1)) (s1 := (sS - 4)) (B := b0) (S := s0) (show (cells + 1) + (bS - 1) ≤ b0 by omega) (show (slots + 4) + (sS - 4) ≤ s0 by omega) (fun cells slots hc hs => ?_)
  refine lv_astore_n (lv' := [(3, .ref qi4), (2, (va_rf none)), (0, .ref x0), (1, .int x1)]) hx hb dX9_with_11 rfl hl (by decide) rfl (fun ls hl => ?_)
  obtain ⟨k9, hw⟩ := hw
  exact t_X9_with_12 X hr hT hA0 hAm9  k9 qi4 x1 none (rS x0 1) (0 : Int32) (wS (rS x0 1) 0) tS nS rS wS (bS - 1) (sS - 4) _ _ _ _ _ _ hw hB (fun x h => by cases h) k1 hIi4 hni4 hmi4 hAS hAF hX hc hs hS (lv_sub hl [3, 1, 0] rfl)
abbrev rm_X13_frame (b0 s0 : Nat) : Room := { frames := 7, cells := b0, slots := s0, locals := 191 }
def wp_X13_frame_51 (post : Int32 → (Nat → Nat) → (Nat → Nat) → (Nat → Nat → Nat) → Dt → Prop)   (tS : Nat → Nat) (nS : Nat → Nat) (rS : Nat → Nat → Nat) (wS : Dt) (bS : Nat) (sS : Nat) : Prop := post (-1) tS nS rS wS
set_option maxHeartbeats 4000000 in
set_option maxRecDepth 100000 in
theorem t_X13_frame_51 : ∀ {p : Program} {l : Launch} {e : Env} {s : State} {m : MethodId} {args : Array Value} {below : List Frame} {meth : Method} {c : Code} {D : va_G} {tc : Nat → ClassId} {h0 : Nat} {sa : Nat → Nat} {Am : Nat → Prop} {b0 s0 : Nat} {t0 : Nat → Nat} {post : Int32 → (Nat → Nat) → (Nat → Nat) → (Nat → Nat → Nat) → Dt → Prop}   (X : Cx p c s m meth cX13_frame 6 RX13 D tc) (hr : meth.sig.returnType = (Option.some FieldType.int)) (hT : ST h0 sa s s.heap) (hA0 : ∀ q, Am q → h0 ≤ q) (hAm9 : ∀ x, s.heap.size ≤ x → Am x) , ∀ (tS : Nat → Nat) (nS : Nat → Nat) (rS : Nat → Nat → Nat) (wS : Dt) (bS : Nat) (sS : Nat) (H : Heap) (locs : List Loc) (ls : Array Slot) (AS : Nat → Prop) (cells slots : Nat), wp_X13_frame_51 post   tS nS rS wS bS sS → SB D tc (sa 3) AS tS nS rS wS H → (∀ x, AS x → Am x) → (∀ x, H.size ≤ x → AS x) → Ext t0 tS → cells + bS ≤ b0 → slots + sS ≤ s0 → va_S Am s.heap H locs → lv_has ls 6 [] → W p l e (rm_X13_frame b0 s0) s m args below meth c H locs cells slots (MQ below (QB (fun u : Int32 × (Nat → Nat) × (Nat → Nat) × (Nat → Nat → Nat) × Dt => post u.1 u.2.1 u.2.2.1 u.2.2.2.1 u.2.2.2.2) (fun (u : Int32 × (Nat → Nat) × (Nat → Nat) × (Nat → Nat → Nat) × Dt) (H1 : Heap) => SB D tc (sa 3) Am u.2.1 u.2.2.1 u.2.2.2.1 u.2.2.2.2 H1 ∧ Ext t0 u.2.1) (fun u : Int32 × (Nat → Nat) × (Nat → Nat) × (Nat → Nat → Nat) × Dt => some (.int u.1)) Am) args s (rm_X13_frame b0 s0).cells (rm_X13_frame b0 s0).slots Am) (F0 m 51 ls []) := by
  intro p l e s m args below meth c D tc h0 sa Am b0 s0 t0 post   X hr hT hA0 hAm9   tS nS rS wS bS sS H locs ls AS cells slots hw hB  hAS hAF hX hc hs hS hl
  have hx := X.1
  have hb := X.2.1
  have hown := X.2.2.2.1
  have hU := X.2.2.2.2.1.1
  unfold wp_X13_frame_51 at hw
  refine lv_iconst (v := (-1)) hx hb dX13_frame_51 (by decide) ?_
  exact e_i X hr dX13_frame_52 hS ((-1), tS, nS, rS, wS) rfl hw ⟨hB.regs hAS, hX⟩ ⟨show cells ≤ b0 by omega, show slots ≤ s0 by omega⟩
def wp_X13_frame_160 (post : Int32 → (Nat → Nat) → (Nat → Nat) → (Nat → Nat → Nat) → Dt → Prop)  (K85 : Nat → Int32 → Nat → Nat → Int32 → Int32 → (Nat → Nat) → (Nat → Nat) → (Nat → Nat → Nat) → (Dt) → (Nat) → (Nat) → Prop) (y0 : Nat) (y1 : Int32) (y2 : Nat) (ay3 : Nat) (cy3 : Int32) (my3 : Int32) (tS : Nat → Nat) (nS : Nat → Nat) (rS : Nat → Nat → Nat) (wS : Dt) (bS : Nat) (sS : Nat) : Prop := K85 y0 y1 y2 ay3 cy3 my3 tS nS rS wS bS sS
set_option maxHeartbeats 4000000 in
set_option maxRecDepth 100000 in
theorem t_X13_frame_160 : ∀ {p : Program} {l : Launch} {e : Env} {s : State} {m : MethodId} {args : Array Value} {below : List Frame} {meth : Method} {c : Code} {D : va_G} {tc : Nat → ClassId} {h0 : Nat} {sa : Nat → Nat} {Am : Nat → Prop} {b0 s0 : Nat} {t0 : Nat → Nat} {post : Int32 → (Nat → Nat) → (Nat → Nat) → (Nat → Nat → Nat) → Dt → Prop}  {K85 : Nat → Int32 → Nat → Nat → Int32 → Int32 → (Nat → Nat) → (Nat → Nat) → (Nat → Nat → Nat) → (Dt) → (Nat) → (Nat) → Prop} (X : Cx p c s m meth cX13_frame 6 RX13 D tc) (hr : meth.sig.returnType = (Option.some FieldType.int)) (hT : ST h0 sa s s.heap) (hA0 : ∀ q, Am q → h0 ≤ q) (hAm9 : ∀ x, s.heap.size ≤ x → Am x) (hK85 : ∀ (qy3 : Nat) (y0 : Nat) (y1 : Int32) (y2 : Nat) (ay3 : Nat) (cy3 : Int32) (my3 : Int32) (tS : Nat → Nat) (nS : Nat → Nat) (rS : Nat → Nat → Nat) (wS : Dt) (bS : Nat) (sS : Nat) (H : Heap) (locs : List Loc) (ls : Array Slot) (AS : Nat → Prop) (cells slots : Nat), K85 y0 y1 y2 ay3 cy3 my3 tS nS rS wS bS sS → SB D tc (sa 3) AS tS nS rS wS H → (tS y0 = 7) → (tS y2 = 6) → (tS ay3 = 8) → (IT D qy3 ay3 cy3 my3 H) → (¬ AS qy3) → (Am qy3) → (∀ x, AS x → Am x) → (∀ x, H.size ≤ x → AS x) → Ext t0 tS → cells + bS ≤ b0 → slots + sS ≤ s0 → va_S Am s.heap H locs → lv_has ls 6 [(0, .ref y0), (1, .int y1), (2, .ref y2), (3, .ref qy3)] → W p l e (rm_X13_frame b0 s0) s m args below meth c H locs cells slots (MQ below (QB (fun u : Int32 × (Nat → Nat) × (Nat → Nat) × (Nat → Nat → Nat) × Dt => post u.1 u.2.1 u.2.2.1 u.2.2.2.1 u.2.2.2.2) (fun (u : Int32 × (Nat → Nat) × (Nat → Nat) × (Nat → Nat → Nat) × Dt) (H1 : Heap) => SB D tc (sa 3) Am u.2.1 u.2.2.1 u.2.2.2.1 u.2.2.2.2 H1 ∧ Ext t0 u.2.1) (fun u : Int32 × (Nat → Nat) × (Nat → Nat) × (Nat → Nat → Nat) × Dt => some (.int u.1)) Am) args s (rm_X13_frame b0 s0).cells (rm_X13_frame b0 s0).slots Am) (F0 m 85 ls [])), ∀ (qy3 : Nat) (y0 : Nat) (y1 : Int32) (y2 : Nat) (ay3 : Nat) (cy3 : Int32) (my3 : Int32) (tS : Nat → Nat) (nS : Nat → Nat) (rS : Nat → Nat → Nat) (wS : Dt) (bS : Nat) (sS : Nat) (H : Heap) (locs : List Loc) (ls : Array Slot) (AS : Nat → Prop) (cells slots : Nat), wp_X13_frame_160 post  K85 y0 y1 y2 ay3 cy3 my3 tS nS rS wS bS sS → SB D tc (sa 3) AS tS nS rS wS H → (tS y0 = 7) → (tS y2 = 6) → (tS ay3 = 8) → (IT D qy3 ay3 cy3 my3 H) → (¬ AS qy3) → (Am qy3) → (∀ x, AS x → Am x) → (∀ x, H.size ≤ x → AS x) → Ext t0 tS → cells + bS ≤ b0 → slots + sS ≤ s0 → va_S Am s.heap H locs → lv_has ls 6 [(0, .ref y0), (1, .int y1), (2, .ref y2), (3, .ref qy3)] → W p l e (rm_X13_frame b0 s0) s m args below meth c H locs cells slots (MQ below (QB (fun u : Int32 × (Nat → Nat) × (Nat → Nat) × (Nat → Nat → Nat) × Dt => post u.1 u.2.1 u.2.2.1 u.2.2.2.1 u.2.2.2.2) (fun (u : Int32 × (Nat → Nat) × (Nat → Nat) × (Nat → Nat → Nat) × Dt) (H1 : Heap) => SB D tc (sa 3) Am u.2.1 u.2.2.1 u.2.2.2.1 u.2.2.2.2 H1 ∧ Ext t0 u.2.1) (fun u : Int32 × (Nat → Nat) × (Nat → Nat) × (Nat → Nat → Nat) × Dt => some (.int u.1)) Am) args s (rm_X13_frame b0 s0).cells (rm_X13_frame b0 s0).slots Am) (F0 m 160 ls []) := by
  intro p l e s m args below meth c D tc h0 sa Am b0 s0 t0 post  K85 X hr hT hA0 hAm9 hK85 qy3 y0 y1 y2 ay3 cy3 my3 tS nS rS wS bS sS H locs ls AS cells slots hw hB hky0 hky2 hky3 hIy3 hny3 hmy3 hAS hAF hX hc hs hS hl
  have hx := X.1
  have hb := X.2.1
  have hown := X.2.2.2.1
  have hU := X.2.2.2.2.1.1
  unfold wp_X13_frame_160 at hw
  refine lv_goto (tgt := 85) hx hb dX13_frame_160 (by decide) ?_
  exact hK85 qy3 y0 y1 y2 ay3 cy3 my3 tS nS rS wS bS sS _ _ _ _ _ _ hw hB hky0 hky2 hky3 hIy3 hny3 hmy3 hAS hAF hX hc hs hS (lv_sub hl [0, 1, 2, 3] rfl)
def wp_X13_frame_85 (post : Int32 → (Nat → Nat) → (Nat → Nat) → (Nat → Nat → Nat) → Dt → Prop)   : Nat → (Nat) → (Int32) → (Nat) → (Nat) → (Int32) → (Int32) → (Nat → Nat) → (Nat → Nat) → (Nat → Nat → Nat) → (Dt) → (Nat) → (Nat) → Prop
  | 0, _, _, _, _, _, _, _, _, _, _, _, _ => False
  | n9 + 1, y0, y1, y2, ay3, cy3, my3, tS, nS, rS, wS, bS, sS => (cy3 = nI (nS ay3) → nS (rS y0 4) < 400 ∧ (1 ≤ bS ∧ ((2 * (nS (rS y0 4)) + 10) ≤ sS ∧ (∀ nS35 : Nat → Nat, nS35 = va_up nS (rS y0 4) (nS (rS y0 4) + 1) → (∀ rS36 : Nat → Nat → Nat, rS36 = va_up rS (rS y0 4) (va_up (rS (rS y0 4)) (nS (rS y0 4)) y2) → (∀ wS37 : Dt, wS37 = up2 wS (rS y0 4) 0 (wS (rS y0 4) 0 + 1) → (post ((nI (nS35 (rS36 y0 4))) - 1) tS nS35 rS36 wS37))))))) ∧ (¬ cy3 = nI (nS ay3) → vp_in cy3 (nS ay3) ∧ (wS ay3 0 = my3 ∧ (wp_J9_floorMod_7cf53 (fun r42 => (¬ (wS (rS ay3 cy3.toNatClampNeg) 5) = 0 → wp_X13_frame_160 post  (fun a0 a1 a2 a3 a4 a5 a6 a7 a8 a9 a10 a11 => wp_X13_frame_85 post   n9 a0 a1 a2 a3 a4 a5 a6 a7 a8 a9 a10 a11) y0 y1 y2 ay3 (cy3 + 1) my3 tS nS rS wS bS sS) ∧ ((wS (rS ay3 cy3.toNatClampNeg) 5) = 0 → (900 < (if (3600 - r42) < r42 then (3600 - r42) else r42) → wp_X13_frame_160 post  (fun a0 a1 a2 a3 a4 a5 a6 a7 a8 a9 a10 a11 => wp_X13_frame_85 post   n9 a0 a1 a2 a3 a4 a5 a6 a7 a8 a9 a10 a11) y0 y1 y2 ay3 (cy3 + 1) my3 tS nS rS wS bS sS) ∧ (¬ 900 < (if (3600 - r42) < r42 then (3600 - r42) else r42) → ∃ b46 s47 : Nat, b46 ≤ bS ∧ s47 ≤ sS ∧ (wp_X11_copy (fun r50 tS51 nS52 rS53 wS54 => nS52 (rS y2 1) < 400 ∧ (1 ≤ (bS - b46) ∧ ((2 * (nS52 (rS y2 1)) + 10) ≤ (sS - s47) ∧ (∀ nS64 : Nat → Nat, nS64 = va_up nS52 (rS y2 1) (nS52 (rS y2 1) + 1) → (∀ rS65 : Nat → Nat → Nat, rS65 = va_up rS53 (rS y2 1) (va_up (rS53 (rS y2 1)) (nS52 (rS y2 1)) r50) → (∀ wS66 : Dt, wS66 = up2 wS54 (rS y2 1) 0 (wS54 (rS y2 1) 0 + 1) → (wp_X13_frame_160 post  (fun a0 a1 a2 a3 a4 a5 a6 a7 a8 a9 a10 a11 => wp_X13_frame_85 post   n9 a0 a1 a2 a3 a4 a5 a6 a7 a8 a9 a10 a11) y0 y1 y2 ay3 (cy3 + 1) my3 tS51 nS64 rS65 wS66 ((bS - b46) - 1) ((sS - s47) - (2 * (nS52 (rS y2 1)) + 10))))))))) tS nS rS wS b46 s47 (rS ay3 cy3.toNatClampNeg))))) ((wS (rS ay3 cy3.toNatClampNeg) 1) - y1) 3600)))
set_option maxHeartbeats 4000000 in
set_option maxRecDepth 100000 in
theorem t_X13_frame_85 : ∀ {p : Program} {l : Launch} {e : Env} {s : State} {m : MethodId} {args : Array Value} {below : List Frame} {meth : Method} {c : Code} {D : va_G} {tc : Nat → ClassId} {h0 : Nat} {sa : Nat → Nat} {Am : Nat → Prop} {b0 s0 : Nat} {t0 : Nat → Nat} {post : Int32 → (Nat → Nat) → (Nat → Nat) → (Nat → Nat → Nat) → Dt → Prop}   (X : Cx p c s m meth cX13_frame 6 RX13 D tc) (hr : meth.sig.returnType = (Option.some FieldType.int)) (hT : ST h0 sa s s.heap) (hA0 : ∀ q, Am q → h0 ≤ q) (hAm9 : ∀ x, s.heap.size ≤ x → Am x)  (n9 : Nat), ∀ (qy3 : Nat) (y0 : Nat) (y1 : Int32) (y2 : Nat) (ay3 : Nat) (cy3 : Int32) (my3 : Int32) (tS : Nat → Nat) (nS : Nat → Nat) (rS : Nat → Nat → Nat) (wS : Dt) (bS : Nat) (sS : Nat) (H : Heap) (locs : List Loc) (ls : Array Slot) (AS : Nat → Prop) (cells slots : Nat), wp_X13_frame_85 post   n9 y0 y1 y2 ay3 cy3 my3 tS nS rS wS bS sS → SB D tc (sa 3) AS tS nS rS wS H → (tS y0 = 7) → (tS y2 = 6) → (tS ay3 = 8) → (IT D qy3 ay3 cy3 my3 H) → (¬ AS qy3) → (Am qy3) → (∀ x, AS x → Am x) → (∀ x, H.size ≤ x → AS x) → Ext t0 tS → cells + bS ≤ b0 → slots + sS ≤ s0 → va_S Am s.heap H locs → lv_has ls 6 [(0, .ref y0), (1, .int y1), (2, .ref y2), (3, .ref qy3)] → W p l e (rm_X13_frame b0 s0) s m args below meth c H locs cells slots (MQ below (QB (fun u : Int32 × (Nat → Nat) × (Nat → Nat) × (Nat → Nat → Nat) × Dt => post u.1 u.2.1 u.2.2.1 u.2.2.2.1 u.2.2.2.2) (fun (u : Int32 × (Nat → Nat) × (Nat → Nat) × (Nat → Nat → Nat) × Dt) (H1 : Heap) => SB D tc (sa 3) Am u.2.1 u.2.2.1 u.2.2.2.1 u.2.2.2.2 H1 ∧ Ext t0 u.2.1) (fun u : Int32 × (Nat → Nat) × (Nat → Nat) × (Nat → Nat → Nat) × Dt => some (.int u.1)) Am) args s (rm_X13_frame b0 s0).cells (rm_X13_frame b0 s0).slots Am) (F0 m 85 ls []) := by
  intro p l e s m args below meth c D tc h0 sa Am b0 s0 t0 post   X hr hT hA0 hAm9  n9
  have hx := X.1
  have hb := X.2.1
  have hown := X.2.2.2.1
  have hU := X.2.2.2.2.1.1
  induction n9 with
  | zero =>
    intro qy3 y0 y1 y2 ay3 cy3 my3 tS nS rS wS bS sS H locs ls AS cells slots hw
    exact hw.elim
  | succ n9 ih =>
    intro qy3 y0 y1 y2 ay3 cy3 my3 tS nS rS wS bS sS H locs ls AS cells slots hw hB hky0 hky2 hky3 hIy3 hny3 hmy3 hAS hAF hX hc hs hS hl
    unfold wp_X13_frame_85 at hw
    refine lv_aload_n hx hb dX13_frame_85 rfl (lv_at hl 3 rfl) ?_
    have hI9 := hIy3
    obtain ⟨lr9, hat9⟩ := hI9
    refine g_after5 (st0 := [.ref qy3]) (rest := []) (g_F X mf_X13_276 (c_hn l D tc h0 sa _ qy3 ay3 hB (isL_of hky3) hIy3) rfl hat9 hT hS hA0 dX13_frame_86 hl.1 rfl rfl ⟨Nat.le_of_ble_eq_true rfl, Nat.le_of_ble_eq_true rfl⟩ (Nat.le_of_ble_eq_true rfl) ⟨show cells + 0 ≤ b0 by omega, show slots + 0 ≤ s0 by omega⟩) hS (fun _ h => h.elim) (fun u => .int (if cy3 = nI (nS ay3) then 0 else 1) :: []) (fun _ => rfl) (fun u H9 locs hu hP9 hz9 hk9 hS => ?_)
    have e9 : H9 = _ := hP9
    rw [e9] at hS ⊢
    refine W.widen (k := cells) (n := slots) (Nat.le_refl _) (Nat.le_refl _) ?_
    refine lv_if_eq (tgt := 163) hx hb dX13_frame_91 (by decide) (fun c30 => ?_) (fun c30 => ?_)
    · have hw := hw.1 (hn_eq c30)
      refine lv_aload_n hx hb dX13_frame_163 rfl (lv_at hl 0 rfl) ?_
      refine g_get X dX13_frame_164 f_X13_48 (hB.one (k := 7) hky0 rfl) 0 (v := .ref (rS y0 4)) rfl rfl ?_
      have k31 : tS (rS y0 4) = 12 := (hB.wtk hky0).2.2.2
      refine lv_aload_n hx hb dX13_frame_167 rfl (lv_at hl 2 rfl) ?_
      obtain ⟨fs9, hat9⟩ := hB.lat (isL_of k31)
      obtain ⟨o32, hw⟩ := hw
      obtain ⟨o33, hw⟩ := hw
      obtain ⟨o34, hw⟩ := hw
      refine g_after5 (st0 := [.ref y2, .ref (rS y0 4)]) (rest := []) (g_F X mf_X13_142 (c_add l D tc h0 sa _ (rS y0 4) y2 hB (isL_of k31) (by rw [k31, hky2]; rfl) o32 (fun x h => hA0 x (hAS x h)) hAF) rfl hat9 hT hS hA0 dX13_frame_168 hl.1 rfl rfl ⟨Nat.le_of_ble_eq_true rfl, Nat.le_of_ble_eq_true rfl⟩ (Nat.le_of_ble_eq_true rfl) ⟨show cells + 1 ≤ b0 by omega, show slots + (2 * (nS (rS y0 4)) + 10) ≤ s0 by omega⟩) hS hAS (fun u => .int 1 :: []) (fun _ => rfl) (fun u H locs hu hP9 hz9 hk9 hS => ?_)
      have hB := hP9
      have hIy3 := hIy3.kept (fun x hx e => hk9 x hx (fun hA => hny3 (e ▸ hA)))
      have hAF : ∀ x, H.size ≤ x → AS x := fun x h => hAF x (by omega)
      refine W_bud (b := (bS - 1)) (s1 := (sS - (2 * (nS (rS y0 4)) + 10))) (B := b0) (S := s0) (show (cells + 1) + (bS - 1) ≤ b0 by omega) (show (slots + (2 * (nS (rS y0 4)) + 10)) + (sS - (2 * (nS (rS y0 4)) + 10)) ≤ s0 by omega) (fun cells slots hc hs => ?_)
      obtain ⟨nS35, enS35⟩ : ∃ z : Nat → Nat, z = va_up nS (rS y0 4) (nS (rS y0 4) + 1) := ⟨_, rfl⟩
      rw [← enS35] at hB
      have hw := hw nS35 enS35
      obtain ⟨rS36, erS36⟩ : ∃ z : Nat → Nat → Nat, z = va_up rS (rS y0 4) (va_up (rS (rS y0 4)) (nS (rS y0 4)) y2) := ⟨_, rfl⟩
      rw [← erS36] at hB
      have hw := hw rS36 erS36
      obtain ⟨wS37, ewS37⟩ : ∃ z : Dt, z = up2 wS (rS y0 4) 0 (wS (rS y0 4) 0 + 1) := ⟨_, rfl⟩
      rw [← ewS37] at hB
      have hw := hw wS37 ewS37
      refine lv_pop hx hb dX13_frame_173 rfl ?_
      refine lv_aload_n hx hb dX13_frame_174 rfl (lv_at hl 0 rfl) ?_
      refine g_get X dX13_frame_175 f_X13_48 (hB.one (k := 7) hky0 rfl) 0 (v := .ref (rS36 y0 4)) rfl rfl ?_
      have k38 : tS (rS36 y0 4) = 12 := (hB.wtk hky0).2.2.2
      obtain ⟨fs9, hat9⟩ := hB.lat (isL_of k38)
      refine g_after5 (st0 := [.ref (rS36 y0 4)]) (rest := []) (g_F X mf_X13_7 (c_size l D tc h0 sa _ (rS36 y0 4) hB (isL_of k38)) rfl hat9 hT hS hA0 dX13_frame_178 hl.1 rfl rfl ⟨Nat.le_of_ble_eq_true rfl, Nat.le_of_ble_eq_true rfl⟩ (Nat.le_of_ble_eq_true rfl) ⟨show cells + 0 ≤ b0 by omega, show slots + 0 ≤ s0 by omega⟩) hS (fun _ h => h.elim) (fun u => .int (nI (nS35 (rS36 y0 4))) :: []) (fun _ => rfl) (fun u H9 locs hu hP9 hz9 hk9 hS => ?_)
      have e9 : H9 = _ := hP9
      rw [e9] at hS ⊢
      refine W.widen (k := cells) (n := slots) (Nat.le_refl _) (Nat.le_refl _) ?_
      refine lv_iconst (v := 1) hx hb dX13_frame_183 (by decide) ?_
      refine lv_isub hx hb dX13_frame_184 ?_
      exact e_i X hr dX13_frame_185 hS (((nI (nS35 (rS36 y0 4))) - 1), tS, nS35, rS36, wS37) rfl hw ⟨hB.regs hAS, hX⟩ ⟨show cells ≤ b0 by omega, show slots ≤ s0 by omega⟩
    · have hw := hw.2 (hn_ne c30)
      refine lv_aload_n hx hb dX13_frame_94 rfl (lv_at hl 3 rfl) ?_
      have hI9 := hIy3
      obtain ⟨lr9, hat9⟩ := hI9
      obtain ⟨o39, hw⟩ := hw
      obtain ⟨o40, hw⟩ := hw
      refine g_after5 (st0 := [.ref qy3]) (rest := []) (g_F X mf_X13_281 (c_nx l D tc h0 sa _ qy3 ay3 hB (isL_of hky3) hIy3 o40 o39 hny3 (hA0 _ hmy3)) rfl hat9 hT hS hA0 dX13_frame_95 hl.1 rfl rfl ⟨Nat.le_of_ble_eq_true rfl, Nat.le_of_ble_eq_true rfl⟩ (Nat.le_of_ble_eq_true rfl) ⟨show cells + 0 ≤ b0 by omega, show slots + 0 ≤ s0 by omega⟩) hS (fun x h => h ▸ hmy3) (fun u => .ref (rS ay3 cy3.toNatClampNeg) :: []) (fun _ => rfl) (fun u H locs hu hP9 hz9 hk9 hS => ?_)
      refine W.widen (k := cells) (n := slots) (Nat.le_refl _) (Nat.le_refl _) ?_
      have hB := hB.kept (fun x hx hA => hk9 x hx (fun e => hny3 (e ▸ hA)))
      have hAF : ∀ x, H.size ≤ x → AS x := fun x h => hAF x (by omega)
      have hIy3 := hP9
      have k41 : tS (rS ay3 cy3.toNatClampNeg) = 3 := hB.elt hky3 (lt10 o39)
      refine x_cast X w_1435 rfl (hB.at (k := 3) k41 rfl) dX13_frame_100 ?_
      refine lv_astore (lv' := [(4, .ref (rS ay3 cy3.toNatClampNeg)), (0, .ref y0), (1, .int y1), (2, .ref y2), (3, .ref qy3)]) hx hb dX13_frame_103 hl (by decide) rfl (fun ls hl => ?_)
      refine lv_aload hx hb dX13_frame_105 (lv_at hl 0 rfl) ?_
      refine g_getN X dX13_frame_107 f_X13_134 (hB.one (k := 3) k41 rfl) 0 (v := .int (wS (rS ay3 cy3.toNatClampNeg) 1)) rfl rfl ?_
      refine lv_iload_n hx hb dX13_frame_110 rfl (lv_at hl 2 rfl) ?_
      refine lv_isub hx hb dX13_frame_111 ?_
      refine lv_sipush (v := 3600) hx hb dX13_frame_112 (by decide) ?_
      refine g_after (st0 := [.int 3600, .int ((wS (rS ay3 cy3.toNatClampNeg) 1) - y1)]) (rest := []) (g_S X m_X13_285 (c_J9_floorMod_7cf53 l D tc h0 sa ((wS (rS ay3 cy3.toNatClampNeg) 1) - y1) 3600 _ hw) hT hS hA0 dX13_frame_115 hl.1 rfl rfl ⟨Nat.le_of_ble_eq_true rfl, Nat.le_of_ble_eq_true rfl⟩ (Nat.le_of_ble_eq_true rfl) ⟨show cells + 0 ≤ b0 by omega, show slots + 0 ≤ s0 by omega⟩) hS (fun _ h => h.elim) (fun u => .int u :: []) (fun _ => rfl) (fun u H9 locs hw hP9 hz9 hk9 hS => ?_)
      have e9 : H9 = _ := hP9
      rw [e9] at hS ⊢
      refine W.widen (k := cells) (n := slots) (Nat.le_refl _) (Nat.le_refl _) ?_
      obtain ⟨r42, rfl⟩ : ∃ z, z = u := ⟨_, rfl⟩
      try dsimp only at hw
      refine lv_istore (lv' := [(5, .int r42), (4, .ref (rS ay3 cy3.toNatClampNeg)), (0, .ref y0), (1, .int y1), (2, .ref y2), (3, .ref qy3)]) hx hb dX13_frame_118 hl (by decide) rfl (fun ls hl => ?_)
      refine lv_aload hx hb dX13_frame_120 (lv_at hl 1 rfl) ?_
      refine g_getN X dX13_frame_122 f_X13_167 (hB.one (k := 3) k41 rfl) 0 (v := .int (wS (rS ay3 cy3.toNatClampNeg) 5)) rfl rfl ?_
      refine lv_if_ne (tgt := 160) hx hb dX13_frame_125 (by decide) (fun c43 => ?_) (fun c43 => ?_)
      · have hw := hw.1 c43
        exact t_X13_frame_160 X hr hT hA0 hAm9 ih qy3 y0 y1 y2 ay3 (cy3 + 1) my3 tS nS rS wS bS sS _ _ _ _ _ _ hw hB hky0 hky2 hky3 hIy3 hny3 hmy3 hAS hAF hX hc hs hS (lv_sub hl [2, 3, 4, 5] rfl)
      · have hw := hw.2 c43
        refine lv_iload hx hb dX13_frame_128 (lv_at hl 0 rfl) ?_
        refine lv_sipush (v := 3600) hx hb dX13_frame_130 (by decide) ?_
        refine lv_iload hx hb dX13_frame_133 (lv_at hl 0 rfl) ?_
        refine lv_isub hx hb dX13_frame_135 ?_
        refine g_min X hl.1 dX13_frame_136 w_1927 w_607 w_21 w_608 ⟨Nat.le_of_ble_eq_true rfl, Nat.le_of_ble_eq_true rfl, show cells ≤ b0 by omega, show slots ≤ s0 by omega⟩ ?_
        refine lv_sipush (v := 900) hx hb dX13_frame_139 (by decide) ?_
        refine lv_icmp_gt (tgt := 160) hx hb dX13_frame_142 (by decide) (fun c44 => ?_) (fun c44 => ?_)
        · have hw := hw.1 c44
          exact t_X13_frame_160 X hr hT hA0 hAm9 ih qy3 y0 y1 y2 ay3 (cy3 + 1) my3 tS nS rS wS bS sS _ _ _ _ _ _ hw hB hky0 hky2 hky3 hIy3 hny3 hmy3 hAS hAF hX hc hs hS (lv_sub hl [2, 3, 4, 5] rfl)
        · have hw := hw.2 c44
          refine lv_aload_n hx hb dX13_frame_145 rfl (lv_at hl 4 rfl) ?_
          refine g_getN X dX13_frame_146 f_X13_291 (hB.one (k := 6) hky2 rfl) 0 (v := .ref (rS y2 1)) rfl rfl ?_
          have k45 : tS (rS y2 1) = 8 := (hB.wtk hky2)
          refine lv_aload hx hb dX13_frame_149 (lv_at hl 1 rfl) ?_
          obtain ⟨b46, s47, o48, o49, hw⟩ := hw
          refine g_after (st0 := [.ref (rS ay3 cy3.toNatClampNeg), .ref (rS y2 1)]) (rest := [.ref (rS y2 1)]) (g_V X m_X13_294 (c_X11_copy l D tc h0 sa (rS ay3 cy3.toNatClampNeg) b46 s47 _ hB k41 (fun x h => hA0 x (hAS x h)) hAF hw) (recv1 X.2.2.2.2.1 rfl (hB.at (k := 3) k41 rfl)) hT hS hA0 dX13_frame_151 hl.1 rfl rfl ⟨Nat.le_of_ble_eq_true rfl, Nat.le_of_ble_eq_true rfl⟩ (Nat.le_of_ble_eq_true rfl) ⟨show cells + b46 ≤ b0 by omega, show slots + s47 ≤ s0 by omega⟩) hS hAS (fun u => .ref u.1 :: [.ref (rS y2 1)]) (fun _ => rfl) (fun u H locs hw hP9 hz9 hk9 hS => ?_)
          obtain ⟨r50, tS51, nS52, rS53, wS54⟩ := u
          try dsimp only at hw hP9
          obtain ⟨hB, hX9, hkr⟩ := hP9
          have hIy3 := hIy3.kept (fun x hx e => hk9 x hx (fun hA => hny3 (e ▸ hA)))
          have hAF : ∀ x, H.size ≤ x → AS x := fun x h => hAF x (by omega)
          have hX := hX.trans hX9
          refine W_bud (b := (bS - b46)) (s1 := (sS - s47)) (B := b0) (S := s0) (show (cells + b46) + (bS - b46) ≤ b0 by omega) (show (slots + s47) + (sS - s47) ≤ s0 by omega) (fun cells slots hc hs => ?_)
          have k55 : tS51 (rS ay3 cy3.toNatClampNeg) = 3 := hX9.to k41
          have k56 : tS51 y0 = 7 := hX9.to hky0
          have k57 : tS51 y2 = 6 := hX9.to hky2
          have k58 : tS51 (rS y2 1) = 8 := hX9.to k45
          have k59 := hX9.to hky3
          have k60 := hkr
          obtain ⟨fs9, hat9⟩ := hB.lat (isL_of k58)
          obtain ⟨o61, hw⟩ := hw
          obtain ⟨o62, hw⟩ := hw
          obtain ⟨o63, hw⟩ := hw
          refine g_after5 (st0 := [.ref r50, .ref (rS y2 1)]) (rest := []) (g_F X mf_X13_142 (c_add l D tc h0 sa _ (rS y2 1) r50 hB (isL_of k58) (by rw [k58, k60]; rfl) o61 (fun x h => hA0 x (hAS x h)) hAF) rfl hat9 hT hS hA0 dX13_frame_154 hl.1 rfl rfl ⟨Nat.le_of_ble_eq_true rfl, Nat.le_of_ble_eq_true rfl⟩ (Nat.le_of_ble_eq_true rfl) ⟨show cells + 1 ≤ b0 by omega, show slots + (2 * (nS52 (rS y2 1)) + 10) ≤ s0 by omega⟩) hS hAS (fun u => .int 1 :: []) (fun _ => rfl) (fun u H locs hu hP9 hz9 hk9 hS => ?_)
          have hB := hP9
          have hIy3 := hIy3.kept (fun x hx e => hk9 x hx (fun hA => hny3 (e ▸ hA)))
          have hAF : ∀ x, H.size ≤ x → AS x := fun x h => hAF x (by omega)
          refine W_bud (b := ((bS - b46) - 1)) (s1 := ((sS - s47) - (2 * (nS52 (rS y2 1)) + 10))) (B := b0) (S := s0) (show (cells + 1) + ((bS - b46) - 1) ≤ b0 by omega) (show (slots + (2 * (nS52 (rS y2 1)) + 10)) + ((sS - s47) - (2 * (nS52 (rS y2 1)) + 10)) ≤ s0 by omega) (fun cells slots hc hs => ?_)
          obtain ⟨nS64, enS64⟩ : ∃ z : Nat → Nat, z = va_up nS52 (rS y2 1) (nS52 (rS y2 1) + 1) := ⟨_, rfl⟩
          rw [← enS64] at hB
          have hw := hw nS64 enS64
          obtain ⟨rS65, erS65⟩ : ∃ z : Nat → Nat → Nat, z = va_up rS53 (rS y2 1) (va_up (rS53 (rS y2 1)) (nS52 (rS y2 1)) r50) := ⟨_, rfl⟩
          rw [← erS65] at hB
          have hw := hw rS65 erS65
          obtain ⟨wS66, ewS66⟩ : ∃ z : Dt, z = up2 wS54 (rS y2 1) 0 (wS54 (rS y2 1) 0 + 1) := ⟨_, rfl⟩
          rw [← ewS66] at hB
          have hw := hw wS66 ewS66
          refine lv_pop hx hb dX13_frame_159 rfl ?_
          exact t_X13_frame_160 X hr hT hA0 hAm9 ih qy3 y0 y1 y2 ay3 (cy3 + 1) my3 tS51 nS64 rS65 wS66 ((bS - b46) - 1) ((sS - s47) - (2 * (nS52 (rS y2 1)) + 10)) _ _ _ _ _ _ hw hB k56 k57 k59 hIy3 hny3 hmy3 hAS hAF hX hc hs hS (lv_sub hl [2, 3, 4, 5] rfl)
def wp_X13_frame_44 (post : Int32 → (Nat → Nat) → (Nat → Nat) → (Nat → Nat → Nat) → Dt → Prop)   (y0 : Nat) (y1 : Int32) (z0 : Int32) (z1 : Nat) (tS : Nat → Nat) (nS : Nat → Nat) (rS : Nat → Nat → Nat) (wS : Dt) (bS : Nat) (sS : Nat) : Prop := wp_X13_fails (fun r9 wS10 => (r9 = 0 → 2 ≤ bS ∧ (5 ≤ sS ∧ (∀ (q12 : Nat) (tS16 nS17 : Nat → Nat) (rS18 : Nat → Nat → Nat) (wS19 : Dt), NEW6 tS nS rS wS10 q12 tS16 nS17 rS18 wS19 → (∀ wS23 : Dt, wS23 = up2 wS19 q12 0 (wS19 (rS18 y0 1) 11) → (1 ≤ (bS - 2) ∧ (4 ≤ (sS - 5) ∧ (∃ k9 : Nat, wp_X13_frame_85 post   k9 y0 y1 q12 (rS18 (rS18 y0 1) 8) (0 : Int32) (wS23 (rS18 (rS18 y0 1) 8) 0) tS16 nS17 rS18 wS23 ((bS - 2) - 1) ((sS - 5) - 4)))))))) ∧ (¬ r9 = 0 → wp_X13_frame_51 post   tS nS rS wS10 bS sS)) tS nS rS wS z1 z0 2
set_option maxHeartbeats 4000000 in
set_option maxRecDepth 100000 in
theorem t_X13_frame_44 : ∀ {p : Program} {l : Launch} {e : Env} {s : State} {m : MethodId} {args : Array Value} {below : List Frame} {meth : Method} {c : Code} {D : va_G} {tc : Nat → ClassId} {h0 : Nat} {sa : Nat → Nat} {Am : Nat → Prop} {b0 s0 : Nat} {t0 : Nat → Nat} {post : Int32 → (Nat → Nat) → (Nat → Nat) → (Nat → Nat → Nat) → Dt → Prop}   (X : Cx p c s m meth cX13_frame 6 RX13 D tc) (hr : meth.sig.returnType = (Option.some FieldType.int)) (hT : ST h0 sa s s.heap) (hA0 : ∀ q, Am q → h0 ≤ q) (hAm9 : ∀ x, s.heap.size ≤ x → Am x) , ∀ (y0 : Nat) (y1 : Int32) (z0 : Int32) (z1 : Nat) (tS : Nat → Nat) (nS : Nat → Nat) (rS : Nat → Nat → Nat) (wS : Dt) (bS : Nat) (sS : Nat) (H : Heap) (locs : List Loc) (ls : Array Slot) (AS : Nat → Prop) (cells slots : Nat), wp_X13_frame_44 post   y0 y1 z0 z1 tS nS rS wS bS sS → SB D tc (sa 3) AS tS nS rS wS H → (tS y0 = 7) → (tS z1 = 7) → (∀ x, AS x → Am x) → (∀ x, H.size ≤ x → AS x) → Ext t0 tS → cells + bS ≤ b0 → slots + sS ≤ s0 → va_S Am s.heap H locs → lv_has ls 6 [(0, .ref y0), (1, .int y1)] → W p l e (rm_X13_frame b0 s0) s m args below meth c H locs cells slots (MQ below (QB (fun u : Int32 × (Nat → Nat) × (Nat → Nat) × (Nat → Nat → Nat) × Dt => post u.1 u.2.1 u.2.2.1 u.2.2.2.1 u.2.2.2.2) (fun (u : Int32 × (Nat → Nat) × (Nat → Nat) × (Nat → Nat → Nat) × Dt) (H1 : Heap) => SB D tc (sa 3) Am u.2.1 u.2.2.1 u.2.2.2.1 u.2.2.2.2 H1 ∧ Ext t0 u.2.1) (fun u : Int32 × (Nat → Nat) × (Nat → Nat) × (Nat → Nat → Nat) × Dt => some (.int u.1)) Am) args s (rm_X13_frame b0 s0).cells (rm_X13_frame b0 s0).slots Am) (F0 m 44 ls [.int z0, .ref z1]) := by
  intro p l e s m args below meth c D tc h0 sa Am b0 s0 t0 post   X hr hT hA0 hAm9   y0 y1 z0 z1 tS nS rS wS bS sS H locs ls AS cells slots hw hB hky0 hkz1 hAS hAF hX hc hs hS hl
  have hx := X.1
  have hb := X.2.1
  have hown := X.2.2.2.1
  have hU := X.2.2.2.2.1.1
  unfold wp_X13_frame_44 at hw
  refine lv_iconst (v := 2) hx hb dX13_frame_44 (by decide) ?_
  refine g_after (st0 := [.int 2, .int z0, .ref z1]) (rest := []) (g_V X m_X13_57 (c_X13_fails l D tc h0 sa z1 z0 2 _ hB hkz1 (fun x h => hA0 x (hAS x h)) hw) (recv1 X.2.2.2.2.1 rfl (hB.at (k := 7) hkz1 rfl)) hT hS hA0 dX13_frame_45 hl.1 rfl rfl ⟨Nat.le_of_ble_eq_true rfl, Nat.le_of_ble_eq_true rfl⟩ (Nat.le_of_ble_eq_true rfl) ⟨show cells + 0 ≤ b0 by omega, show slots + 0 ≤ s0 by omega⟩) hS hAS (fun u => .int u.1 :: []) (fun _ => rfl) (fun u H locs hw hP9 hz9 hk9 hS => ?_)
  obtain ⟨r9, wS10⟩ := u
  try dsimp only at hw hP9
  have hB := hP9
  have hAF : ∀ x, H.size ≤ x → AS x := fun x h => hAF x (by omega)
  refine W.widen (k := cells) (n := slots) (Nat.le_refl _) (Nat.le_refl _) ?_
  refine lv_if_eq (tgt := 53) hx hb dX13_frame_48 (by decide) (fun c11 => ?_) (fun c11 => ?_)
  · have hw := hw.1 c11
    obtain ⟨o13, hw⟩ := hw
    obtain ⟨o14, hw⟩ := hw
    refine x_new (A := Am) X nw_X13_268 (fs := [.int 0, .null]) (fun j hj => by rcases (show j = 0 ∨ j = 1 by omega) with e | e <;> subst e <;> rfl) hS hAm9 ⟨show cells + 1 ≤ b0 by omega, show slots + 2 ≤ s0 by omega⟩ dX13_frame_53 (fun q12 H hq9 hat9 hAq hz9 hqz o1 hS => ?_)
    refine lv_dup hx hb dX13_frame_56 rfl ?_
    refine g_after (st0 := .ref q12 :: [.ref q12]) (rest := [.ref q12]) (g_IN X m_X13_270 (c_in6 l D tc h0 sa _ q12 hat9 (hA0 _ hAq) (fun x h => hA0 x (hAm9 x (Nat.le_trans hS.1 h)))) hT hS hA0 dX13_frame_57 hl.1 rfl rfl ⟨Nat.le_of_ble_eq_true rfl, Nat.le_of_ble_eq_true rfl⟩ (Nat.le_of_ble_eq_true rfl) ⟨show (cells + 1) + 1 ≤ b0 by omega, show (slots + 2) + 3 ≤ s0 by omega⟩) hS (fun x h => h.elim (fun e => e ▸ hAq) (fun h => hAm9 x (Nat.le_trans hS.1 h))) (fun u => [.ref q12]) (fun _ => rfl) (fun u H locs hu hP9 hz8 hk9 hS => ?_)
    have o2 := fun x hx => (hk9 x (by omega) (fun h => h.elim (fun e => by omega) (fun h => by omega))).trans (o1 x hx)
    obtain ⟨tS16, nS17, rS18, wS19, hB, z20, hX9, k15⟩ := hB.make6 (hAF q12 hq9) hAF hq9 o2 hP9 (by omega)
    have hAF : ∀ x, H.size ≤ x → AS x := fun x h => hAF x (by omega)
    have hw := hw q12 tS16 nS17 rS18 wS19 z20
    have hX := hX.trans hX9
    have k21 : tS16 y0 = 7 := hX9.to hky0
    refine W_bud (b := (bS - 2)) (s1 := (sS - 5)) (B := b0) (S := s0) (show (cells + 1 + 1) + (bS - 2) ≤ b0 by omega) (show (slots + 2 + 3) + (sS - 5) ≤ s0 by omega) (fun cells slots hc hs => ?_)
    refine lv_astore_n (lv' := [(2, .ref q12), (0, .ref y0), (1, .int y1)]) hx hb dX13_frame_60 rfl hl (by decide) rfl (fun ls hl => ?_)
    refine lv_aload_n hx hb dX13_frame_61 rfl (lv_at hl 0 rfl) ?_
    refine lv_aload_n hx hb dX13_frame_62 rfl (lv_at hl 1 rfl) ?_
    refine g_get X dX13_frame_63 f_X13_34 (hB.one (k := 7) k21 rfl) 0 (v := .ref (rS18 y0 1)) rfl rfl ?_
    have k22 : tS16 (rS18 y0 1) = 4 := (hB.wtk k21).1
    refine g_getN X dX13_frame_66 f_X13_213 (hB.one (k := 4) k22 rfl) 0 (v := .int (wS19 (rS18 y0 1) 11)) rfl rfl ?_
    refine g_putiN X dX13_frame_69 f_X13_271 (hB.oneB (k := 6) hAS k15 rfl) hS (x := (wS19 (rS18 y0 1) 11)) rfl rfl rfl (fun H locs hb9 oq hS => ?_)
    have hB := hB.putB k15 rfl hb9 oq
    have hAF : ∀ x, H.size ≤ x → AS x := fun x h => hAF x (Nat.le_trans (sz_of oq (hB.lt (by rw [k15]; decide)).1) h)
    obtain ⟨wS23, ewS23⟩ : ∃ z : Dt, z = up2 wS19 q12 0 (wS19 (rS18 y0 1) 11) := ⟨_, rfl⟩
    rw [← ewS23] at hB
    have hw := hw wS23 ewS23
    refine lv_aload_n hx hb dX13_frame_72 rfl (lv_at hl 1 rfl) ?_
    refine g_get X dX13_frame_73 f_X13_34 (hB.one (k := 7) k21 rfl) 0 (v := .ref (rS18 y0 1)) rfl rfl ?_
    have k24 : tS16 (rS18 y0 1) = 4 := (hB.wtk k21).1
    refine g_getN X dX13_frame_76 f_X13_139 (hB.one (k := 4) k24 rfl) 0 (v := .ref (rS18 (rS18 y0 1) 8)) rfl rfl ?_
    have k25 : tS16 (rS18 (rS18 y0 1) 8) = 8 := (hB.wtk k24).2.2.2.2.1
    obtain ⟨fs9, hat9⟩ := hB.lat (isL_of k25)
    obtain ⟨o26, hw⟩ := hw
    obtain ⟨o27, hw⟩ := hw
    refine g_after5 (st0 := [.ref (rS18 (rS18 y0 1) 8)]) (rest := []) (g_F X mf_X13_272 (c_itr l D tc h0 sa _ (rS18 (rS18 y0 1) 8) hB (isL_of k25) (fun x h => hA0 x (hAS x (hAF x h)))) rfl hat9 hT hS hA0 dX13_frame_79 hl.1 rfl rfl ⟨Nat.le_of_ble_eq_true rfl, Nat.le_of_ble_eq_true rfl⟩ (Nat.le_of_ble_eq_true rfl) ⟨show cells + 1 ≤ b0 by omega, show slots + 4 ≤ s0 by omega⟩) hS (fun x h => hAS x (hAF x h)) (fun qi28 => .ref qi28 :: []) (fun _ => rfl) (fun qi28 H9 locs hu hP9 hz9 hk9 hS => ?_)
    obtain ⟨hq9, hqz, hIi28⟩ := hP9
    have o1 := fun x hx => hk9 x hx (fun h => by omega)
    have hmi28 : Am qi28 := hAS _ (hAF _ hq9)
    have hB := hB.off hq9 o1
    have hni28 : ¬ (fun x => AS x ∧ x ≠ qi28) qi28 := fun h => h.2 rfl
    have hAF : ∀ x, H9.size ≤ x → (fun x => AS x ∧ x ≠ qi28) x := fun x h => ⟨hAF x (by omega), fun e => by omega⟩
    have hAS : ∀ x, (fun x => AS x ∧ x ≠ qi28) x → Am x := fun x h => hAS x h.1
    obtain ⟨AS29, eAS29⟩ : ∃ z : Nat → Prop, z = (fun x => AS x ∧ x ≠ qi28) := ⟨_, rfl⟩
    rw [← eAS29] at hB hAF hAS hni28 
    refine W_bud (b := ((bS - 2) - 1)) (s1 := ((sS - 5) - 4)) (B := b0) (S := s0) (show (cells + 1) + ((bS - 2) - 1) ≤ b0 by omega) (show (slots + 4) + ((sS - 5) - 4) ≤ s0 by omega) (fun cells slots hc hs => ?_)
    refine lv_astore_n (lv' := [(3, .ref qi28), (2, .ref q12), (0, .ref y0), (1, .int y1)]) hx hb dX13_frame_84 rfl hl (by decide) rfl (fun ls hl => ?_)
    obtain ⟨k9, hw⟩ := hw
    exact t_X13_frame_85 X hr hT hA0 hAm9  k9 qi28 y0 y1 q12 (rS18 (rS18 y0 1) 8) (0 : Int32) (wS23 (rS18 (rS18 y0 1) 8) 0) tS16 nS17 rS18 wS23 ((bS - 2) - 1) ((sS - 5) - 4) _ _ _ _ _ _ hw hB k21 k15 k25 hIi28 hni28 hmi28 hAS hAF hX hc hs hS (lv_sub hl [2, 3, 1, 0] rfl)
  · have hw := hw.2 c11
    exact t_X13_frame_51 X hr hT hA0 hAm9  tS nS rS wS10 bS sS _ _ _ _ _ _ hw hB  hAS hAF hX hc hs hS (lv_sub hl [] rfl)
def wp_X13_frame_17 (post : Int32 → (Nat → Nat) → (Nat → Nat) → (Nat → Nat → Nat) → Dt → Prop)   (y0 : Nat) (y1 : Int32) (z0 : Int32) (z1 : Nat) (tS : Nat → Nat) (nS : Nat → Nat) (rS : Nat → Nat → Nat) (wS : Dt) (bS : Nat) (sS : Nat) : Prop := wp_X13_fails (fun r4 wS5 => (¬ r4 = 0 → wp_X13_frame_51 post   tS nS rS wS5 bS sS) ∧ (r4 = 0 → (¬ (nI (nS (rS y0 4))) = 6 → wp_X13_frame_44 post   y0 y1 0 y0 tS nS rS wS5 bS sS) ∧ ((nI (nS (rS y0 4))) = 6 → wp_X13_frame_44 post   y0 y1 1 y0 tS nS rS wS5 bS sS))) tS nS rS wS z1 z0 1
set_option maxHeartbeats 4000000 in
set_option maxRecDepth 100000 in
theorem t_X13_frame_17 : ∀ {p : Program} {l : Launch} {e : Env} {s : State} {m : MethodId} {args : Array Value} {below : List Frame} {meth : Method} {c : Code} {D : va_G} {tc : Nat → ClassId} {h0 : Nat} {sa : Nat → Nat} {Am : Nat → Prop} {b0 s0 : Nat} {t0 : Nat → Nat} {post : Int32 → (Nat → Nat) → (Nat → Nat) → (Nat → Nat → Nat) → Dt → Prop}   (X : Cx p c s m meth cX13_frame 6 RX13 D tc) (hr : meth.sig.returnType = (Option.some FieldType.int)) (hT : ST h0 sa s s.heap) (hA0 : ∀ q, Am q → h0 ≤ q) (hAm9 : ∀ x, s.heap.size ≤ x → Am x) , ∀ (y0 : Nat) (y1 : Int32) (z0 : Int32) (z1 : Nat) (tS : Nat → Nat) (nS : Nat → Nat) (rS : Nat → Nat → Nat) (wS : Dt) (bS : Nat) (sS : Nat) (H : Heap) (locs : List Loc) (ls : Array Slot) (AS : Nat → Prop) (cells slots : Nat), wp_X13_frame_17 post   y0 y1 z0 z1 tS nS rS wS bS sS → SB D tc (sa 3) AS tS nS rS wS H → (tS y0 = 7) → (tS z1 = 7) → (∀ x, AS x → Am x) → (∀ x, H.size ≤ x → AS x) → Ext t0 tS → cells + bS ≤ b0 → slots + sS ≤ s0 → va_S Am s.heap H locs → lv_has ls 6 [(0, .ref y0), (1, .int y1)] → W p l e (rm_X13_frame b0 s0) s m args below meth c H locs cells slots (MQ below (QB (fun u : Int32 × (Nat → Nat) × (Nat → Nat) × (Nat → Nat → Nat) × Dt => post u.1 u.2.1 u.2.2.1 u.2.2.2.1 u.2.2.2.2) (fun (u : Int32 × (Nat → Nat) × (Nat → Nat) × (Nat → Nat → Nat) × Dt) (H1 : Heap) => SB D tc (sa 3) Am u.2.1 u.2.2.1 u.2.2.2.1 u.2.2.2.2 H1 ∧ Ext t0 u.2.1) (fun u : Int32 × (Nat → Nat) × (Nat → Nat) × (Nat → Nat → Nat) × Dt => some (.int u.1)) Am) args s (rm_X13_frame b0 s0).cells (rm_X13_frame b0 s0).slots Am) (F0 m 17 ls [.int z0, .ref z1]) := by
  intro p l e s m args below meth c D tc h0 sa Am b0 s0 t0 post   X hr hT hA0 hAm9   y0 y1 z0 z1 tS nS rS wS bS sS H locs ls AS cells slots hw hB hky0 hkz1 hAS hAF hX hc hs hS hl
  have hx := X.1
  have hb := X.2.1
  have hown := X.2.2.2.1
  have hU := X.2.2.2.2.1.1
  unfold wp_X13_frame_17 at hw
  refine lv_iconst (v := 1) hx hb dX13_frame_17 (by decide) ?_
  refine g_after (st0 := [.int 1, .int z0, .ref z1]) (rest := []) (g_V X m_X13_57 (c_X13_fails l D tc h0 sa z1 z0 1 _ hB hkz1 (fun x h => hA0 x (hAS x h)) hw) (recv1 X.2.2.2.2.1 rfl (hB.at (k := 7) hkz1 rfl)) hT hS hA0 dX13_frame_18 hl.1 rfl rfl ⟨Nat.le_of_ble_eq_true rfl, Nat.le_of_ble_eq_true rfl⟩ (Nat.le_of_ble_eq_true rfl) ⟨show cells + 0 ≤ b0 by omega, show slots + 0 ≤ s0 by omega⟩) hS hAS (fun u => .int u.1 :: []) (fun _ => rfl) (fun u H locs hw hP9 hz9 hk9 hS => ?_)
  obtain ⟨r4, wS5⟩ := u
  try dsimp only at hw hP9
  have hB := hP9
  have hAF : ∀ x, H.size ≤ x → AS x := fun x h => hAF x (by omega)
  refine W.widen (k := cells) (n := slots) (Nat.le_refl _) (Nat.le_refl _) ?_
  refine lv_if_ne (tgt := 51) hx hb dX13_frame_21 (by decide) (fun c6 => ?_) (fun c6 => ?_)
  · have hw := hw.1 c6
    exact t_X13_frame_51 X hr hT hA0 hAm9  tS nS rS wS5 bS sS _ _ _ _ _ _ hw hB  hAS hAF hX hc hs hS (lv_sub hl [] rfl)
  · have hw := hw.2 c6
    refine lv_aload_n hx hb dX13_frame_24 rfl (lv_at hl 0 rfl) ?_
    refine lv_aload_n hx hb dX13_frame_25 rfl (lv_at hl 0 rfl) ?_
    refine g_get X dX13_frame_26 f_X13_48 (hB.one (k := 7) hky0 rfl) 0 (v := .ref (rS y0 4)) rfl rfl ?_
    have k7 : tS (rS y0 4) = 12 := (hB.wtk hky0).2.2.2
    obtain ⟨fs9, hat9⟩ := hB.lat (isL_of k7)
    refine g_after5 (st0 := [.ref (rS y0 4), .ref y0]) (rest := [.ref y0]) (g_F X mf_X13_7 (c_size l D tc h0 sa _ (rS y0 4) hB (isL_of k7)) rfl hat9 hT hS hA0 dX13_frame_29 hl.1 rfl rfl ⟨Nat.le_of_ble_eq_true rfl, Nat.le_of_ble_eq_true rfl⟩ (Nat.le_of_ble_eq_true rfl) ⟨show cells + 0 ≤ b0 by omega, show slots + 0 ≤ s0 by omega⟩) hS (fun _ h => h.elim) (fun u => .int (nI (nS (rS y0 4))) :: [.ref y0]) (fun _ => rfl) (fun u H9 locs hu hP9 hz9 hk9 hS => ?_)
    have e9 : H9 = _ := hP9
    rw [e9] at hS ⊢
    refine W.widen (k := cells) (n := slots) (Nat.le_refl _) (Nat.le_refl _) ?_
    refine lv_bipush (v := 6) hx hb dX13_frame_34 (by decide) ?_
    refine lv_icmp_ne (tgt := 43) hx hb dX13_frame_36 (by decide) (fun c8 => ?_) (fun c8 => ?_)
    · have hw := hw.1 c8
      refine lv_iconst (v := 0) hx hb dX13_frame_43 (by decide) ?_
      exact t_X13_frame_44 X hr hT hA0 hAm9  y0 y1 0 y0 tS nS rS wS5 bS sS _ _ _ _ _ _ hw hB hky0 hky0 hAS hAF hX hc hs hS (lv_sub hl [0, 1] rfl)
    · have hw := hw.2 c8
      refine lv_iconst (v := 1) hx hb dX13_frame_39 (by decide) ?_
      refine lv_goto (tgt := 44) hx hb dX13_frame_40 (by decide) ?_
      exact t_X13_frame_44 X hr hT hA0 hAm9  y0 y1 1 y0 tS nS rS wS5 bS sS _ _ _ _ _ _ hw hB hky0 hky0 hAS hAF hX hc hs hS (lv_sub hl [0, 1] rfl)
def wp_X13_frame (post : Int32 → (Nat → Nat) → (Nat → Nat) → (Nat → Nat → Nat) → Dt → Prop)  (tS : Nat → Nat) (nS : Nat → Nat) (rS : Nat → Nat → Nat) (wS : Dt) (bS : Nat) (sS : Nat) (x0 : Nat) (x1 : Int32) : Prop := wp_X13_begins (fun wS1 => wp_X13_isPlace (fun r2 => (¬ r2 = 0 → wp_X13_frame_17 post   x0 x1 0 x0 tS nS rS wS1 bS sS) ∧ (r2 = 0 → wp_X13_frame_17 post   x0 x1 1 x0 tS nS rS wS1 bS sS)) tS nS rS wS1 x1) tS nS rS wS x0
set_option maxHeartbeats 4000000 in
set_option maxRecDepth 100000 in
theorem c_X13_frame (l : Launch) (D : va_G) (tc : Nat → ClassId) (h0 : Nat) (sa : Nat → Nat) (x0 : Nat) (x1 : Int32) (b0 s0 : Nat) {Am : Nat → Prop} (H0 : Heap) {tS nS : Nat → Nat} {rS : Nat → Nat → Nat} {wS : Dt} (hB : SB D tc (sa 3) Am tS nS rS wS H0) (hkx0 : tS x0 = 7) (hA0 : ∀ q, Am q → h0 ≤ q) (hAF : ∀ x, H0.size ≤ x → Am x) {post : Int32 → (Nat → Nat) → (Nat → Nat) → (Nat → Nat → Nat) → Dt → Prop} (hw : wp_X13_frame post  tS nS rS wS b0 s0 x0 x1) : MB l yX13_frame cX13_frame 6 (Option.some FieldType.int) (rm_X13_frame b0 s0) Am [.ref x0, .int x1] D tc h0 sa H0 (fun u : Int32 × (Nat → Nat) × (Nat → Nat) × (Nat → Nat → Nat) × Dt => post u.1 u.2.1 u.2.2.1 u.2.2.2.1 u.2.2.2.2) (fun (u : Int32 × (Nat → Nat) × (Nat → Nat) × (Nat → Nat → Nat) × Dt) (H1 : Heap) => SB D tc (sa 3) Am u.2.1 u.2.2.1 u.2.2.2.1 u.2.2.2.2 H1 ∧ Ext tS u.2.1) (fun u : Int32 × (Nat → Nat) × (Nat → Nat) × (Nat → Nat → Nat) × Dt => some (.int u.1)) := by
  refine MB.of RX13 [(0, .ref x0), (1, .int x1)] (by decide +kernel) rfl (Nat.le_of_ble_eq_true rfl) rfl ?_
  intro p e s m below meth c ls X hr hin hT hH hS hl
  subst hH
  have hx := X.1
  have hb := X.2.1
  have hown := X.2.2.2.1
  have hU := X.2.2.2.2.1.1
  unfold wp_X13_frame at hw
  obtain ⟨A, eA⟩ : ∃ z, z = Am := ⟨_, rfl⟩
  have hB : SB D tc (sa 3) A tS nS rS wS s.heap := by rw [eA]; exact hB
  have hAm9 := hAF
  have hAF : ∀ x, s.heap.size ≤ x → A x := by rw [eA]; exact hAF
  have hAS : ∀ x, A x → Am x := by rw [eA]; exact fun _ h => h
  have hX : Ext tS tS := Ext.rf
  obtain ⟨bS, ebS⟩ : ∃ z, z = b0 := ⟨_, rfl⟩
  obtain ⟨sS, esS⟩ : ∃ z, z = s0 := ⟨_, rfl⟩
  rw [← ebS, ← esS] at hw
  refine W_bud (b := bS) (s1 := sS) (B := b0) (S := s0) (show 0 + bS ≤ b0 by omega) (show 0 + sS ≤ s0 by omega) (fun cells slots hc hs => ?_)
  refine lv_aload_n hx hb dX13_frame_0 rfl (lv_at hl 0 rfl) ?_
  refine g_after (st0 := [.ref x0]) (rest := []) (g_V X m_X13_61 (c_X13_begins l D tc h0 sa x0 _ hB hkx0 (fun x h => hA0 x (hAS x h)) hw) (recv1 X.2.2.2.2.1 rfl (hB.at (k := 7) hkx0 rfl)) hT hS hA0 dX13_frame_1 hl.1 rfl rfl ⟨Nat.le_of_ble_eq_true rfl, Nat.le_of_ble_eq_true rfl⟩ (Nat.le_of_ble_eq_true rfl) ⟨show cells + 0 ≤ b0 by omega, show slots + 0 ≤ s0 by omega⟩) hS hAS (fun u => []) (fun _ => rfl) (fun u H locs hw hP9 hz9 hk9 hS => ?_)
  obtain ⟨wS1, rfl⟩ : ∃ z, z = u := ⟨_, rfl⟩
  try dsimp only at hw hP9
  have hB := hP9
  have hAF : ∀ x, H.size ≤ x → A x := fun x h => hAF x (by omega)
  refine W.widen (k := cells) (n := slots) (Nat.le_refl _) (Nat.le_refl _) ?_
  refine lv_aload_n hx hb dX13_frame_4 rfl (lv_at hl 0 rfl) ?_
  refine lv_iload_n hx hb dX13_frame_5 rfl (lv_at hl 1 rfl) ?_
  refine g_after (st0 := [.int x1, .ref x0]) (rest := [.ref x0]) (g_S X m_X13_148 (c_X13_isPlace l D tc h0 sa x1 _ hB  hw) hT hS hA0 dX13_frame_6 hl.1 rfl rfl ⟨Nat.le_of_ble_eq_true rfl, Nat.le_of_ble_eq_true rfl⟩ (Nat.le_of_ble_eq_true rfl) ⟨show cells + 0 ≤ b0 by omega, show slots + 0 ≤ s0 by omega⟩) hS (fun _ h => h.elim) (fun u => .int u :: [.ref x0]) (fun _ => rfl) (fun u H9 locs hw hP9 hz9 hk9 hS => ?_)
  obtain ⟨r2, rfl⟩ : ∃ z, z = u := ⟨_, rfl⟩
  try dsimp only at hw hP9
  have e9 : H9 = _ := hP9
  rw [e9] at hS ⊢
  refine W.widen (k := cells) (n := slots) (Nat.le_refl _) (Nat.le_refl _) ?_
  refine lv_if_ne (tgt := 16) hx hb dX13_frame_9 (by decide) (fun c3 => ?_) (fun c3 => ?_)
  · have hw := hw.1 c3
    refine lv_iconst (v := 0) hx hb dX13_frame_16 (by decide) ?_
    exact t_X13_frame_17 X hr hT hA0 hAm9  x0 x1 0 x0 tS nS rS wS1 bS sS _ _ _ _ _ _ hw hB hkx0 hkx0 hAS hAF hX hc hs hS (lv_sub hl [0, 1] rfl)
  · have hw := hw.2 c3
    refine lv_iconst (v := 1) hx hb dX13_frame_12 (by decide) ?_
    refine lv_goto (tgt := 17) hx hb dX13_frame_13 (by decide) ?_
    exact t_X13_frame_17 X hr hT hA0 hAm9  x0 x1 1 x0 tS nS rS wS1 bS sS _ _ _ _ _ _ hw hB hkx0 hkx0 hAS hAF hX hc hs hS (lv_sub hl [0, 1] rfl)
abbrev rm_X13_placeIn (b0 s0 : Nat) : Room := { frames := 4, cells := b0, slots := s0, locals := 85 }
def wp_X13_placeIn_72 (post : Int32 → (Nat → Nat) → (Nat → Nat) → (Nat → Nat → Nat) → Dt → Prop)   (tS : Nat → Nat) (nS : Nat → Nat) (rS : Nat → Nat → Nat) (wS : Dt) (bS : Nat) (sS : Nat) : Prop := post (-1) tS nS rS wS
set_option maxHeartbeats 4000000 in
set_option maxRecDepth 100000 in
theorem t_X13_placeIn_72 : ∀ {p : Program} {l : Launch} {e : Env} {s : State} {m : MethodId} {args : Array Value} {below : List Frame} {meth : Method} {c : Code} {D : va_G} {tc : Nat → ClassId} {h0 : Nat} {sa : Nat → Nat} {Am : Nat → Prop} {b0 s0 : Nat} {t0 : Nat → Nat} {post : Int32 → (Nat → Nat) → (Nat → Nat) → (Nat → Nat → Nat) → Dt → Prop}   (X : Cx p c s m meth cX13_placeIn 3 RX13 D tc) (hr : meth.sig.returnType = (Option.some FieldType.int)) (hT : ST h0 sa s s.heap) (hA0 : ∀ q, Am q → h0 ≤ q) (hAm9 : ∀ x, s.heap.size ≤ x → Am x) , ∀ (tS : Nat → Nat) (nS : Nat → Nat) (rS : Nat → Nat → Nat) (wS : Dt) (bS : Nat) (sS : Nat) (H : Heap) (locs : List Loc) (ls : Array Slot) (AS : Nat → Prop) (cells slots : Nat), wp_X13_placeIn_72 post   tS nS rS wS bS sS → SB D tc (sa 3) AS tS nS rS wS H → (∀ x, AS x → Am x) → (∀ x, H.size ≤ x → AS x) → Ext t0 tS → cells + bS ≤ b0 → slots + sS ≤ s0 → va_S Am s.heap H locs → lv_has ls 3 [] → W p l e (rm_X13_placeIn b0 s0) s m args below meth c H locs cells slots (MQ below (QB (fun u : Int32 × (Nat → Nat) × (Nat → Nat) × (Nat → Nat → Nat) × Dt => post u.1 u.2.1 u.2.2.1 u.2.2.2.1 u.2.2.2.2) (fun (u : Int32 × (Nat → Nat) × (Nat → Nat) × (Nat → Nat → Nat) × Dt) (H1 : Heap) => SB D tc (sa 3) Am u.2.1 u.2.2.1 u.2.2.2.1 u.2.2.2.2 H1 ∧ Ext t0 u.2.1) (fun u : Int32 × (Nat → Nat) × (Nat → Nat) × (Nat → Nat → Nat) × Dt => some (.int u.1)) Am) args s (rm_X13_placeIn b0 s0).cells (rm_X13_placeIn b0 s0).slots Am) (F0 m 72 ls []) := by
  intro p l e s m args below meth c D tc h0 sa Am b0 s0 t0 post   X hr hT hA0 hAm9   tS nS rS wS bS sS H locs ls AS cells slots hw hB  hAS hAF hX hc hs hS hl
  have hx := X.1
  have hb := X.2.1
  have hown := X.2.2.2.1
  have hU := X.2.2.2.2.1.1
  unfold wp_X13_placeIn_72 at hw
  refine lv_iconst (v := (-1)) hx hb dX13_placeIn_72 (by decide) ?_
  exact e_i X hr dX13_placeIn_73 hS ((-1), tS, nS, rS, wS) rfl hw ⟨hB.regs hAS, hX⟩ ⟨show cells ≤ b0 by omega, show slots ≤ s0 by omega⟩
def wp_X13_placeIn_65 (post : Int32 → (Nat → Nat) → (Nat → Nat) → (Nat → Nat → Nat) → Dt → Prop)   (y0 : Nat) (y1 : Int32) (y2 : Int32) (z0 : Int32) (z1 : Nat) (tS : Nat → Nat) (nS : Nat → Nat) (rS : Nat → Nat → Nat) (wS : Dt) (bS : Nat) (sS : Nat) : Prop := wp_X13_fails (fun r26 wS27 => (r26 = 0 → vp_in y1 (nS (rS y0 4)) ∧ (∃ b32 s33 : Nat, b32 ≤ bS ∧ s33 ≤ sS ∧ (wp_X9_with (fun r36 tS37 nS38 rS39 wS40 => ∃ x43 : Nat, r36 = some x43 ∧ (post (wS40 x43 1) tS37 nS38 rS39 wS40)) tS nS rS wS27 b32 s33 (rS (rS y0 4) y1.toNatClampNeg) y2))) ∧ (¬ r26 = 0 → wp_X13_placeIn_72 post   tS nS rS wS27 bS sS)) tS nS rS wS z1 z0 3
set_option maxHeartbeats 4000000 in
set_option maxRecDepth 100000 in
theorem t_X13_placeIn_65 : ∀ {p : Program} {l : Launch} {e : Env} {s : State} {m : MethodId} {args : Array Value} {below : List Frame} {meth : Method} {c : Code} {D : va_G} {tc : Nat → ClassId} {h0 : Nat} {sa : Nat → Nat} {Am : Nat → Prop} {b0 s0 : Nat} {t0 : Nat → Nat} {post : Int32 → (Nat → Nat) → (Nat → Nat) → (Nat → Nat → Nat) → Dt → Prop}   (X : Cx p c s m meth cX13_placeIn 3 RX13 D tc) (hr : meth.sig.returnType = (Option.some FieldType.int)) (hT : ST h0 sa s s.heap) (hA0 : ∀ q, Am q → h0 ≤ q) (hAm9 : ∀ x, s.heap.size ≤ x → Am x) , ∀ (y0 : Nat) (y1 : Int32) (y2 : Int32) (z0 : Int32) (z1 : Nat) (tS : Nat → Nat) (nS : Nat → Nat) (rS : Nat → Nat → Nat) (wS : Dt) (bS : Nat) (sS : Nat) (H : Heap) (locs : List Loc) (ls : Array Slot) (AS : Nat → Prop) (cells slots : Nat), wp_X13_placeIn_65 post   y0 y1 y2 z0 z1 tS nS rS wS bS sS → SB D tc (sa 3) AS tS nS rS wS H → (tS y0 = 7) → (tS z1 = 7) → (∀ x, AS x → Am x) → (∀ x, H.size ≤ x → AS x) → Ext t0 tS → cells + bS ≤ b0 → slots + sS ≤ s0 → va_S Am s.heap H locs → lv_has ls 3 [(0, .ref y0), (1, .int y1), (2, .int y2)] → W p l e (rm_X13_placeIn b0 s0) s m args below meth c H locs cells slots (MQ below (QB (fun u : Int32 × (Nat → Nat) × (Nat → Nat) × (Nat → Nat → Nat) × Dt => post u.1 u.2.1 u.2.2.1 u.2.2.2.1 u.2.2.2.2) (fun (u : Int32 × (Nat → Nat) × (Nat → Nat) × (Nat → Nat → Nat) × Dt) (H1 : Heap) => SB D tc (sa 3) Am u.2.1 u.2.2.1 u.2.2.2.1 u.2.2.2.2 H1 ∧ Ext t0 u.2.1) (fun u : Int32 × (Nat → Nat) × (Nat → Nat) × (Nat → Nat → Nat) × Dt => some (.int u.1)) Am) args s (rm_X13_placeIn b0 s0).cells (rm_X13_placeIn b0 s0).slots Am) (F0 m 65 ls [.int z0, .ref z1]) := by
  intro p l e s m args below meth c D tc h0 sa Am b0 s0 t0 post   X hr hT hA0 hAm9   y0 y1 y2 z0 z1 tS nS rS wS bS sS H locs ls AS cells slots hw hB hky0 hkz1 hAS hAF hX hc hs hS hl
  have hx := X.1
  have hb := X.2.1
  have hown := X.2.2.2.1
  have hU := X.2.2.2.2.1.1
  unfold wp_X13_placeIn_65 at hw
  refine lv_iconst (v := 3) hx hb dX13_placeIn_65 (by decide) ?_
  refine g_after (st0 := [.int 3, .int z0, .ref z1]) (rest := []) (g_V X m_X13_57 (c_X13_fails l D tc h0 sa z1 z0 3 _ hB hkz1 (fun x h => hA0 x (hAS x h)) hw) (recv1 X.2.2.2.2.1 rfl (hB.at (k := 7) hkz1 rfl)) hT hS hA0 dX13_placeIn_66 hl.1 rfl rfl ⟨Nat.le_of_ble_eq_true rfl, Nat.le_of_ble_eq_true rfl⟩ (Nat.le_of_ble_eq_true rfl) ⟨show cells + 0 ≤ b0 by omega, show slots + 0 ≤ s0 by omega⟩) hS hAS (fun u => .int u.1 :: []) (fun _ => rfl) (fun u H locs hw hP9 hz9 hk9 hS => ?_)
  obtain ⟨r26, wS27⟩ := u
  try dsimp only at hw hP9
  have hB := hP9
  have hAF : ∀ x, H.size ≤ x → AS x := fun x h => hAF x (by omega)
  refine W.widen (k := cells) (n := slots) (Nat.le_refl _) (Nat.le_refl _) ?_
  refine lv_if_eq (tgt := 74) hx hb dX13_placeIn_69 (by decide) (fun c28 => ?_) (fun c28 => ?_)
  · have hw := hw.1 c28
    refine lv_aload_n hx hb dX13_placeIn_74 rfl (lv_at hl 0 rfl) ?_
    refine g_get X dX13_placeIn_75 f_X13_48 (hB.one (k := 7) hky0 rfl) 0 (v := .ref (rS y0 4)) rfl rfl ?_
    have k29 : tS (rS y0 4) = 12 := (hB.wtk hky0).2.2.2
    refine lv_iload_n hx hb dX13_placeIn_78 rfl (lv_at hl 1 rfl) ?_
    obtain ⟨fs9, hat9⟩ := hB.lat (isL_of k29)
    obtain ⟨o30, hw⟩ := hw
    refine g_after5 (st0 := [.int y1, .ref (rS y0 4)]) (rest := []) (g_F X mf_X13_163 (c_get l D tc h0 sa _ (rS y0 4) hB (isL_of k29) o30) rfl hat9 hT hS hA0 dX13_placeIn_79 hl.1 rfl rfl ⟨Nat.le_of_ble_eq_true rfl, Nat.le_of_ble_eq_true rfl⟩ (Nat.le_of_ble_eq_true rfl) ⟨show cells + 0 ≤ b0 by omega, show slots + 0 ≤ s0 by omega⟩) hS (fun _ h => h.elim) (fun u => .ref (rS (rS y0 4) y1.toNatClampNeg) :: []) (fun _ => rfl) (fun u H9 locs hu hP9 hz9 hk9 hS => ?_)
    have e9 : H9 = _ := hP9
    rw [e9] at hS ⊢
    refine W.widen (k := cells) (n := slots) (Nat.le_refl _) (Nat.le_refl _) ?_
    have k31 : tS (rS (rS y0 4) y1.toNatClampNeg) = 6 := hB.elt k29 (lt10 o30)
    refine x_cast X w_1904 rfl (hB.at (k := 6) k31 rfl) dX13_placeIn_84 ?_
    refine lv_iload_n hx hb dX13_placeIn_87 rfl (lv_at hl 2 rfl) ?_
    obtain ⟨b32, s33, o34, o35, hw⟩ := hw
    refine g_after (st0 := [.int y2, .ref (rS (rS y0 4) y1.toNatClampNeg)]) (rest := []) (g_V X m_X13_301 (c_X9_with l D tc h0 sa (rS (rS y0 4) y1.toNatClampNeg) y2 b32 s33 _ hB k31 (fun x h => hA0 x (hAS x h)) hAF hw) (recv1 X.2.2.2.2.1 rfl (hB.at (k := 6) k31 rfl)) hT hS hA0 dX13_placeIn_88 hl.1 rfl rfl ⟨Nat.le_of_ble_eq_true rfl, Nat.le_of_ble_eq_true rfl⟩ (Nat.le_of_ble_eq_true rfl) ⟨show cells + b32 ≤ b0 by omega, show slots + s33 ≤ s0 by omega⟩) hS hAS (fun u => va_rf u.1 :: []) (fun _ => rfl) (fun u H locs hw hP9 hz9 hk9 hS => ?_)
    obtain ⟨r36, tS37, nS38, rS39, wS40⟩ := u
    try dsimp only at hw hP9
    obtain ⟨hB, hX9, hkr⟩ := hP9
    have hAF : ∀ x, H.size ≤ x → AS x := fun x h => hAF x (by omega)
    have hX := hX.trans hX9
    refine W_bud (b := (bS - b32)) (s1 := (sS - s33)) (B := b0) (S := s0) (show (cells + b32) + (bS - b32) ≤ b0 by omega) (show (slots + s33) + (sS - s33) ≤ s0 by omega) (fun cells slots hc hs => ?_)
    have k41 : tS37 y0 = 7 := hX9.to hky0
    have k42 := hkr
    obtain ⟨x43, ex43, hw⟩ := hw
    refine W.eq (g2 := F0 m 91 ls [.ref x43]) (by rw [ex43]; rfl) ?_
    refine g_getN X dX13_placeIn_91 f_X13_134 (hB.one (k := 3) (k42 x43 ex43) rfl) 0 (v := .int (wS40 x43 1)) rfl rfl ?_
    exact e_i X hr dX13_placeIn_94 hS ((wS40 x43 1), tS37, nS38, rS39, wS40) rfl hw ⟨hB.regs hAS, hX⟩ ⟨show cells ≤ b0 by omega, show slots ≤ s0 by omega⟩
  · have hw := hw.2 c28
    exact t_X13_placeIn_72 X hr hT hA0 hAm9  tS nS rS wS27 bS sS _ _ _ _ _ _ hw hB  hAS hAF hX hc hs hS (lv_sub hl [] rfl)
def wp_X13_placeIn_32 (post : Int32 → (Nat → Nat) → (Nat → Nat) → (Nat → Nat → Nat) → Dt → Prop)   (y0 : Nat) (y1 : Int32) (y2 : Int32) (z0 : Int32) (z1 : Nat) (tS : Nat → Nat) (nS : Nat → Nat) (rS : Nat → Nat → Nat) (wS : Dt) (bS : Nat) (sS : Nat) : Prop := wp_X13_fails (fun r7 wS8 => (¬ r7 = 0 → wp_X13_placeIn_72 post   tS nS rS wS8 bS sS) ∧ (r7 = 0 → vp_in y1 (nS (rS y0 4)) ∧ (∃ b13 s14 : Nat, b13 ≤ bS ∧ s14 ≤ sS ∧ (wp_X9_with (fun r17 tS18 nS19 rS20 wS21 => (¬ r17 = none → wp_X13_placeIn_65 post   y0 y1 y2 0 y0 tS18 nS19 rS20 wS21 (bS - b13) (sS - s14)) ∧ (r17 = none → wp_X13_placeIn_65 post   y0 y1 y2 1 y0 tS18 nS19 rS20 wS21 (bS - b13) (sS - s14))) tS nS rS wS8 b13 s14 (rS (rS y0 4) y1.toNatClampNeg) y2)))) tS nS rS wS z1 z0 2
set_option maxHeartbeats 4000000 in
set_option maxRecDepth 100000 in
theorem t_X13_placeIn_32 : ∀ {p : Program} {l : Launch} {e : Env} {s : State} {m : MethodId} {args : Array Value} {below : List Frame} {meth : Method} {c : Code} {D : va_G} {tc : Nat → ClassId} {h0 : Nat} {sa : Nat → Nat} {Am : Nat → Prop} {b0 s0 : Nat} {t0 : Nat → Nat} {post : Int32 → (Nat → Nat) → (Nat → Nat) → (Nat → Nat → Nat) → Dt → Prop}   (X : Cx p c s m meth cX13_placeIn 3 RX13 D tc) (hr : meth.sig.returnType = (Option.some FieldType.int)) (hT : ST h0 sa s s.heap) (hA0 : ∀ q, Am q → h0 ≤ q) (hAm9 : ∀ x, s.heap.size ≤ x → Am x) , ∀ (y0 : Nat) (y1 : Int32) (y2 : Int32) (z0 : Int32) (z1 : Nat) (tS : Nat → Nat) (nS : Nat → Nat) (rS : Nat → Nat → Nat) (wS : Dt) (bS : Nat) (sS : Nat) (H : Heap) (locs : List Loc) (ls : Array Slot) (AS : Nat → Prop) (cells slots : Nat), wp_X13_placeIn_32 post   y0 y1 y2 z0 z1 tS nS rS wS bS sS → SB D tc (sa 3) AS tS nS rS wS H → (tS y0 = 7) → (tS z1 = 7) → (∀ x, AS x → Am x) → (∀ x, H.size ≤ x → AS x) → Ext t0 tS → cells + bS ≤ b0 → slots + sS ≤ s0 → va_S Am s.heap H locs → lv_has ls 3 [(0, .ref y0), (1, .int y1), (2, .int y2)] → W p l e (rm_X13_placeIn b0 s0) s m args below meth c H locs cells slots (MQ below (QB (fun u : Int32 × (Nat → Nat) × (Nat → Nat) × (Nat → Nat → Nat) × Dt => post u.1 u.2.1 u.2.2.1 u.2.2.2.1 u.2.2.2.2) (fun (u : Int32 × (Nat → Nat) × (Nat → Nat) × (Nat → Nat → Nat) × Dt) (H1 : Heap) => SB D tc (sa 3) Am u.2.1 u.2.2.1 u.2.2.2.1 u.2.2.2.2 H1 ∧ Ext t0 u.2.1) (fun u : Int32 × (Nat → Nat) × (Nat → Nat) × (Nat → Nat → Nat) × Dt => some (.int u.1)) Am) args s (rm_X13_placeIn b0 s0).cells (rm_X13_placeIn b0 s0).slots Am) (F0 m 32 ls [.int z0, .ref z1]) := by
  intro p l e s m args below meth c D tc h0 sa Am b0 s0 t0 post   X hr hT hA0 hAm9   y0 y1 y2 z0 z1 tS nS rS wS bS sS H locs ls AS cells slots hw hB hky0 hkz1 hAS hAF hX hc hs hS hl
  have hx := X.1
  have hb := X.2.1
  have hown := X.2.2.2.1
  have hU := X.2.2.2.2.1.1
  unfold wp_X13_placeIn_32 at hw
  refine lv_iconst (v := 2) hx hb dX13_placeIn_32 (by decide) ?_
  refine g_after (st0 := [.int 2, .int z0, .ref z1]) (rest := []) (g_V X m_X13_57 (c_X13_fails l D tc h0 sa z1 z0 2 _ hB hkz1 (fun x h => hA0 x (hAS x h)) hw) (recv1 X.2.2.2.2.1 rfl (hB.at (k := 7) hkz1 rfl)) hT hS hA0 dX13_placeIn_33 hl.1 rfl rfl ⟨Nat.le_of_ble_eq_true rfl, Nat.le_of_ble_eq_true rfl⟩ (Nat.le_of_ble_eq_true rfl) ⟨show cells + 0 ≤ b0 by omega, show slots + 0 ≤ s0 by omega⟩) hS hAS (fun u => .int u.1 :: []) (fun _ => rfl) (fun u H locs hw hP9 hz9 hk9 hS => ?_)
  obtain ⟨r7, wS8⟩ := u
  try dsimp only at hw hP9
  have hB := hP9
  have hAF : ∀ x, H.size ≤ x → AS x := fun x h => hAF x (by omega)
  refine W.widen (k := cells) (n := slots) (Nat.le_refl _) (Nat.le_refl _) ?_
  refine lv_if_ne (tgt := 72) hx hb dX13_placeIn_36 (by decide) (fun c9 => ?_) (fun c9 => ?_)
  · have hw := hw.1 c9
    exact t_X13_placeIn_72 X hr hT hA0 hAm9  tS nS rS wS8 bS sS _ _ _ _ _ _ hw hB  hAS hAF hX hc hs hS (lv_sub hl [] rfl)
  · have hw := hw.2 c9
    refine lv_aload_n hx hb dX13_placeIn_39 rfl (lv_at hl 0 rfl) ?_
    refine lv_aload_n hx hb dX13_placeIn_40 rfl (lv_at hl 0 rfl) ?_
    refine g_get X dX13_placeIn_41 f_X13_48 (hB.one (k := 7) hky0 rfl) 0 (v := .ref (rS y0 4)) rfl rfl ?_
    have k10 : tS (rS y0 4) = 12 := (hB.wtk hky0).2.2.2
    refine lv_iload_n hx hb dX13_placeIn_44 rfl (lv_at hl 1 rfl) ?_
    obtain ⟨fs9, hat9⟩ := hB.lat (isL_of k10)
    obtain ⟨o11, hw⟩ := hw
    refine g_after5 (st0 := [.int y1, .ref (rS y0 4), .ref y0]) (rest := [.ref y0]) (g_F X mf_X13_163 (c_get l D tc h0 sa _ (rS y0 4) hB (isL_of k10) o11) rfl hat9 hT hS hA0 dX13_placeIn_45 hl.1 rfl rfl ⟨Nat.le_of_ble_eq_true rfl, Nat.le_of_ble_eq_true rfl⟩ (Nat.le_of_ble_eq_true rfl) ⟨show cells + 0 ≤ b0 by omega, show slots + 0 ≤ s0 by omega⟩) hS (fun _ h => h.elim) (fun u => .ref (rS (rS y0 4) y1.toNatClampNeg) :: [.ref y0]) (fun _ => rfl) (fun u H9 locs hu hP9 hz9 hk9 hS => ?_)
    have e9 : H9 = _ := hP9
    rw [e9] at hS ⊢
    refine W.widen (k := cells) (n := slots) (Nat.le_refl _) (Nat.le_refl _) ?_
    have k12 : tS (rS (rS y0 4) y1.toNatClampNeg) = 6 := hB.elt k10 (lt10 o11)
    refine x_cast X w_1904 rfl (hB.at (k := 6) k12 rfl) dX13_placeIn_50 ?_
    refine lv_iload_n hx hb dX13_placeIn_53 rfl (lv_at hl 2 rfl) ?_
    obtain ⟨b13, s14, o15, o16, hw⟩ := hw
    refine g_after (st0 := [.int y2, .ref (rS (rS y0 4) y1.toNatClampNeg), .ref y0]) (rest := [.ref y0]) (g_V X m_X13_301 (c_X9_with l D tc h0 sa (rS (rS y0 4) y1.toNatClampNeg) y2 b13 s14 _ hB k12 (fun x h => hA0 x (hAS x h)) hAF hw) (recv1 X.2.2.2.2.1 rfl (hB.at (k := 6) k12 rfl)) hT hS hA0 dX13_placeIn_54 hl.1 rfl rfl ⟨Nat.le_of_ble_eq_true rfl, Nat.le_of_ble_eq_true rfl⟩ (Nat.le_of_ble_eq_true rfl) ⟨show cells + b13 ≤ b0 by omega, show slots + s14 ≤ s0 by omega⟩) hS hAS (fun u => va_rf u.1 :: [.ref y0]) (fun _ => rfl) (fun u H locs hw hP9 hz9 hk9 hS => ?_)
    obtain ⟨r17, tS18, nS19, rS20, wS21⟩ := u
    try dsimp only at hw hP9
    obtain ⟨hB, hX9, hkr⟩ := hP9
    have hAF : ∀ x, H.size ≤ x → AS x := fun x h => hAF x (by omega)
    have hX := hX.trans hX9
    refine W_bud (b := (bS - b13)) (s1 := (sS - s14)) (B := b0) (S := s0) (show (cells + b13) + (bS - b13) ≤ b0 by omega) (show (slots + s14) + (sS - s14) ≤ s0 by omega) (fun cells slots hc hs => ?_)
    have k22 : tS18 y0 = 7 := hX9.to hky0
    have k23 : tS18 y0 = 7 := hX9.to hky0
    have k24 := hkr
    refine lv_ifnonnullO (tgt := 64) hx hb dX13_placeIn_57 (by decide) (fun c25 => ?_) (fun c25 => ?_)
    · have hw := hw.1 c25
      refine lv_iconst (v := 0) hx hb dX13_placeIn_64 (by decide) ?_
      exact t_X13_placeIn_65 X hr hT hA0 hAm9  y0 y1 y2 0 y0 tS18 nS19 rS20 wS21 (bS - b13) (sS - s14) _ _ _ _ _ _ hw hB k22 k23 hAS hAF hX hc hs hS (lv_sub hl [0, 1, 2] rfl)
    · have hw := hw.2 c25
      refine lv_iconst (v := 1) hx hb dX13_placeIn_60 (by decide) ?_
      refine lv_goto (tgt := 65) hx hb dX13_placeIn_61 (by decide) ?_
      exact t_X13_placeIn_65 X hr hT hA0 hAm9  y0 y1 y2 1 y0 tS18 nS19 rS20 wS21 (bS - b13) (sS - s14) _ _ _ _ _ _ hw hB k22 k23 hAS hAF hX hc hs hS (lv_sub hl [0, 1, 2] rfl)
def wp_X13_placeIn (post : Int32 → (Nat → Nat) → (Nat → Nat) → (Nat → Nat → Nat) → Dt → Prop)  (tS : Nat → Nat) (nS : Nat → Nat) (rS : Nat → Nat → Nat) (wS : Dt) (bS : Nat) (sS : Nat) (x0 : Nat) (x1 : Int32) (x2 : Int32) : Prop := wp_X13_begins (fun wS1 => wp_X13_noFrame (fun r2 wS3 => (¬ r2 = 0 → wp_X13_placeIn_72 post   tS nS rS wS3 bS sS) ∧ (r2 = 0 → wp_X13_in (fun r5 => (¬ r5 = 0 → wp_X13_placeIn_32 post   x0 x1 x2 0 x0 tS nS rS wS3 bS sS) ∧ (r5 = 0 → wp_X13_placeIn_32 post   x0 x1 x2 1 x0 tS nS rS wS3 bS sS)) tS nS rS wS3 x2.toInt64 65 90)) tS nS rS wS1 x0 x1) tS nS rS wS x0
set_option maxHeartbeats 4000000 in
set_option maxRecDepth 100000 in
theorem c_X13_placeIn (l : Launch) (D : va_G) (tc : Nat → ClassId) (h0 : Nat) (sa : Nat → Nat) (x0 : Nat) (x1 : Int32) (x2 : Int32) (b0 s0 : Nat) {Am : Nat → Prop} (H0 : Heap) {tS nS : Nat → Nat} {rS : Nat → Nat → Nat} {wS : Dt} (hB : SB D tc (sa 3) Am tS nS rS wS H0) (hkx0 : tS x0 = 7) (hA0 : ∀ q, Am q → h0 ≤ q) (hAF : ∀ x, H0.size ≤ x → Am x) {post : Int32 → (Nat → Nat) → (Nat → Nat) → (Nat → Nat → Nat) → Dt → Prop} (hw : wp_X13_placeIn post  tS nS rS wS b0 s0 x0 x1 x2) : MB l yX13_placeIn cX13_placeIn 3 (Option.some FieldType.int) (rm_X13_placeIn b0 s0) Am [.ref x0, .int x1, .int x2] D tc h0 sa H0 (fun u : Int32 × (Nat → Nat) × (Nat → Nat) × (Nat → Nat → Nat) × Dt => post u.1 u.2.1 u.2.2.1 u.2.2.2.1 u.2.2.2.2) (fun (u : Int32 × (Nat → Nat) × (Nat → Nat) × (Nat → Nat → Nat) × Dt) (H1 : Heap) => SB D tc (sa 3) Am u.2.1 u.2.2.1 u.2.2.2.1 u.2.2.2.2 H1 ∧ Ext tS u.2.1) (fun u : Int32 × (Nat → Nat) × (Nat → Nat) × (Nat → Nat → Nat) × Dt => some (.int u.1)) := by
  refine MB.of RX13 [(0, .ref x0), (1, .int x1), (2, .int x2)] (by decide +kernel) rfl (Nat.le_of_ble_eq_true rfl) rfl ?_
  intro p e s m below meth c ls X hr hin hT hH hS hl
  subst hH
  have hx := X.1
  have hb := X.2.1
  have hown := X.2.2.2.1
  have hU := X.2.2.2.2.1.1
  unfold wp_X13_placeIn at hw
  obtain ⟨A, eA⟩ : ∃ z, z = Am := ⟨_, rfl⟩
  have hB : SB D tc (sa 3) A tS nS rS wS s.heap := by rw [eA]; exact hB
  have hAm9 := hAF
  have hAF : ∀ x, s.heap.size ≤ x → A x := by rw [eA]; exact hAF
  have hAS : ∀ x, A x → Am x := by rw [eA]; exact fun _ h => h
  have hX : Ext tS tS := Ext.rf
  obtain ⟨bS, ebS⟩ : ∃ z, z = b0 := ⟨_, rfl⟩
  obtain ⟨sS, esS⟩ : ∃ z, z = s0 := ⟨_, rfl⟩
  rw [← ebS, ← esS] at hw
  refine W_bud (b := bS) (s1 := sS) (B := b0) (S := s0) (show 0 + bS ≤ b0 by omega) (show 0 + sS ≤ s0 by omega) (fun cells slots hc hs => ?_)
  refine lv_aload_n hx hb dX13_placeIn_0 rfl (lv_at hl 0 rfl) ?_
  refine g_after (st0 := [.ref x0]) (rest := []) (g_V X m_X13_61 (c_X13_begins l D tc h0 sa x0 _ hB hkx0 (fun x h => hA0 x (hAS x h)) hw) (recv1 X.2.2.2.2.1 rfl (hB.at (k := 7) hkx0 rfl)) hT hS hA0 dX13_placeIn_1 hl.1 rfl rfl ⟨Nat.le_of_ble_eq_true rfl, Nat.le_of_ble_eq_true rfl⟩ (Nat.le_of_ble_eq_true rfl) ⟨show cells + 0 ≤ b0 by omega, show slots + 0 ≤ s0 by omega⟩) hS hAS (fun u => []) (fun _ => rfl) (fun u H locs hw hP9 hz9 hk9 hS => ?_)
  obtain ⟨wS1, rfl⟩ : ∃ z, z = u := ⟨_, rfl⟩
  try dsimp only at hw hP9
  have hB := hP9
  have hAF : ∀ x, H.size ≤ x → A x := fun x h => hAF x (by omega)
  refine W.widen (k := cells) (n := slots) (Nat.le_refl _) (Nat.le_refl _) ?_
  refine lv_aload_n hx hb dX13_placeIn_4 rfl (lv_at hl 0 rfl) ?_
  refine lv_iload_n hx hb dX13_placeIn_5 rfl (lv_at hl 1 rfl) ?_
  refine g_after (st0 := [.int x1, .ref x0]) (rest := []) (g_V X m_X13_298 (c_X13_noFrame l D tc h0 sa x0 x1 _ hB hkx0 (fun x h => hA0 x (hAS x h)) hw) (recv1 X.2.2.2.2.1 rfl (hB.at (k := 7) hkx0 rfl)) hT hS hA0 dX13_placeIn_6 hl.1 rfl rfl ⟨Nat.le_of_ble_eq_true rfl, Nat.le_of_ble_eq_true rfl⟩ (Nat.le_of_ble_eq_true rfl) ⟨show cells + 0 ≤ b0 by omega, show slots + 0 ≤ s0 by omega⟩) hS hAS (fun u => .int u.1 :: []) (fun _ => rfl) (fun u H locs hw hP9 hz9 hk9 hS => ?_)
  obtain ⟨r2, wS3⟩ := u
  try dsimp only at hw hP9
  have hB := hP9
  have hAF : ∀ x, H.size ≤ x → A x := fun x h => hAF x (by omega)
  refine W.widen (k := cells) (n := slots) (Nat.le_refl _) (Nat.le_refl _) ?_
  refine lv_if_ne (tgt := 72) hx hb dX13_placeIn_9 (by decide) (fun c4 => ?_) (fun c4 => ?_)
  · have hw := hw.1 c4
    exact t_X13_placeIn_72 X hr hT hA0 hAm9  tS nS rS wS3 bS sS _ _ _ _ _ _ hw hB  hAS hAF hX hc hs hS (lv_sub hl [] rfl)
  · have hw := hw.2 c4
    refine lv_aload_n hx hb dX13_placeIn_12 rfl (lv_at hl 0 rfl) ?_
    refine lv_iload_n hx hb dX13_placeIn_13 rfl (lv_at hl 2 rfl) ?_
    refine lv_i2l (v := x2.toInt64) hx hb dX13_placeIn_14 rfl ?_
    refine lv_ldc2 (v := 65) hx hb hown (hU.use w_1560) dX13_placeIn_15 ?_
    refine lv_ldc2 (v := 90) hx hb hown (hU.use w_1561) dX13_placeIn_18 ?_
    refine g_after (st0 := [.long 90, .long 65, .long x2.toInt64, .ref x0]) (rest := [.ref x0]) (g_S X m_X13_13 (c_X13_in l D tc h0 sa x2.toInt64 65 90 _ hB  hw) hT hS hA0 dX13_placeIn_21 hl.1 rfl rfl ⟨Nat.le_of_ble_eq_true rfl, Nat.le_of_ble_eq_true rfl⟩ (Nat.le_of_ble_eq_true rfl) ⟨show cells + 0 ≤ b0 by omega, show slots + 0 ≤ s0 by omega⟩) hS (fun _ h => h.elim) (fun u => .int u :: [.ref x0]) (fun _ => rfl) (fun u H9 locs hw hP9 hz9 hk9 hS => ?_)
    obtain ⟨r5, rfl⟩ : ∃ z, z = u := ⟨_, rfl⟩
    try dsimp only at hw hP9
    have e9 : H9 = _ := hP9
    rw [e9] at hS ⊢
    refine W.widen (k := cells) (n := slots) (Nat.le_refl _) (Nat.le_refl _) ?_
    refine lv_if_ne (tgt := 31) hx hb dX13_placeIn_24 (by decide) (fun c6 => ?_) (fun c6 => ?_)
    · have hw := hw.1 c6
      refine lv_iconst (v := 0) hx hb dX13_placeIn_31 (by decide) ?_
      exact t_X13_placeIn_32 X hr hT hA0 hAm9  x0 x1 x2 0 x0 tS nS rS wS3 bS sS _ _ _ _ _ _ hw hB hkx0 hkx0 hAS hAF hX hc hs hS (lv_sub hl [0, 1, 2] rfl)
    · have hw := hw.2 c6
      refine lv_iconst (v := 1) hx hb dX13_placeIn_27 (by decide) ?_
      refine lv_goto (tgt := 32) hx hb dX13_placeIn_28 (by decide) ?_
      exact t_X13_placeIn_32 X hr hT hA0 hAm9  x0 x1 x2 1 x0 tS nS rS wS3 bS sS _ _ _ _ _ _ hw hB hkx0 hkx0 hAS hAF hX hc hs hS (lv_sub hl [0, 1, 2] rfl)
abbrev rm_X13_drift (b0 s0 : Nat) : Room := { frames := 4, cells := b0, slots := s0, locals := 85 }
def wp_X13_drift_66 (post : UInt32 → (Nat → Nat) → (Nat → Nat) → (Nat → Nat → Nat) → Dt → Prop)   (tS : Nat → Nat) (nS : Nat → Nat) (rS : Nat → Nat → Nat) (wS : Dt) (bS : Nat) (sS : Nat) : Prop := post 0 tS nS rS wS
set_option maxHeartbeats 4000000 in
set_option maxRecDepth 100000 in
theorem t_X13_drift_66 : ∀ {p : Program} {l : Launch} {e : Env} {s : State} {m : MethodId} {args : Array Value} {below : List Frame} {meth : Method} {c : Code} {D : va_G} {tc : Nat → ClassId} {h0 : Nat} {sa : Nat → Nat} {Am : Nat → Prop} {b0 s0 : Nat} {t0 : Nat → Nat} {post : UInt32 → (Nat → Nat) → (Nat → Nat) → (Nat → Nat → Nat) → Dt → Prop}   (X : Cx p c s m meth cX13_drift 7 RX13 D tc) (hr : meth.sig.returnType = (Option.some FieldType.float)) (hT : ST h0 sa s s.heap) (hA0 : ∀ q, Am q → h0 ≤ q) (hAm9 : ∀ x, s.heap.size ≤ x → Am x) , ∀ (tS : Nat → Nat) (nS : Nat → Nat) (rS : Nat → Nat → Nat) (wS : Dt) (bS : Nat) (sS : Nat) (H : Heap) (locs : List Loc) (ls : Array Slot) (AS : Nat → Prop) (cells slots : Nat), wp_X13_drift_66 post   tS nS rS wS bS sS → SB D tc (sa 3) AS tS nS rS wS H → (∀ x, AS x → Am x) → (∀ x, H.size ≤ x → AS x) → Ext t0 tS → cells + bS ≤ b0 → slots + sS ≤ s0 → va_S Am s.heap H locs → lv_has ls 7 [] → W p l e (rm_X13_drift b0 s0) s m args below meth c H locs cells slots (MQ below (QB (fun u : UInt32 × (Nat → Nat) × (Nat → Nat) × (Nat → Nat → Nat) × Dt => post u.1 u.2.1 u.2.2.1 u.2.2.2.1 u.2.2.2.2) (fun (u : UInt32 × (Nat → Nat) × (Nat → Nat) × (Nat → Nat → Nat) × Dt) (H1 : Heap) => SB D tc (sa 3) Am u.2.1 u.2.2.1 u.2.2.2.1 u.2.2.2.2 H1 ∧ Ext t0 u.2.1) (fun u : UInt32 × (Nat → Nat) × (Nat → Nat) × (Nat → Nat → Nat) × Dt => some (.float u.1)) Am) args s (rm_X13_drift b0 s0).cells (rm_X13_drift b0 s0).slots Am) (F0 m 66 ls []) := by
  intro p l e s m args below meth c D tc h0 sa Am b0 s0 t0 post   X hr hT hA0 hAm9   tS nS rS wS bS sS H locs ls AS cells slots hw hB  hAS hAF hX hc hs hS hl
  have hx := X.1
  have hb := X.2.1
  have hown := X.2.2.2.1
  have hU := X.2.2.2.2.1.1
  unfold wp_X13_drift_66 at hw
  refine lv_fconst0 hx hb dX13_drift_66 ?_
  exact e_f X hr dX13_drift_67 hS (0, tS, nS, rS, wS) rfl hw ⟨hB.regs hAS, hX⟩ ⟨show cells ≤ b0 by omega, show slots ≤ s0 by omega⟩
def wp_X13_drift_217 (post : UInt32 → (Nat → Nat) → (Nat → Nat) → (Nat → Nat → Nat) → Dt → Prop)   (y1 : Int32) (y4 : Nat) (y5 : Nat) (z0 : Int32) (z1 : Nat) (tS : Nat → Nat) (nS : Nat → Nat) (rS : Nat → Nat → Nat) (wS : Dt) (bS : Nat) (sS : Nat) : Prop := wp_X13_fails (fun r43 wS44 => (r43 = 0 → ∃ b46 s47 : Nat, b46 ≤ bS ∧ s47 ≤ sS ∧ (wp_X9_with (fun r50 tS51 nS52 rS53 wS54 => ∃ x58 : Nat, r50 = some x58 ∧ (∃ b59 s60 : Nat, b59 ≤ (bS - b46) ∧ s60 ≤ (sS - s47) ∧ (wp_X9_with (fun r63 tS64 nS65 rS66 wS67 => ∃ x71 : Nat, r63 = some x71 ∧ (wp_J9_floorMod_7cf53 (fun r72 => vf_n32 (FP.fdiv (FP.i2f (r72 - 1800)) (FP.i2f ((wS67 y5 0) - (wS67 y4 0)))) ∧ (post (FP.fdiv (FP.i2f (r72 - 1800)) (FP.i2f ((wS67 y5 0) - (wS67 y4 0)))) tS64 nS65 rS66 wS67)) (((wS54 x58 1) - (wS67 x71 1)) + 1800) 3600)) tS51 nS52 rS53 wS54 b59 s60 y4 y1))) tS nS rS wS44 b46 s47 y5 y1)) ∧ (¬ r43 = 0 → post 0 tS nS rS wS44)) tS nS rS wS z1 z0 3
set_option maxHeartbeats 4000000 in
set_option maxRecDepth 100000 in
theorem t_X13_drift_217 : ∀ {p : Program} {l : Launch} {e : Env} {s : State} {m : MethodId} {args : Array Value} {below : List Frame} {meth : Method} {c : Code} {D : va_G} {tc : Nat → ClassId} {h0 : Nat} {sa : Nat → Nat} {Am : Nat → Prop} {b0 s0 : Nat} {t0 : Nat → Nat} {post : UInt32 → (Nat → Nat) → (Nat → Nat) → (Nat → Nat → Nat) → Dt → Prop}   (X : Cx p c s m meth cX13_drift 7 RX13 D tc) (hr : meth.sig.returnType = (Option.some FieldType.float)) (hT : ST h0 sa s s.heap) (hA0 : ∀ q, Am q → h0 ≤ q) (hAm9 : ∀ x, s.heap.size ≤ x → Am x) , ∀ (y1 : Int32) (y4 : Nat) (y5 : Nat) (z0 : Int32) (z1 : Nat) (tS : Nat → Nat) (nS : Nat → Nat) (rS : Nat → Nat → Nat) (wS : Dt) (bS : Nat) (sS : Nat) (H : Heap) (locs : List Loc) (ls : Array Slot) (AS : Nat → Prop) (cells slots : Nat), wp_X13_drift_217 post   y1 y4 y5 z0 z1 tS nS rS wS bS sS → SB D tc (sa 3) AS tS nS rS wS H → (tS y4 = 6) → (tS y5 = 6) → (tS z1 = 7) → (∀ x, AS x → Am x) → (∀ x, H.size ≤ x → AS x) → Ext t0 tS → cells + bS ≤ b0 → slots + sS ≤ s0 → va_S Am s.heap H locs → lv_has ls 7 [(1, .int y1), (4, .ref y4), (5, .ref y5)] → W p l e (rm_X13_drift b0 s0) s m args below meth c H locs cells slots (MQ below (QB (fun u : UInt32 × (Nat → Nat) × (Nat → Nat) × (Nat → Nat → Nat) × Dt => post u.1 u.2.1 u.2.2.1 u.2.2.2.1 u.2.2.2.2) (fun (u : UInt32 × (Nat → Nat) × (Nat → Nat) × (Nat → Nat → Nat) × Dt) (H1 : Heap) => SB D tc (sa 3) Am u.2.1 u.2.2.1 u.2.2.2.1 u.2.2.2.2 H1 ∧ Ext t0 u.2.1) (fun u : UInt32 × (Nat → Nat) × (Nat → Nat) × (Nat → Nat → Nat) × Dt => some (.float u.1)) Am) args s (rm_X13_drift b0 s0).cells (rm_X13_drift b0 s0).slots Am) (F0 m 217 ls [.int z0, .ref z1]) := by
  intro p l e s m args below meth c D tc h0 sa Am b0 s0 t0 post   X hr hT hA0 hAm9   y1 y4 y5 z0 z1 tS nS rS wS bS sS H locs ls AS cells slots hw hB hky4 hky5 hkz1 hAS hAF hX hc hs hS hl
  have hx := X.1
  have hb := X.2.1
  have hown := X.2.2.2.1
  have hU := X.2.2.2.2.1.1
  unfold wp_X13_drift_217 at hw
  refine lv_iconst (v := 3) hx hb dX13_drift_217 (by decide) ?_
  refine g_after (st0 := [.int 3, .int z0, .ref z1]) (rest := []) (g_V X m_X13_57 (c_X13_fails l D tc h0 sa z1 z0 3 _ hB hkz1 (fun x h => hA0 x (hAS x h)) hw) (recv1 X.2.2.2.2.1 rfl (hB.at (k := 7) hkz1 rfl)) hT hS hA0 dX13_drift_218 hl.1 rfl rfl ⟨Nat.le_of_ble_eq_true rfl, Nat.le_of_ble_eq_true rfl⟩ (Nat.le_of_ble_eq_true rfl) ⟨show cells + 0 ≤ b0 by omega, show slots + 0 ≤ s0 by omega⟩) hS hAS (fun u => .int u.1 :: []) (fun _ => rfl) (fun u H locs hw hP9 hz9 hk9 hS => ?_)
  obtain ⟨r43, wS44⟩ := u
  try dsimp only at hw hP9
  have hB := hP9
  have hAF : ∀ x, H.size ≤ x → AS x := fun x h => hAF x (by omega)
  refine W.widen (k := cells) (n := slots) (Nat.le_refl _) (Nat.le_refl _) ?_
  refine lv_if_eq (tgt := 226) hx hb dX13_drift_221 (by decide) (fun c45 => ?_) (fun c45 => ?_)
  · have hw := hw.1 c45
    refine lv_aload hx hb dX13_drift_226 (lv_at hl 2 rfl) ?_
    refine lv_iload_n hx hb dX13_drift_228 rfl (lv_at hl 0 rfl) ?_
    obtain ⟨b46, s47, o48, o49, hw⟩ := hw
    refine g_after (st0 := [.int y1, .ref y5]) (rest := []) (g_V X m_X13_301 (c_X9_with l D tc h0 sa y5 y1 b46 s47 _ hB hky5 (fun x h => hA0 x (hAS x h)) hAF hw) (recv1 X.2.2.2.2.1 rfl (hB.at (k := 6) hky5 rfl)) hT hS hA0 dX13_drift_229 hl.1 rfl rfl ⟨Nat.le_of_ble_eq_true rfl, Nat.le_of_ble_eq_true rfl⟩ (Nat.le_of_ble_eq_true rfl) ⟨show cells + b46 ≤ b0 by omega, show slots + s47 ≤ s0 by omega⟩) hS hAS (fun u => va_rf u.1 :: []) (fun _ => rfl) (fun u H locs hw hP9 hz9 hk9 hS => ?_)
    obtain ⟨r50, tS51, nS52, rS53, wS54⟩ := u
    try dsimp only at hw hP9
    obtain ⟨hB, hX9, hkr⟩ := hP9
    have hAF : ∀ x, H.size ≤ x → AS x := fun x h => hAF x (by omega)
    have hX := hX.trans hX9
    refine W_bud (b := (bS - b46)) (s1 := (sS - s47)) (B := b0) (S := s0) (show (cells + b46) + (bS - b46) ≤ b0 by omega) (show (slots + s47) + (sS - s47) ≤ s0 by omega) (fun cells slots hc hs => ?_)
    have k55 : tS51 y4 = 6 := hX9.to hky4
    have k56 : tS51 y5 = 6 := hX9.to hky5
    have k57 := hkr
    obtain ⟨x58, ex58, hw⟩ := hw
    refine W.eq (g2 := F0 m 232 ls [.ref x58]) (by rw [ex58]; rfl) ?_
    refine g_getN X dX13_drift_232 f_X13_134 (hB.one (k := 3) (k57 x58 ex58) rfl) 0 (v := .int (wS54 x58 1)) rfl rfl ?_
    refine lv_aload hx hb dX13_drift_235 (lv_at hl 1 rfl) ?_
    refine lv_iload_n hx hb dX13_drift_237 rfl (lv_at hl 0 rfl) ?_
    obtain ⟨b59, s60, o61, o62, hw⟩ := hw
    refine g_after (st0 := [.int y1, .ref y4, .int (wS54 x58 1)]) (rest := [.int (wS54 x58 1)]) (g_V X m_X13_301 (c_X9_with l D tc h0 sa y4 y1 b59 s60 _ hB k55 (fun x h => hA0 x (hAS x h)) hAF hw) (recv1 X.2.2.2.2.1 rfl (hB.at (k := 6) k55 rfl)) hT hS hA0 dX13_drift_238 hl.1 rfl rfl ⟨Nat.le_of_ble_eq_true rfl, Nat.le_of_ble_eq_true rfl⟩ (Nat.le_of_ble_eq_true rfl) ⟨show cells + b59 ≤ b0 by omega, show slots + s60 ≤ s0 by omega⟩) hS hAS (fun u => va_rf u.1 :: [.int (wS54 x58 1)]) (fun _ => rfl) (fun u H locs hw hP9 hz9 hk9 hS => ?_)
    obtain ⟨r63, tS64, nS65, rS66, wS67⟩ := u
    try dsimp only at hw hP9
    obtain ⟨hB, hX9, hkr⟩ := hP9
    have hAF : ∀ x, H.size ≤ x → AS x := fun x h => hAF x (by omega)
    have hX := hX.trans hX9
    refine W_bud (b := ((bS - b46) - b59)) (s1 := ((sS - s47) - s60)) (B := b0) (S := s0) (show (cells + b59) + ((bS - b46) - b59) ≤ b0 by omega) (show (slots + s60) + ((sS - s47) - s60) ≤ s0 by omega) (fun cells slots hc hs => ?_)
    have k68 : tS64 y4 = 6 := hX9.to k55
    have k69 : tS64 y5 = 6 := hX9.to k56
    have k70 := hkr
    obtain ⟨x71, ex71, hw⟩ := hw
    refine W.eq (g2 := F0 m 241 ls [.ref x71, .int (wS54 x58 1)]) (by rw [ex71]; rfl) ?_
    refine g_getN X dX13_drift_241 f_X13_134 (hB.one (k := 3) (k70 x71 ex71) rfl) 0 (v := .int (wS67 x71 1)) rfl rfl ?_
    refine lv_isub hx hb dX13_drift_244 ?_
    refine lv_sipush (v := 1800) hx hb dX13_drift_245 (by decide) ?_
    refine lv_iadd hx hb dX13_drift_248 ?_
    refine lv_sipush (v := 3600) hx hb dX13_drift_249 (by decide) ?_
    refine g_after (st0 := [.int 3600, .int (((wS54 x58 1) - (wS67 x71 1)) + 1800)]) (rest := []) (g_S X m_X13_285 (c_J9_floorMod_7cf53 l D tc h0 sa (((wS54 x58 1) - (wS67 x71 1)) + 1800) 3600 _ hw) hT hS hA0 dX13_drift_252 hl.1 rfl rfl ⟨Nat.le_of_ble_eq_true rfl, Nat.le_of_ble_eq_true rfl⟩ (Nat.le_of_ble_eq_true rfl) ⟨show cells + 0 ≤ b0 by omega, show slots + 0 ≤ s0 by omega⟩) hS (fun _ h => h.elim) (fun u => .int u :: []) (fun _ => rfl) (fun u H9 locs hw hP9 hz9 hk9 hS => ?_)
    have e9 : H9 = _ := hP9
    rw [e9] at hS ⊢
    refine W.widen (k := cells) (n := slots) (Nat.le_refl _) (Nat.le_refl _) ?_
    obtain ⟨r72, rfl⟩ : ∃ z, z = u := ⟨_, rfl⟩
    try dsimp only at hw
    refine lv_sipush (v := 1800) hx hb dX13_drift_255 (by decide) ?_
    refine lv_isub hx hb dX13_drift_258 ?_
    refine lv_istore (lv' := [(6, .int (r72 - 1800)), (1, .int y1), (4, .ref y4), (5, .ref y5)]) hx hb dX13_drift_259 hl (by decide) rfl (fun ls hl => ?_)
    refine lv_iload hx hb dX13_drift_261 (lv_at hl 0 rfl) ?_
    refine lv_i2f hx hb dX13_drift_263 ?_
    refine lv_aload hx hb dX13_drift_264 (lv_at hl 3 rfl) ?_
    refine g_getN X dX13_drift_266 f_X13_271 (hB.one (k := 6) k69 rfl) 0 (v := .int (wS67 y5 0)) rfl rfl ?_
    refine lv_aload hx hb dX13_drift_269 (lv_at hl 2 rfl) ?_
    refine g_getN X dX13_drift_271 f_X13_271 (hB.one (k := 6) k68 rfl) 0 (v := .int (wS67 y4 0)) rfl rfl ?_
    refine lv_isub hx hb dX13_drift_274 ?_
    refine lv_i2f hx hb dX13_drift_275 ?_
    obtain ⟨o73, hw⟩ := hw
    refine lv_fdiv hx hb dX13_drift_276 o73 ?_
    exact e_f X hr dX13_drift_277 hS ((FP.fdiv (FP.i2f (r72 - 1800)) (FP.i2f ((wS67 y5 0) - (wS67 y4 0)))), tS64, nS65, rS66, wS67) rfl hw ⟨hB.regs hAS, hX⟩ ⟨show cells ≤ b0 by omega, show slots ≤ s0 by omega⟩
  · have hw := hw.2 c45
    refine lv_fconst0 hx hb dX13_drift_224 ?_
    exact e_f X hr dX13_drift_225 hS (0, tS, nS, rS, wS44) rfl hw ⟨hB.regs hAS, hX⟩ ⟨show cells ≤ b0 by omega, show slots ≤ s0 by omega⟩
def wp_X13_drift_212 (post : UInt32 → (Nat → Nat) → (Nat → Nat) → (Nat → Nat → Nat) → Dt → Prop)   (y1 : Int32) (y4 : Nat) (y5 : Nat) (z0 : Nat) (tS : Nat → Nat) (nS : Nat → Nat) (rS : Nat → Nat → Nat) (wS : Dt) (bS : Nat) (sS : Nat) : Prop := wp_X13_drift_217 post   y1 y4 y5 1 z0 tS nS rS wS bS sS
set_option maxHeartbeats 4000000 in
set_option maxRecDepth 100000 in
theorem t_X13_drift_212 : ∀ {p : Program} {l : Launch} {e : Env} {s : State} {m : MethodId} {args : Array Value} {below : List Frame} {meth : Method} {c : Code} {D : va_G} {tc : Nat → ClassId} {h0 : Nat} {sa : Nat → Nat} {Am : Nat → Prop} {b0 s0 : Nat} {t0 : Nat → Nat} {post : UInt32 → (Nat → Nat) → (Nat → Nat) → (Nat → Nat → Nat) → Dt → Prop}   (X : Cx p c s m meth cX13_drift 7 RX13 D tc) (hr : meth.sig.returnType = (Option.some FieldType.float)) (hT : ST h0 sa s s.heap) (hA0 : ∀ q, Am q → h0 ≤ q) (hAm9 : ∀ x, s.heap.size ≤ x → Am x) , ∀ (y1 : Int32) (y4 : Nat) (y5 : Nat) (z0 : Nat) (tS : Nat → Nat) (nS : Nat → Nat) (rS : Nat → Nat → Nat) (wS : Dt) (bS : Nat) (sS : Nat) (H : Heap) (locs : List Loc) (ls : Array Slot) (AS : Nat → Prop) (cells slots : Nat), wp_X13_drift_212 post   y1 y4 y5 z0 tS nS rS wS bS sS → SB D tc (sa 3) AS tS nS rS wS H → (tS y4 = 6) → (tS y5 = 6) → (tS z0 = 7) → (∀ x, AS x → Am x) → (∀ x, H.size ≤ x → AS x) → Ext t0 tS → cells + bS ≤ b0 → slots + sS ≤ s0 → va_S Am s.heap H locs → lv_has ls 7 [(1, .int y1), (4, .ref y4), (5, .ref y5)] → W p l e (rm_X13_drift b0 s0) s m args below meth c H locs cells slots (MQ below (QB (fun u : UInt32 × (Nat → Nat) × (Nat → Nat) × (Nat → Nat → Nat) × Dt => post u.1 u.2.1 u.2.2.1 u.2.2.2.1 u.2.2.2.2) (fun (u : UInt32 × (Nat → Nat) × (Nat → Nat) × (Nat → Nat → Nat) × Dt) (H1 : Heap) => SB D tc (sa 3) Am u.2.1 u.2.2.1 u.2.2.2.1 u.2.2.2.2 H1 ∧ Ext t0 u.2.1) (fun u : UInt32 × (Nat → Nat) × (Nat → Nat) × (Nat → Nat → Nat) × Dt => some (.float u.1)) Am) args s (rm_X13_drift b0 s0).cells (rm_X13_drift b0 s0).slots Am) (F0 m 212 ls [.ref z0]) := by
  intro p l e s m args below meth c D tc h0 sa Am b0 s0 t0 post   X hr hT hA0 hAm9   y1 y4 y5 z0 tS nS rS wS bS sS H locs ls AS cells slots hw hB hky4 hky5 hkz0 hAS hAF hX hc hs hS hl
  have hx := X.1
  have hb := X.2.1
  have hown := X.2.2.2.1
  have hU := X.2.2.2.2.1.1
  unfold wp_X13_drift_212 at hw
  refine lv_iconst (v := 1) hx hb dX13_drift_212 (by decide) ?_
  refine lv_goto (tgt := 217) hx hb dX13_drift_213 (by decide) ?_
  exact t_X13_drift_217 X hr hT hA0 hAm9  y1 y4 y5 1 z0 tS nS rS wS bS sS _ _ _ _ _ _ hw hB hky4 hky5 hkz0 hAS hAF hX hc hs hS (lv_sub hl [0, 1, 2] rfl)
def wp_X13_drift_178 (post : UInt32 → (Nat → Nat) → (Nat → Nat) → (Nat → Nat → Nat) → Dt → Prop)   (y0 : Nat) (y1 : Int32) (y4 : Nat) (z0 : Nat) (tS : Nat → Nat) (nS : Nat → Nat) (rS : Nat → Nat → Nat) (wS : Dt) (bS : Nat) (sS : Nat) : Prop := ∃ b28 s29 : Nat, b28 ≤ bS ∧ s29 ≤ sS ∧ (wp_X9_with (fun r32 tS33 nS34 rS35 wS36 => (r32 = none → wp_X13_drift_212 post   y1 y4 z0 y0 tS33 nS34 rS35 wS36 (bS - b28) (sS - s29)) ∧ (¬ r32 = none → ∃ b74 s75 : Nat, b74 ≤ (bS - b28) ∧ s75 ≤ (sS - s29) ∧ (wp_X9_with (fun r78 tS79 nS80 rS81 wS82 => (r78 = none → wp_X13_drift_212 post   y1 y4 z0 y0 tS79 nS80 rS81 wS82 ((bS - b28) - b74) ((sS - s29) - s75)) ∧ (¬ r78 = none → (¬ (wS82 y4 0) = (wS82 z0 0) → wp_X13_drift_217 post   y1 y4 z0 0 y0 tS79 nS80 rS81 wS82 ((bS - b28) - b74) ((sS - s29) - s75)) ∧ ((wS82 y4 0) = (wS82 z0 0) → wp_X13_drift_212 post   y1 y4 z0 y0 tS79 nS80 rS81 wS82 ((bS - b28) - b74) ((sS - s29) - s75)))) tS33 nS34 rS35 wS36 b74 s75 z0 y1))) tS nS rS wS b28 s29 y4 y1)
set_option maxHeartbeats 4000000 in
set_option maxRecDepth 100000 in
theorem t_X13_drift_178 : ∀ {p : Program} {l : Launch} {e : Env} {s : State} {m : MethodId} {args : Array Value} {below : List Frame} {meth : Method} {c : Code} {D : va_G} {tc : Nat → ClassId} {h0 : Nat} {sa : Nat → Nat} {Am : Nat → Prop} {b0 s0 : Nat} {t0 : Nat → Nat} {post : UInt32 → (Nat → Nat) → (Nat → Nat) → (Nat → Nat → Nat) → Dt → Prop}   (X : Cx p c s m meth cX13_drift 7 RX13 D tc) (hr : meth.sig.returnType = (Option.some FieldType.float)) (hT : ST h0 sa s s.heap) (hA0 : ∀ q, Am q → h0 ≤ q) (hAm9 : ∀ x, s.heap.size ≤ x → Am x) , ∀ (y0 : Nat) (y1 : Int32) (y4 : Nat) (z0 : Nat) (tS : Nat → Nat) (nS : Nat → Nat) (rS : Nat → Nat → Nat) (wS : Dt) (bS : Nat) (sS : Nat) (H : Heap) (locs : List Loc) (ls : Array Slot) (AS : Nat → Prop) (cells slots : Nat), wp_X13_drift_178 post   y0 y1 y4 z0 tS nS rS wS bS sS → SB D tc (sa 3) AS tS nS rS wS H → (tS y0 = 7) → (tS y4 = 6) → (tS z0 = 6) → (∀ x, AS x → Am x) → (∀ x, H.size ≤ x → AS x) → Ext t0 tS → cells + bS ≤ b0 → slots + sS ≤ s0 → va_S Am s.heap H locs → lv_has ls 7 [(0, .ref y0), (1, .int y1), (4, .ref y4)] → W p l e (rm_X13_drift b0 s0) s m args below meth c H locs cells slots (MQ below (QB (fun u : UInt32 × (Nat → Nat) × (Nat → Nat) × (Nat → Nat → Nat) × Dt => post u.1 u.2.1 u.2.2.1 u.2.2.2.1 u.2.2.2.2) (fun (u : UInt32 × (Nat → Nat) × (Nat → Nat) × (Nat → Nat → Nat) × Dt) (H1 : Heap) => SB D tc (sa 3) Am u.2.1 u.2.2.1 u.2.2.2.1 u.2.2.2.2 H1 ∧ Ext t0 u.2.1) (fun u : UInt32 × (Nat → Nat) × (Nat → Nat) × (Nat → Nat → Nat) × Dt => some (.float u.1)) Am) args s (rm_X13_drift b0 s0).cells (rm_X13_drift b0 s0).slots Am) (F0 m 178 ls [.ref z0]) := by
  intro p l e s m args below meth c D tc h0 sa Am b0 s0 t0 post   X hr hT hA0 hAm9   y0 y1 y4 z0 tS nS rS wS bS sS H locs ls AS cells slots hw hB hky0 hky4 hkz0 hAS hAF hX hc hs hS hl
  have hx := X.1
  have hb := X.2.1
  have hown := X.2.2.2.1
  have hU := X.2.2.2.2.1.1
  unfold wp_X13_drift_178 at hw
  refine lv_astore (lv' := [(5, .ref z0), (0, .ref y0), (1, .int y1), (4, .ref y4)]) hx hb dX13_drift_178 hl (by decide) rfl (fun ls hl => ?_)
  refine lv_aload_n hx hb dX13_drift_180 rfl (lv_at hl 1 rfl) ?_
  refine lv_aload hx hb dX13_drift_181 (lv_at hl 3 rfl) ?_
  refine lv_iload_n hx hb dX13_drift_183 rfl (lv_at hl 2 rfl) ?_
  obtain ⟨b28, s29, o30, o31, hw⟩ := hw
  refine g_after (st0 := [.int y1, .ref y4, .ref y0]) (rest := [.ref y0]) (g_V X m_X13_301 (c_X9_with l D tc h0 sa y4 y1 b28 s29 _ hB hky4 (fun x h => hA0 x (hAS x h)) hAF hw) (recv1 X.2.2.2.2.1 rfl (hB.at (k := 6) hky4 rfl)) hT hS hA0 dX13_drift_184 hl.1 rfl rfl ⟨Nat.le_of_ble_eq_true rfl, Nat.le_of_ble_eq_true rfl⟩ (Nat.le_of_ble_eq_true rfl) ⟨show cells + b28 ≤ b0 by omega, show slots + s29 ≤ s0 by omega⟩) hS hAS (fun u => va_rf u.1 :: [.ref y0]) (fun _ => rfl) (fun u H locs hw hP9 hz9 hk9 hS => ?_)
  obtain ⟨r32, tS33, nS34, rS35, wS36⟩ := u
  try dsimp only at hw hP9
  obtain ⟨hB, hX9, hkr⟩ := hP9
  have hAF : ∀ x, H.size ≤ x → AS x := fun x h => hAF x (by omega)
  have hX := hX.trans hX9
  refine W_bud (b := (bS - b28)) (s1 := (sS - s29)) (B := b0) (S := s0) (show (cells + b28) + (bS - b28) ≤ b0 by omega) (show (slots + s29) + (sS - s29) ≤ s0 by omega) (fun cells slots hc hs => ?_)
  have k37 : tS33 z0 = 6 := hX9.to hkz0
  have k38 : tS33 y0 = 7 := hX9.to hky0
  have k39 : tS33 y4 = 6 := hX9.to hky4
  have k40 : tS33 y0 = 7 := hX9.to hky0
  have k41 := hkr
  refine lv_ifnullO (tgt := 212) hx hb dX13_drift_187 (by decide) (fun c42 => ?_) (fun c42 => ?_)
  · have hw := hw.1 c42
    exact t_X13_drift_212 X hr hT hA0 hAm9  y1 y4 z0 y0 tS33 nS34 rS35 wS36 (bS - b28) (sS - s29) _ _ _ _ _ _ hw hB k39 k37 k40 hAS hAF hX hc hs hS (lv_sub hl [2, 3, 0] rfl)
  · have hw := hw.2 c42
    refine lv_aload hx hb dX13_drift_190 (lv_at hl 0 rfl) ?_
    refine lv_iload_n hx hb dX13_drift_192 rfl (lv_at hl 2 rfl) ?_
    obtain ⟨b74, s75, o76, o77, hw⟩ := hw
    refine g_after (st0 := [.int y1, .ref z0, .ref y0]) (rest := [.ref y0]) (g_V X m_X13_301 (c_X9_with l D tc h0 sa z0 y1 b74 s75 _ hB k37 (fun x h => hA0 x (hAS x h)) hAF hw) (recv1 X.2.2.2.2.1 rfl (hB.at (k := 6) k37 rfl)) hT hS hA0 dX13_drift_193 hl.1 rfl rfl ⟨Nat.le_of_ble_eq_true rfl, Nat.le_of_ble_eq_true rfl⟩ (Nat.le_of_ble_eq_true rfl) ⟨show cells + b74 ≤ b0 by omega, show slots + s75 ≤ s0 by omega⟩) hS hAS (fun u => va_rf u.1 :: [.ref y0]) (fun _ => rfl) (fun u H locs hw hP9 hz9 hk9 hS => ?_)
    obtain ⟨r78, tS79, nS80, rS81, wS82⟩ := u
    try dsimp only at hw hP9
    obtain ⟨hB, hX9, hkr⟩ := hP9
    have hAF : ∀ x, H.size ≤ x → AS x := fun x h => hAF x (by omega)
    have hX := hX.trans hX9
    refine W_bud (b := ((bS - b28) - b74)) (s1 := ((sS - s29) - s75)) (B := b0) (S := s0) (show (cells + b74) + ((bS - b28) - b74) ≤ b0 by omega) (show (slots + s75) + ((sS - s29) - s75) ≤ s0 by omega) (fun cells slots hc hs => ?_)
    have k83 : tS79 z0 = 6 := hX9.to k37
    have k84 : tS79 y0 = 7 := hX9.to k38
    have k85 : tS79 y4 = 6 := hX9.to k39
    have k86 : tS79 y0 = 7 := hX9.to k40
    have k87 := hkr
    refine lv_ifnullO (tgt := 212) hx hb dX13_drift_196 (by decide) (fun c88 => ?_) (fun c88 => ?_)
    · have hw := hw.1 c88
      exact t_X13_drift_212 X hr hT hA0 hAm9  y1 y4 z0 y0 tS79 nS80 rS81 wS82 ((bS - b28) - b74) ((sS - s29) - s75) _ _ _ _ _ _ hw hB k85 k83 k86 hAS hAF hX hc hs hS (lv_sub hl [2, 3, 0] rfl)
    · have hw := hw.2 c88
      refine lv_aload hx hb dX13_drift_199 (lv_at hl 3 rfl) ?_
      refine g_getN X dX13_drift_201 f_X13_271 (hB.one (k := 6) k85 rfl) 0 (v := .int (wS82 y4 0)) rfl rfl ?_
      refine lv_aload hx hb dX13_drift_204 (lv_at hl 0 rfl) ?_
      refine g_getN X dX13_drift_206 f_X13_271 (hB.one (k := 6) k83 rfl) 0 (v := .int (wS82 z0 0)) rfl rfl ?_
      refine lv_icmp_ne (tgt := 216) hx hb dX13_drift_209 (by decide) (fun c89 => ?_) (fun c89 => ?_)
      · have hw := hw.1 c89
        refine lv_iconst (v := 0) hx hb dX13_drift_216 (by decide) ?_
        exact t_X13_drift_217 X hr hT hA0 hAm9  y1 y4 z0 0 y0 tS79 nS80 rS81 wS82 ((bS - b28) - b74) ((sS - s29) - s75) _ _ _ _ _ _ hw hB k85 k83 k86 hAS hAF hX hc hs hS (lv_sub hl [2, 3, 0] rfl)
      · have hw := hw.2 c89
        exact t_X13_drift_212 X hr hT hA0 hAm9  y1 y4 z0 y0 tS79 nS80 rS81 wS82 ((bS - b28) - b74) ((sS - s29) - s75) _ _ _ _ _ _ hw hB k85 k83 k86 hAS hAF hX hc hs hS (lv_sub hl [2, 3, 0] rfl)
def wp_X13_drift_132 (post : UInt32 → (Nat → Nat) → (Nat → Nat) → (Nat → Nat → Nat) → Dt → Prop)   (y0 : Nat) (y1 : Int32) (y2 : Int32) (y3 : Int32) (z0 : Nat) (tS : Nat → Nat) (nS : Nat → Nat) (rS : Nat → Nat → Nat) (wS : Dt) (bS : Nat) (sS : Nat) : Prop := vp_in y2 (nS (rS y0 4)) ∧ ((¬ z0 = (rS (rS y0 4) y2.toNatClampNeg) → wp_X13_drift_178 post   y0 y1 z0 (rS (rS y0 4) y2.toNatClampNeg) tS nS rS wS bS sS) ∧ (z0 = (rS (rS y0 4) y2.toNatClampNeg) → vp_in y3 (nS (rS y0 4)) ∧ (wp_X13_drift_178 post   y0 y1 z0 (rS (rS y0 4) y3.toNatClampNeg) tS nS rS wS bS sS)))
set_option maxHeartbeats 4000000 in
set_option maxRecDepth 100000 in
theorem t_X13_drift_132 : ∀ {p : Program} {l : Launch} {e : Env} {s : State} {m : MethodId} {args : Array Value} {below : List Frame} {meth : Method} {c : Code} {D : va_G} {tc : Nat → ClassId} {h0 : Nat} {sa : Nat → Nat} {Am : Nat → Prop} {b0 s0 : Nat} {t0 : Nat → Nat} {post : UInt32 → (Nat → Nat) → (Nat → Nat) → (Nat → Nat → Nat) → Dt → Prop}   (X : Cx p c s m meth cX13_drift 7 RX13 D tc) (hr : meth.sig.returnType = (Option.some FieldType.float)) (hT : ST h0 sa s s.heap) (hA0 : ∀ q, Am q → h0 ≤ q) (hAm9 : ∀ x, s.heap.size ≤ x → Am x) , ∀ (y0 : Nat) (y1 : Int32) (y2 : Int32) (y3 : Int32) (z0 : Nat) (tS : Nat → Nat) (nS : Nat → Nat) (rS : Nat → Nat → Nat) (wS : Dt) (bS : Nat) (sS : Nat) (H : Heap) (locs : List Loc) (ls : Array Slot) (AS : Nat → Prop) (cells slots : Nat), wp_X13_drift_132 post   y0 y1 y2 y3 z0 tS nS rS wS bS sS → SB D tc (sa 3) AS tS nS rS wS H → (tS y0 = 7) → (tS z0 = 6) → (∀ x, AS x → Am x) → (∀ x, H.size ≤ x → AS x) → Ext t0 tS → cells + bS ≤ b0 → slots + sS ≤ s0 → va_S Am s.heap H locs → lv_has ls 7 [(0, .ref y0), (1, .int y1), (2, .int y2), (3, .int y3)] → W p l e (rm_X13_drift b0 s0) s m args below meth c H locs cells slots (MQ below (QB (fun u : UInt32 × (Nat → Nat) × (Nat → Nat) × (Nat → Nat → Nat) × Dt => post u.1 u.2.1 u.2.2.1 u.2.2.2.1 u.2.2.2.2) (fun (u : UInt32 × (Nat → Nat) × (Nat → Nat) × (Nat → Nat → Nat) × Dt) (H1 : Heap) => SB D tc (sa 3) Am u.2.1 u.2.2.1 u.2.2.2.1 u.2.2.2.2 H1 ∧ Ext t0 u.2.1) (fun u : UInt32 × (Nat → Nat) × (Nat → Nat) × (Nat → Nat → Nat) × Dt => some (.float u.1)) Am) args s (rm_X13_drift b0 s0).cells (rm_X13_drift b0 s0).slots Am) (F0 m 132 ls [.ref z0]) := by
  intro p l e s m args below meth c D tc h0 sa Am b0 s0 t0 post   X hr hT hA0 hAm9   y0 y1 y2 y3 z0 tS nS rS wS bS sS H locs ls AS cells slots hw hB hky0 hkz0 hAS hAF hX hc hs hS hl
  have hx := X.1
  have hb := X.2.1
  have hown := X.2.2.2.1
  have hU := X.2.2.2.2.1.1
  unfold wp_X13_drift_132 at hw
  refine lv_astore (lv' := [(4, .ref z0), (0, .ref y0), (1, .int y1), (2, .int y2), (3, .int y3)]) hx hb dX13_drift_132 hl (by decide) rfl (fun ls hl => ?_)
  refine lv_aload hx hb dX13_drift_134 (lv_at hl 0 rfl) ?_
  refine lv_aload_n hx hb dX13_drift_136 rfl (lv_at hl 1 rfl) ?_
  refine g_get X dX13_drift_137 f_X13_48 (hB.one (k := 7) hky0 rfl) 0 (v := .ref (rS y0 4)) rfl rfl ?_
  have k22 : tS (rS y0 4) = 12 := (hB.wtk hky0).2.2.2
  refine lv_iload_n hx hb dX13_drift_140 rfl (lv_at hl 3 rfl) ?_
  obtain ⟨fs9, hat9⟩ := hB.lat (isL_of k22)
  obtain ⟨o23, hw⟩ := hw
  refine g_after5 (st0 := [.int y2, .ref (rS y0 4), .ref z0]) (rest := [.ref z0]) (g_F X mf_X13_163 (c_get l D tc h0 sa _ (rS y0 4) hB (isL_of k22) o23) rfl hat9 hT hS hA0 dX13_drift_141 hl.1 rfl rfl ⟨Nat.le_of_ble_eq_true rfl, Nat.le_of_ble_eq_true rfl⟩ (Nat.le_of_ble_eq_true rfl) ⟨show cells + 0 ≤ b0 by omega, show slots + 0 ≤ s0 by omega⟩) hS (fun _ h => h.elim) (fun u => .ref (rS (rS y0 4) y2.toNatClampNeg) :: [.ref z0]) (fun _ => rfl) (fun u H9 locs hu hP9 hz9 hk9 hS => ?_)
  have e9 : H9 = _ := hP9
  rw [e9] at hS ⊢
  refine W.widen (k := cells) (n := slots) (Nat.le_refl _) (Nat.le_refl _) ?_
  have k24 : tS (rS (rS y0 4) y2.toNatClampNeg) = 6 := hB.elt k22 (lt10 o23)
  refine lv_acmp_ne (tgt := 165) (rx := some z0) (ry := some (rS (rS y0 4) y2.toNatClampNeg)) hx hb dX13_drift_146 (by decide) (fun c25 => ?_) (fun c25 => ?_)
  · have hw := hw.1 (fun z => c25 (congrArg some z))
    refine lv_aload_n hx hb dX13_drift_165 rfl (lv_at hl 1 rfl) ?_
    refine g_get X dX13_drift_166 f_X13_48 (hB.one (k := 7) hky0 rfl) 0 (v := .ref (rS y0 4)) rfl rfl ?_
    have k26 : tS (rS y0 4) = 12 := (hB.wtk hky0).2.2.2
    refine lv_iload_n hx hb dX13_drift_169 rfl (lv_at hl 3 rfl) ?_
    obtain ⟨fs9, hat9⟩ := hB.lat (isL_of k26)
    refine g_after5 (st0 := [.int y2, .ref (rS y0 4)]) (rest := []) (g_F X mf_X13_163 (c_get l D tc h0 sa _ (rS y0 4) hB (isL_of k26) o23) rfl hat9 hT hS hA0 dX13_drift_170 hl.1 rfl rfl ⟨Nat.le_of_ble_eq_true rfl, Nat.le_of_ble_eq_true rfl⟩ (Nat.le_of_ble_eq_true rfl) ⟨show cells + 0 ≤ b0 by omega, show slots + 0 ≤ s0 by omega⟩) hS (fun _ h => h.elim) (fun u => .ref (rS (rS y0 4) y2.toNatClampNeg) :: []) (fun _ => rfl) (fun u H9 locs hu hP9 hz9 hk9 hS => ?_)
    have e9 : H9 = _ := hP9
    rw [e9] at hS ⊢
    refine W.widen (k := cells) (n := slots) (Nat.le_refl _) (Nat.le_refl _) ?_
    have k27 : tS (rS (rS y0 4) y2.toNatClampNeg) = 6 := hB.elt k26 (lt10 o23)
    refine x_cast X w_1904 rfl (hB.at (k := 6) k27 rfl) dX13_drift_175 ?_
    exact t_X13_drift_178 X hr hT hA0 hAm9  y0 y1 z0 (rS (rS y0 4) y2.toNatClampNeg) tS nS rS wS bS sS _ _ _ _ _ _ hw hB hky0 hkz0 k27 hAS hAF hX hc hs hS (lv_sub hl [1, 2, 0] rfl)
  · have hw := hw.2 (Option.some.inj c25)
    refine lv_aload_n hx hb dX13_drift_149 rfl (lv_at hl 1 rfl) ?_
    refine g_get X dX13_drift_150 f_X13_48 (hB.one (k := 7) hky0 rfl) 0 (v := .ref (rS y0 4)) rfl rfl ?_
    have k90 : tS (rS y0 4) = 12 := (hB.wtk hky0).2.2.2
    refine lv_iload_n hx hb dX13_drift_153 rfl (lv_at hl 4 rfl) ?_
    obtain ⟨fs9, hat9⟩ := hB.lat (isL_of k90)
    obtain ⟨o91, hw⟩ := hw
    refine g_after5 (st0 := [.int y3, .ref (rS y0 4)]) (rest := []) (g_F X mf_X13_163 (c_get l D tc h0 sa _ (rS y0 4) hB (isL_of k90) o91) rfl hat9 hT hS hA0 dX13_drift_154 hl.1 rfl rfl ⟨Nat.le_of_ble_eq_true rfl, Nat.le_of_ble_eq_true rfl⟩ (Nat.le_of_ble_eq_true rfl) ⟨show cells + 0 ≤ b0 by omega, show slots + 0 ≤ s0 by omega⟩) hS (fun _ h => h.elim) (fun u => .ref (rS (rS y0 4) y3.toNatClampNeg) :: []) (fun _ => rfl) (fun u H9 locs hu hP9 hz9 hk9 hS => ?_)
    have e9 : H9 = _ := hP9
    rw [e9] at hS ⊢
    refine W.widen (k := cells) (n := slots) (Nat.le_refl _) (Nat.le_refl _) ?_
    have k92 : tS (rS (rS y0 4) y3.toNatClampNeg) = 6 := hB.elt k90 (lt10 o91)
    refine x_cast X w_1904 rfl (hB.at (k := 6) k92 rfl) dX13_drift_159 ?_
    refine lv_goto (tgt := 178) hx hb dX13_drift_162 (by decide) ?_
    exact t_X13_drift_178 X hr hT hA0 hAm9  y0 y1 z0 (rS (rS y0 4) y3.toNatClampNeg) tS nS rS wS bS sS _ _ _ _ _ _ hw hB hky0 hkz0 k92 hAS hAF hX hc hs hS (lv_sub hl [1, 2, 0] rfl)
def wp_X13_drift_59 (post : UInt32 → (Nat → Nat) → (Nat → Nat) → (Nat → Nat → Nat) → Dt → Prop)   (y0 : Nat) (y1 : Int32) (y2 : Int32) (y3 : Int32) (z0 : Int32) (z1 : Nat) (tS : Nat → Nat) (nS : Nat → Nat) (rS : Nat → Nat → Nat) (wS : Dt) (bS : Nat) (sS : Nat) : Prop := wp_X13_fails (fun r10 wS11 => (r10 = 0 → vp_in y2 (nS (rS y0 4)) ∧ (vp_in y3 (nS (rS y0 4)) ∧ (((wS11 (rS (rS y0 4) y3.toNatClampNeg) 0) < (wS11 (rS (rS y0 4) y2.toNatClampNeg) 0) → wp_X13_drift_132 post   y0 y1 y2 y3 (rS (rS y0 4) y3.toNatClampNeg) tS nS rS wS11 bS sS) ∧ (¬ (wS11 (rS (rS y0 4) y3.toNatClampNeg) 0) < (wS11 (rS (rS y0 4) y2.toNatClampNeg) 0) → wp_X13_drift_132 post   y0 y1 y2 y3 (rS (rS y0 4) y2.toNatClampNeg) tS nS rS wS11 bS sS)))) ∧ (¬ r10 = 0 → wp_X13_drift_66 post   tS nS rS wS11 bS sS)) tS nS rS wS z1 z0 2
set_option maxHeartbeats 4000000 in
set_option maxRecDepth 100000 in
theorem t_X13_drift_59 : ∀ {p : Program} {l : Launch} {e : Env} {s : State} {m : MethodId} {args : Array Value} {below : List Frame} {meth : Method} {c : Code} {D : va_G} {tc : Nat → ClassId} {h0 : Nat} {sa : Nat → Nat} {Am : Nat → Prop} {b0 s0 : Nat} {t0 : Nat → Nat} {post : UInt32 → (Nat → Nat) → (Nat → Nat) → (Nat → Nat → Nat) → Dt → Prop}   (X : Cx p c s m meth cX13_drift 7 RX13 D tc) (hr : meth.sig.returnType = (Option.some FieldType.float)) (hT : ST h0 sa s s.heap) (hA0 : ∀ q, Am q → h0 ≤ q) (hAm9 : ∀ x, s.heap.size ≤ x → Am x) , ∀ (y0 : Nat) (y1 : Int32) (y2 : Int32) (y3 : Int32) (z0 : Int32) (z1 : Nat) (tS : Nat → Nat) (nS : Nat → Nat) (rS : Nat → Nat → Nat) (wS : Dt) (bS : Nat) (sS : Nat) (H : Heap) (locs : List Loc) (ls : Array Slot) (AS : Nat → Prop) (cells slots : Nat), wp_X13_drift_59 post   y0 y1 y2 y3 z0 z1 tS nS rS wS bS sS → SB D tc (sa 3) AS tS nS rS wS H → (tS y0 = 7) → (tS z1 = 7) → (∀ x, AS x → Am x) → (∀ x, H.size ≤ x → AS x) → Ext t0 tS → cells + bS ≤ b0 → slots + sS ≤ s0 → va_S Am s.heap H locs → lv_has ls 7 [(0, .ref y0), (1, .int y1), (2, .int y2), (3, .int y3)] → W p l e (rm_X13_drift b0 s0) s m args below meth c H locs cells slots (MQ below (QB (fun u : UInt32 × (Nat → Nat) × (Nat → Nat) × (Nat → Nat → Nat) × Dt => post u.1 u.2.1 u.2.2.1 u.2.2.2.1 u.2.2.2.2) (fun (u : UInt32 × (Nat → Nat) × (Nat → Nat) × (Nat → Nat → Nat) × Dt) (H1 : Heap) => SB D tc (sa 3) Am u.2.1 u.2.2.1 u.2.2.2.1 u.2.2.2.2 H1 ∧ Ext t0 u.2.1) (fun u : UInt32 × (Nat → Nat) × (Nat → Nat) × (Nat → Nat → Nat) × Dt => some (.float u.1)) Am) args s (rm_X13_drift b0 s0).cells (rm_X13_drift b0 s0).slots Am) (F0 m 59 ls [.int z0, .ref z1]) := by
  intro p l e s m args below meth c D tc h0 sa Am b0 s0 t0 post   X hr hT hA0 hAm9   y0 y1 y2 y3 z0 z1 tS nS rS wS bS sS H locs ls AS cells slots hw hB hky0 hkz1 hAS hAF hX hc hs hS hl
  have hx := X.1
  have hb := X.2.1
  have hown := X.2.2.2.1
  have hU := X.2.2.2.2.1.1
  unfold wp_X13_drift_59 at hw
  refine lv_iconst (v := 2) hx hb dX13_drift_59 (by decide) ?_
  refine g_after (st0 := [.int 2, .int z0, .ref z1]) (rest := []) (g_V X m_X13_57 (c_X13_fails l D tc h0 sa z1 z0 2 _ hB hkz1 (fun x h => hA0 x (hAS x h)) hw) (recv1 X.2.2.2.2.1 rfl (hB.at (k := 7) hkz1 rfl)) hT hS hA0 dX13_drift_60 hl.1 rfl rfl ⟨Nat.le_of_ble_eq_true rfl, Nat.le_of_ble_eq_true rfl⟩ (Nat.le_of_ble_eq_true rfl) ⟨show cells + 0 ≤ b0 by omega, show slots + 0 ≤ s0 by omega⟩) hS hAS (fun u => .int u.1 :: []) (fun _ => rfl) (fun u H locs hw hP9 hz9 hk9 hS => ?_)
  obtain ⟨r10, wS11⟩ := u
  try dsimp only at hw hP9
  have hB := hP9
  have hAF : ∀ x, H.size ≤ x → AS x := fun x h => hAF x (by omega)
  refine W.widen (k := cells) (n := slots) (Nat.le_refl _) (Nat.le_refl _) ?_
  refine lv_if_eq (tgt := 68) hx hb dX13_drift_63 (by decide) (fun c12 => ?_) (fun c12 => ?_)
  · have hw := hw.1 c12
    refine lv_aload_n hx hb dX13_drift_68 rfl (lv_at hl 0 rfl) ?_
    refine g_get X dX13_drift_69 f_X13_48 (hB.one (k := 7) hky0 rfl) 0 (v := .ref (rS y0 4)) rfl rfl ?_
    have k13 : tS (rS y0 4) = 12 := (hB.wtk hky0).2.2.2
    refine lv_iload_n hx hb dX13_drift_72 rfl (lv_at hl 2 rfl) ?_
    obtain ⟨fs9, hat9⟩ := hB.lat (isL_of k13)
    obtain ⟨o14, hw⟩ := hw
    refine g_after5 (st0 := [.int y2, .ref (rS y0 4)]) (rest := []) (g_F X mf_X13_163 (c_get l D tc h0 sa _ (rS y0 4) hB (isL_of k13) o14) rfl hat9 hT hS hA0 dX13_drift_73 hl.1 rfl rfl ⟨Nat.le_of_ble_eq_true rfl, Nat.le_of_ble_eq_true rfl⟩ (Nat.le_of_ble_eq_true rfl) ⟨show cells + 0 ≤ b0 by omega, show slots + 0 ≤ s0 by omega⟩) hS (fun _ h => h.elim) (fun u => .ref (rS (rS y0 4) y2.toNatClampNeg) :: []) (fun _ => rfl) (fun u H9 locs hu hP9 hz9 hk9 hS => ?_)
    have e9 : H9 = _ := hP9
    rw [e9] at hS ⊢
    refine W.widen (k := cells) (n := slots) (Nat.le_refl _) (Nat.le_refl _) ?_
    have k15 : tS (rS (rS y0 4) y2.toNatClampNeg) = 6 := hB.elt k13 (lt10 o14)
    refine x_cast X w_1904 rfl (hB.at (k := 6) k15 rfl) dX13_drift_78 ?_
    refine g_getN X dX13_drift_81 f_X13_271 (hB.one (k := 6) k15 rfl) 0 (v := .int (wS11 (rS (rS y0 4) y2.toNatClampNeg) 0)) rfl rfl ?_
    refine lv_aload_n hx hb dX13_drift_84 rfl (lv_at hl 0 rfl) ?_
    refine g_get X dX13_drift_85 f_X13_48 (hB.one (k := 7) hky0 rfl) 0 (v := .ref (rS y0 4)) rfl rfl ?_
    have k16 : tS (rS y0 4) = 12 := (hB.wtk hky0).2.2.2
    refine lv_iload_n hx hb dX13_drift_88 rfl (lv_at hl 3 rfl) ?_
    obtain ⟨fs9, hat9⟩ := hB.lat (isL_of k16)
    obtain ⟨o17, hw⟩ := hw
    refine g_after5 (st0 := [.int y3, .ref (rS y0 4), .int (wS11 (rS (rS y0 4) y2.toNatClampNeg) 0)]) (rest := [.int (wS11 (rS (rS y0 4) y2.toNatClampNeg) 0)]) (g_F X mf_X13_163 (c_get l D tc h0 sa _ (rS y0 4) hB (isL_of k16) o17) rfl hat9 hT hS hA0 dX13_drift_89 hl.1 rfl rfl ⟨Nat.le_of_ble_eq_true rfl, Nat.le_of_ble_eq_true rfl⟩ (Nat.le_of_ble_eq_true rfl) ⟨show cells + 0 ≤ b0 by omega, show slots + 0 ≤ s0 by omega⟩) hS (fun _ h => h.elim) (fun u => .ref (rS (rS y0 4) y3.toNatClampNeg) :: [.int (wS11 (rS (rS y0 4) y2.toNatClampNeg) 0)]) (fun _ => rfl) (fun u H9 locs hu hP9 hz9 hk9 hS => ?_)
    have e9 : H9 = _ := hP9
    rw [e9] at hS ⊢
    refine W.widen (k := cells) (n := slots) (Nat.le_refl _) (Nat.le_refl _) ?_
    have k18 : tS (rS (rS y0 4) y3.toNatClampNeg) = 6 := hB.elt k16 (lt10 o17)
    refine x_cast X w_1904 rfl (hB.at (k := 6) k18 rfl) dX13_drift_94 ?_
    refine g_getN X dX13_drift_97 f_X13_271 (hB.one (k := 6) k18 rfl) 0 (v := .int (wS11 (rS (rS y0 4) y3.toNatClampNeg) 0)) rfl rfl ?_
    refine lv_icmp_gt (tgt := 119) hx hb dX13_drift_100 (by decide) (fun c19 => ?_) (fun c19 => ?_)
    · have hw := hw.1 c19
      refine lv_aload_n hx hb dX13_drift_119 rfl (lv_at hl 0 rfl) ?_
      refine g_get X dX13_drift_120 f_X13_48 (hB.one (k := 7) hky0 rfl) 0 (v := .ref (rS y0 4)) rfl rfl ?_
      have k20 : tS (rS y0 4) = 12 := (hB.wtk hky0).2.2.2
      refine lv_iload_n hx hb dX13_drift_123 rfl (lv_at hl 3 rfl) ?_
      obtain ⟨fs9, hat9⟩ := hB.lat (isL_of k20)
      refine g_after5 (st0 := [.int y3, .ref (rS y0 4)]) (rest := []) (g_F X mf_X13_163 (c_get l D tc h0 sa _ (rS y0 4) hB (isL_of k20) o17) rfl hat9 hT hS hA0 dX13_drift_124 hl.1 rfl rfl ⟨Nat.le_of_ble_eq_true rfl, Nat.le_of_ble_eq_true rfl⟩ (Nat.le_of_ble_eq_true rfl) ⟨show cells + 0 ≤ b0 by omega, show slots + 0 ≤ s0 by omega⟩) hS (fun _ h => h.elim) (fun u => .ref (rS (rS y0 4) y3.toNatClampNeg) :: []) (fun _ => rfl) (fun u H9 locs hu hP9 hz9 hk9 hS => ?_)
      have e9 : H9 = _ := hP9
      rw [e9] at hS ⊢
      refine W.widen (k := cells) (n := slots) (Nat.le_refl _) (Nat.le_refl _) ?_
      have k21 : tS (rS (rS y0 4) y3.toNatClampNeg) = 6 := hB.elt k20 (lt10 o17)
      refine x_cast X w_1904 rfl (hB.at (k := 6) k21 rfl) dX13_drift_129 ?_
      exact t_X13_drift_132 X hr hT hA0 hAm9  y0 y1 y2 y3 (rS (rS y0 4) y3.toNatClampNeg) tS nS rS wS11 bS sS _ _ _ _ _ _ hw hB hky0 k21 hAS hAF hX hc hs hS (lv_sub hl [0, 1, 2, 3] rfl)
    · have hw := hw.2 c19
      refine lv_aload_n hx hb dX13_drift_103 rfl (lv_at hl 0 rfl) ?_
      refine g_get X dX13_drift_104 f_X13_48 (hB.one (k := 7) hky0 rfl) 0 (v := .ref (rS y0 4)) rfl rfl ?_
      have k93 : tS (rS y0 4) = 12 := (hB.wtk hky0).2.2.2
      refine lv_iload_n hx hb dX13_drift_107 rfl (lv_at hl 2 rfl) ?_
      obtain ⟨fs9, hat9⟩ := hB.lat (isL_of k93)
      refine g_after5 (st0 := [.int y2, .ref (rS y0 4)]) (rest := []) (g_F X mf_X13_163 (c_get l D tc h0 sa _ (rS y0 4) hB (isL_of k93) o14) rfl hat9 hT hS hA0 dX13_drift_108 hl.1 rfl rfl ⟨Nat.le_of_ble_eq_true rfl, Nat.le_of_ble_eq_true rfl⟩ (Nat.le_of_ble_eq_true rfl) ⟨show cells + 0 ≤ b0 by omega, show slots + 0 ≤ s0 by omega⟩) hS (fun _ h => h.elim) (fun u => .ref (rS (rS y0 4) y2.toNatClampNeg) :: []) (fun _ => rfl) (fun u H9 locs hu hP9 hz9 hk9 hS => ?_)
      have e9 : H9 = _ := hP9
      rw [e9] at hS ⊢
      refine W.widen (k := cells) (n := slots) (Nat.le_refl _) (Nat.le_refl _) ?_
      have k94 : tS (rS (rS y0 4) y2.toNatClampNeg) = 6 := hB.elt k93 (lt10 o14)
      refine x_cast X w_1904 rfl (hB.at (k := 6) k94 rfl) dX13_drift_113 ?_
      refine lv_goto (tgt := 132) hx hb dX13_drift_116 (by decide) ?_
      exact t_X13_drift_132 X hr hT hA0 hAm9  y0 y1 y2 y3 (rS (rS y0 4) y2.toNatClampNeg) tS nS rS wS11 bS sS _ _ _ _ _ _ hw hB hky0 k94 hAS hAF hX hc hs hS (lv_sub hl [0, 1, 2, 3] rfl)
  · have hw := hw.2 c12
    exact t_X13_drift_66 X hr hT hA0 hAm9  tS nS rS wS11 bS sS _ _ _ _ _ _ hw hB  hAS hAF hX hc hs hS (lv_sub hl [] rfl)
def wp_X13_drift_32 (post : UInt32 → (Nat → Nat) → (Nat → Nat) → (Nat → Nat → Nat) → Dt → Prop)   (y0 : Nat) (y1 : Int32) (y2 : Int32) (y3 : Int32) (z0 : Int32) (z1 : Nat) (tS : Nat → Nat) (nS : Nat → Nat) (rS : Nat → Nat → Nat) (wS : Dt) (bS : Nat) (sS : Nat) : Prop := wp_X13_fails (fun r5 wS6 => (¬ r5 = 0 → wp_X13_drift_66 post   tS nS rS wS6 bS sS) ∧ (r5 = 0 → wp_X13_in (fun r8 => (¬ r8 = 0 → wp_X13_drift_59 post   y0 y1 y2 y3 0 y0 tS nS rS wS6 bS sS) ∧ (r8 = 0 → wp_X13_drift_59 post   y0 y1 y2 y3 1 y0 tS nS rS wS6 bS sS)) tS nS rS wS6 y1.toInt64 65 90)) tS nS rS wS z1 z0 1
set_option maxHeartbeats 4000000 in
set_option maxRecDepth 100000 in
theorem t_X13_drift_32 : ∀ {p : Program} {l : Launch} {e : Env} {s : State} {m : MethodId} {args : Array Value} {below : List Frame} {meth : Method} {c : Code} {D : va_G} {tc : Nat → ClassId} {h0 : Nat} {sa : Nat → Nat} {Am : Nat → Prop} {b0 s0 : Nat} {t0 : Nat → Nat} {post : UInt32 → (Nat → Nat) → (Nat → Nat) → (Nat → Nat → Nat) → Dt → Prop}   (X : Cx p c s m meth cX13_drift 7 RX13 D tc) (hr : meth.sig.returnType = (Option.some FieldType.float)) (hT : ST h0 sa s s.heap) (hA0 : ∀ q, Am q → h0 ≤ q) (hAm9 : ∀ x, s.heap.size ≤ x → Am x) , ∀ (y0 : Nat) (y1 : Int32) (y2 : Int32) (y3 : Int32) (z0 : Int32) (z1 : Nat) (tS : Nat → Nat) (nS : Nat → Nat) (rS : Nat → Nat → Nat) (wS : Dt) (bS : Nat) (sS : Nat) (H : Heap) (locs : List Loc) (ls : Array Slot) (AS : Nat → Prop) (cells slots : Nat), wp_X13_drift_32 post   y0 y1 y2 y3 z0 z1 tS nS rS wS bS sS → SB D tc (sa 3) AS tS nS rS wS H → (tS y0 = 7) → (tS z1 = 7) → (∀ x, AS x → Am x) → (∀ x, H.size ≤ x → AS x) → Ext t0 tS → cells + bS ≤ b0 → slots + sS ≤ s0 → va_S Am s.heap H locs → lv_has ls 7 [(0, .ref y0), (1, .int y1), (2, .int y2), (3, .int y3)] → W p l e (rm_X13_drift b0 s0) s m args below meth c H locs cells slots (MQ below (QB (fun u : UInt32 × (Nat → Nat) × (Nat → Nat) × (Nat → Nat → Nat) × Dt => post u.1 u.2.1 u.2.2.1 u.2.2.2.1 u.2.2.2.2) (fun (u : UInt32 × (Nat → Nat) × (Nat → Nat) × (Nat → Nat → Nat) × Dt) (H1 : Heap) => SB D tc (sa 3) Am u.2.1 u.2.2.1 u.2.2.2.1 u.2.2.2.2 H1 ∧ Ext t0 u.2.1) (fun u : UInt32 × (Nat → Nat) × (Nat → Nat) × (Nat → Nat → Nat) × Dt => some (.float u.1)) Am) args s (rm_X13_drift b0 s0).cells (rm_X13_drift b0 s0).slots Am) (F0 m 32 ls [.int z0, .ref z1]) := by
  intro p l e s m args below meth c D tc h0 sa Am b0 s0 t0 post   X hr hT hA0 hAm9   y0 y1 y2 y3 z0 z1 tS nS rS wS bS sS H locs ls AS cells slots hw hB hky0 hkz1 hAS hAF hX hc hs hS hl
  have hx := X.1
  have hb := X.2.1
  have hown := X.2.2.2.1
  have hU := X.2.2.2.2.1.1
  unfold wp_X13_drift_32 at hw
  refine lv_iconst (v := 1) hx hb dX13_drift_32 (by decide) ?_
  refine g_after (st0 := [.int 1, .int z0, .ref z1]) (rest := []) (g_V X m_X13_57 (c_X13_fails l D tc h0 sa z1 z0 1 _ hB hkz1 (fun x h => hA0 x (hAS x h)) hw) (recv1 X.2.2.2.2.1 rfl (hB.at (k := 7) hkz1 rfl)) hT hS hA0 dX13_drift_33 hl.1 rfl rfl ⟨Nat.le_of_ble_eq_true rfl, Nat.le_of_ble_eq_true rfl⟩ (Nat.le_of_ble_eq_true rfl) ⟨show cells + 0 ≤ b0 by omega, show slots + 0 ≤ s0 by omega⟩) hS hAS (fun u => .int u.1 :: []) (fun _ => rfl) (fun u H locs hw hP9 hz9 hk9 hS => ?_)
  obtain ⟨r5, wS6⟩ := u
  try dsimp only at hw hP9
  have hB := hP9
  have hAF : ∀ x, H.size ≤ x → AS x := fun x h => hAF x (by omega)
  refine W.widen (k := cells) (n := slots) (Nat.le_refl _) (Nat.le_refl _) ?_
  refine lv_if_ne (tgt := 66) hx hb dX13_drift_36 (by decide) (fun c7 => ?_) (fun c7 => ?_)
  · have hw := hw.1 c7
    exact t_X13_drift_66 X hr hT hA0 hAm9  tS nS rS wS6 bS sS _ _ _ _ _ _ hw hB  hAS hAF hX hc hs hS (lv_sub hl [] rfl)
  · have hw := hw.2 c7
    refine lv_aload_n hx hb dX13_drift_39 rfl (lv_at hl 0 rfl) ?_
    refine lv_iload_n hx hb dX13_drift_40 rfl (lv_at hl 1 rfl) ?_
    refine lv_i2l (v := y1.toInt64) hx hb dX13_drift_41 rfl ?_
    refine lv_ldc2 (v := 65) hx hb hown (hU.use w_1560) dX13_drift_42 ?_
    refine lv_ldc2 (v := 90) hx hb hown (hU.use w_1561) dX13_drift_45 ?_
    refine g_after (st0 := [.long 90, .long 65, .long y1.toInt64, .ref y0]) (rest := [.ref y0]) (g_S X m_X13_13 (c_X13_in l D tc h0 sa y1.toInt64 65 90 _ hB  hw) hT hS hA0 dX13_drift_48 hl.1 rfl rfl ⟨Nat.le_of_ble_eq_true rfl, Nat.le_of_ble_eq_true rfl⟩ (Nat.le_of_ble_eq_true rfl) ⟨show cells + 0 ≤ b0 by omega, show slots + 0 ≤ s0 by omega⟩) hS (fun _ h => h.elim) (fun u => .int u :: [.ref y0]) (fun _ => rfl) (fun u H9 locs hw hP9 hz9 hk9 hS => ?_)
    obtain ⟨r8, rfl⟩ : ∃ z, z = u := ⟨_, rfl⟩
    try dsimp only at hw hP9
    have e9 : H9 = _ := hP9
    rw [e9] at hS ⊢
    refine W.widen (k := cells) (n := slots) (Nat.le_refl _) (Nat.le_refl _) ?_
    refine lv_if_ne (tgt := 58) hx hb dX13_drift_51 (by decide) (fun c9 => ?_) (fun c9 => ?_)
    · have hw := hw.1 c9
      refine lv_iconst (v := 0) hx hb dX13_drift_58 (by decide) ?_
      exact t_X13_drift_59 X hr hT hA0 hAm9  y0 y1 y2 y3 0 y0 tS nS rS wS6 bS sS _ _ _ _ _ _ hw hB hky0 hky0 hAS hAF hX hc hs hS (lv_sub hl [0, 1, 2, 3] rfl)
    · have hw := hw.2 c9
      refine lv_iconst (v := 1) hx hb dX13_drift_54 (by decide) ?_
      refine lv_goto (tgt := 59) hx hb dX13_drift_55 (by decide) ?_
      exact t_X13_drift_59 X hr hT hA0 hAm9  y0 y1 y2 y3 1 y0 tS nS rS wS6 bS sS _ _ _ _ _ _ hw hB hky0 hky0 hAS hAF hX hc hs hS (lv_sub hl [0, 1, 2, 3] rfl)
def wp_X13_drift_27 (post : UInt32 → (Nat → Nat) → (Nat → Nat) → (Nat → Nat → Nat) → Dt → Prop)   (y0 : Nat) (y1 : Int32) (y2 : Int32) (y3 : Int32) (z0 : Nat) (tS : Nat → Nat) (nS : Nat → Nat) (rS : Nat → Nat → Nat) (wS : Dt) (bS : Nat) (sS : Nat) : Prop := wp_X13_drift_32 post   y0 y1 y2 y3 1 z0 tS nS rS wS bS sS
set_option maxHeartbeats 4000000 in
set_option maxRecDepth 100000 in
theorem t_X13_drift_27 : ∀ {p : Program} {l : Launch} {e : Env} {s : State} {m : MethodId} {args : Array Value} {below : List Frame} {meth : Method} {c : Code} {D : va_G} {tc : Nat → ClassId} {h0 : Nat} {sa : Nat → Nat} {Am : Nat → Prop} {b0 s0 : Nat} {t0 : Nat → Nat} {post : UInt32 → (Nat → Nat) → (Nat → Nat) → (Nat → Nat → Nat) → Dt → Prop}   (X : Cx p c s m meth cX13_drift 7 RX13 D tc) (hr : meth.sig.returnType = (Option.some FieldType.float)) (hT : ST h0 sa s s.heap) (hA0 : ∀ q, Am q → h0 ≤ q) (hAm9 : ∀ x, s.heap.size ≤ x → Am x) , ∀ (y0 : Nat) (y1 : Int32) (y2 : Int32) (y3 : Int32) (z0 : Nat) (tS : Nat → Nat) (nS : Nat → Nat) (rS : Nat → Nat → Nat) (wS : Dt) (bS : Nat) (sS : Nat) (H : Heap) (locs : List Loc) (ls : Array Slot) (AS : Nat → Prop) (cells slots : Nat), wp_X13_drift_27 post   y0 y1 y2 y3 z0 tS nS rS wS bS sS → SB D tc (sa 3) AS tS nS rS wS H → (tS y0 = 7) → (tS z0 = 7) → (∀ x, AS x → Am x) → (∀ x, H.size ≤ x → AS x) → Ext t0 tS → cells + bS ≤ b0 → slots + sS ≤ s0 → va_S Am s.heap H locs → lv_has ls 7 [(0, .ref y0), (1, .int y1), (2, .int y2), (3, .int y3)] → W p l e (rm_X13_drift b0 s0) s m args below meth c H locs cells slots (MQ below (QB (fun u : UInt32 × (Nat → Nat) × (Nat → Nat) × (Nat → Nat → Nat) × Dt => post u.1 u.2.1 u.2.2.1 u.2.2.2.1 u.2.2.2.2) (fun (u : UInt32 × (Nat → Nat) × (Nat → Nat) × (Nat → Nat → Nat) × Dt) (H1 : Heap) => SB D tc (sa 3) Am u.2.1 u.2.2.1 u.2.2.2.1 u.2.2.2.2 H1 ∧ Ext t0 u.2.1) (fun u : UInt32 × (Nat → Nat) × (Nat → Nat) × (Nat → Nat → Nat) × Dt => some (.float u.1)) Am) args s (rm_X13_drift b0 s0).cells (rm_X13_drift b0 s0).slots Am) (F0 m 27 ls [.ref z0]) := by
  intro p l e s m args below meth c D tc h0 sa Am b0 s0 t0 post   X hr hT hA0 hAm9   y0 y1 y2 y3 z0 tS nS rS wS bS sS H locs ls AS cells slots hw hB hky0 hkz0 hAS hAF hX hc hs hS hl
  have hx := X.1
  have hb := X.2.1
  have hown := X.2.2.2.1
  have hU := X.2.2.2.2.1.1
  unfold wp_X13_drift_27 at hw
  refine lv_iconst (v := 1) hx hb dX13_drift_27 (by decide) ?_
  refine lv_goto (tgt := 32) hx hb dX13_drift_28 (by decide) ?_
  exact t_X13_drift_32 X hr hT hA0 hAm9  y0 y1 y2 y3 1 z0 tS nS rS wS bS sS _ _ _ _ _ _ hw hB hky0 hkz0 hAS hAF hX hc hs hS (lv_sub hl [0, 1, 2, 3] rfl)
def wp_X13_drift (post : UInt32 → (Nat → Nat) → (Nat → Nat) → (Nat → Nat → Nat) → Dt → Prop)  (tS : Nat → Nat) (nS : Nat → Nat) (rS : Nat → Nat → Nat) (wS : Dt) (bS : Nat) (sS : Nat) (x0 : Nat) (x1 : Int32) (x2 : Int32) (x3 : Int32) : Prop := wp_X13_begins (fun wS1 => wp_X13_isOf (fun r3 => (r3 = 0 → wp_X13_drift_27 post   x0 x1 x2 x3 x0 tS nS rS wS1 bS sS) ∧ (¬ r3 = 0 → wp_X13_isOf (fun r96 => (¬ r96 = 0 → wp_X13_drift_32 post   x0 x1 x2 x3 0 x0 tS nS rS wS1 bS sS) ∧ (r96 = 0 → wp_X13_drift_27 post   x0 x1 x2 x3 x0 tS nS rS wS1 bS sS)) tS nS rS wS1 (rS x0 4) x3)) tS nS rS wS1 (rS x0 4) x2) tS nS rS wS x0
set_option maxHeartbeats 4000000 in
set_option maxRecDepth 100000 in
theorem c_X13_drift (l : Launch) (D : va_G) (tc : Nat → ClassId) (h0 : Nat) (sa : Nat → Nat) (x0 : Nat) (x1 : Int32) (x2 : Int32) (x3 : Int32) (b0 s0 : Nat) {Am : Nat → Prop} (H0 : Heap) {tS nS : Nat → Nat} {rS : Nat → Nat → Nat} {wS : Dt} (hB : SB D tc (sa 3) Am tS nS rS wS H0) (hkx0 : tS x0 = 7) (hA0 : ∀ q, Am q → h0 ≤ q) (hAF : ∀ x, H0.size ≤ x → Am x) {post : UInt32 → (Nat → Nat) → (Nat → Nat) → (Nat → Nat → Nat) → Dt → Prop} (hw : wp_X13_drift post  tS nS rS wS b0 s0 x0 x1 x2 x3) : MB l yX13_drift cX13_drift 7 (Option.some FieldType.float) (rm_X13_drift b0 s0) Am [.ref x0, .int x1, .int x2, .int x3] D tc h0 sa H0 (fun u : UInt32 × (Nat → Nat) × (Nat → Nat) × (Nat → Nat → Nat) × Dt => post u.1 u.2.1 u.2.2.1 u.2.2.2.1 u.2.2.2.2) (fun (u : UInt32 × (Nat → Nat) × (Nat → Nat) × (Nat → Nat → Nat) × Dt) (H1 : Heap) => SB D tc (sa 3) Am u.2.1 u.2.2.1 u.2.2.2.1 u.2.2.2.2 H1 ∧ Ext tS u.2.1) (fun u : UInt32 × (Nat → Nat) × (Nat → Nat) × (Nat → Nat → Nat) × Dt => some (.float u.1)) := by
  refine MB.of RX13 [(0, .ref x0), (1, .int x1), (2, .int x2), (3, .int x3)] (by decide +kernel) rfl (Nat.le_of_ble_eq_true rfl) rfl ?_
  intro p e s m below meth c ls X hr hin hT hH hS hl
  subst hH
  have hx := X.1
  have hb := X.2.1
  have hown := X.2.2.2.1
  have hU := X.2.2.2.2.1.1
  unfold wp_X13_drift at hw
  obtain ⟨A, eA⟩ : ∃ z, z = Am := ⟨_, rfl⟩
  have hB : SB D tc (sa 3) A tS nS rS wS s.heap := by rw [eA]; exact hB
  have hAm9 := hAF
  have hAF : ∀ x, s.heap.size ≤ x → A x := by rw [eA]; exact hAF
  have hAS : ∀ x, A x → Am x := by rw [eA]; exact fun _ h => h
  have hX : Ext tS tS := Ext.rf
  obtain ⟨bS, ebS⟩ : ∃ z, z = b0 := ⟨_, rfl⟩
  obtain ⟨sS, esS⟩ : ∃ z, z = s0 := ⟨_, rfl⟩
  rw [← ebS, ← esS] at hw
  refine W_bud (b := bS) (s1 := sS) (B := b0) (S := s0) (show 0 + bS ≤ b0 by omega) (show 0 + sS ≤ s0 by omega) (fun cells slots hc hs => ?_)
  refine lv_aload_n hx hb dX13_drift_0 rfl (lv_at hl 0 rfl) ?_
  refine g_after (st0 := [.ref x0]) (rest := []) (g_V X m_X13_61 (c_X13_begins l D tc h0 sa x0 _ hB hkx0 (fun x h => hA0 x (hAS x h)) hw) (recv1 X.2.2.2.2.1 rfl (hB.at (k := 7) hkx0 rfl)) hT hS hA0 dX13_drift_1 hl.1 rfl rfl ⟨Nat.le_of_ble_eq_true rfl, Nat.le_of_ble_eq_true rfl⟩ (Nat.le_of_ble_eq_true rfl) ⟨show cells + 0 ≤ b0 by omega, show slots + 0 ≤ s0 by omega⟩) hS hAS (fun u => []) (fun _ => rfl) (fun u H locs hw hP9 hz9 hk9 hS => ?_)
  obtain ⟨wS1, rfl⟩ : ∃ z, z = u := ⟨_, rfl⟩
  try dsimp only at hw hP9
  have hB := hP9
  have hAF : ∀ x, H.size ≤ x → A x := fun x h => hAF x (by omega)
  refine W.widen (k := cells) (n := slots) (Nat.le_refl _) (Nat.le_refl _) ?_
  refine lv_aload_n hx hb dX13_drift_4 rfl (lv_at hl 0 rfl) ?_
  refine lv_aload_n hx hb dX13_drift_5 rfl (lv_at hl 0 rfl) ?_
  refine g_get X dX13_drift_6 f_X13_48 (hB.one (k := 7) hkx0 rfl) 0 (v := .ref (rS x0 4)) rfl rfl ?_
  have k2 : tS (rS x0 4) = 12 := (hB.wtk hkx0).2.2.2
  refine lv_iload_n hx hb dX13_drift_9 rfl (lv_at hl 2 rfl) ?_
  refine g_after (st0 := [.int x2, .ref (rS x0 4), .ref x0]) (rest := [.ref x0]) (g_S X m_X13_159 (c_X13_isOf l D tc h0 sa (rS x0 4) x2 _ hB (isL_of k2) hw) hT hS hA0 dX13_drift_10 hl.1 rfl rfl ⟨Nat.le_of_ble_eq_true rfl, Nat.le_of_ble_eq_true rfl⟩ (Nat.le_of_ble_eq_true rfl) ⟨show cells + 0 ≤ b0 by omega, show slots + 0 ≤ s0 by omega⟩) hS (fun _ h => h.elim) (fun u => .int u :: [.ref x0]) (fun _ => rfl) (fun u H9 locs hw hP9 hz9 hk9 hS => ?_)
  obtain ⟨r3, rfl⟩ : ∃ z, z = u := ⟨_, rfl⟩
  try dsimp only at hw hP9
  have e9 : H9 = _ := hP9
  rw [e9] at hS ⊢
  refine W.widen (k := cells) (n := slots) (Nat.le_refl _) (Nat.le_refl _) ?_
  refine lv_if_eq (tgt := 27) hx hb dX13_drift_13 (by decide) (fun c4 => ?_) (fun c4 => ?_)
  · have hw := hw.1 c4
    exact t_X13_drift_27 X hr hT hA0 hAm9  x0 x1 x2 x3 x0 tS nS rS wS1 bS sS _ _ _ _ _ _ hw hB hkx0 hkx0 hAS hAF hX hc hs hS (lv_sub hl [0, 1, 2, 3] rfl)
  · have hw := hw.2 c4
    refine lv_aload_n hx hb dX13_drift_16 rfl (lv_at hl 0 rfl) ?_
    refine g_get X dX13_drift_17 f_X13_48 (hB.one (k := 7) hkx0 rfl) 0 (v := .ref (rS x0 4)) rfl rfl ?_
    have k95 : tS (rS x0 4) = 12 := (hB.wtk hkx0).2.2.2
    refine lv_iload_n hx hb dX13_drift_20 rfl (lv_at hl 3 rfl) ?_
    refine g_after (st0 := [.int x3, .ref (rS x0 4), .ref x0]) (rest := [.ref x0]) (g_S X m_X13_159 (c_X13_isOf l D tc h0 sa (rS x0 4) x3 _ hB (isL_of k95) hw) hT hS hA0 dX13_drift_21 hl.1 rfl rfl ⟨Nat.le_of_ble_eq_true rfl, Nat.le_of_ble_eq_true rfl⟩ (Nat.le_of_ble_eq_true rfl) ⟨show cells + 0 ≤ b0 by omega, show slots + 0 ≤ s0 by omega⟩) hS (fun _ h => h.elim) (fun u => .int u :: [.ref x0]) (fun _ => rfl) (fun u H9 locs hw hP9 hz9 hk9 hS => ?_)
    obtain ⟨r96, rfl⟩ : ∃ z, z = u := ⟨_, rfl⟩
    try dsimp only at hw hP9
    have e9 : H9 = _ := hP9
    rw [e9] at hS ⊢
    refine W.widen (k := cells) (n := slots) (Nat.le_refl _) (Nat.le_refl _) ?_
    refine lv_if_ne (tgt := 31) hx hb dX13_drift_24 (by decide) (fun c97 => ?_) (fun c97 => ?_)
    · have hw := hw.1 c97
      refine lv_iconst (v := 0) hx hb dX13_drift_31 (by decide) ?_
      exact t_X13_drift_32 X hr hT hA0 hAm9  x0 x1 x2 x3 0 x0 tS nS rS wS1 bS sS _ _ _ _ _ _ hw hB hkx0 hkx0 hAS hAF hX hc hs hS (lv_sub hl [0, 1, 2, 3] rfl)
    · have hw := hw.2 c97
      exact t_X13_drift_27 X hr hT hA0 hAm9  x0 x1 x2 x3 x0 tS nS rS wS1 bS sS _ _ _ _ _ _ hw hB hkx0 hkx0 hAS hAF hX hc hs hS (lv_sub hl [0, 1, 2, 3] rfl)
abbrev rm_X13_save (b0 s0 : Nat) : Room := { frames := 8, cells := b0, slots := s0, locals := 214 }
def wp_X13_save_23 (post : Int32 → (Nat → Nat) → (Nat → Nat) → (Nat → Nat → Nat) → Dt → Prop)   (y0 : Nat) (z0 : Int32) (z1 : Nat) (tS : Nat → Nat) (nS : Nat → Nat) (rS : Nat → Nat → Nat) (wS : Dt) (bS : Nat) (sS : Nat) : Prop := wp_X13_fails (fun r4 wS5 => (r4 = 0 → ∃ b9 s10 : Nat, b9 ≤ bS ∧ s10 ≤ sS ∧ (wp_X12_copy (fun r13 tS14 nS15 rS16 wS17 => nS15 (rS y0 2) < 400 ∧ (1 ≤ (bS - b9) ∧ ((2 * (nS15 (rS y0 2)) + 10) ≤ (sS - s10) ∧ (∀ nS24 : Nat → Nat, nS24 = va_up nS15 (rS y0 2) (nS15 (rS y0 2) + 1) → (∀ rS25 : Nat → Nat → Nat, rS25 = va_up rS16 (rS y0 2) (va_up (rS16 (rS y0 2)) (nS15 (rS y0 2)) r13) → (∀ wS26 : Dt, wS26 = up2 wS17 (rS y0 2) 0 (wS17 (rS y0 2) 0 + 1) → (post ((nI (nS24 (rS25 y0 2))) - 1) tS14 nS24 rS25 wS26))))))) tS nS rS wS5 b9 s10 (rS y0 1))) ∧ (¬ r4 = 0 → post (-1) tS nS rS wS5)) tS nS rS wS z1 z0 1
set_option maxHeartbeats 4000000 in
set_option maxRecDepth 100000 in
theorem t_X13_save_23 : ∀ {p : Program} {l : Launch} {e : Env} {s : State} {m : MethodId} {args : Array Value} {below : List Frame} {meth : Method} {c : Code} {D : va_G} {tc : Nat → ClassId} {h0 : Nat} {sa : Nat → Nat} {Am : Nat → Prop} {b0 s0 : Nat} {t0 : Nat → Nat} {post : Int32 → (Nat → Nat) → (Nat → Nat) → (Nat → Nat → Nat) → Dt → Prop}   (X : Cx p c s m meth cX13_save 1 RX13 D tc) (hr : meth.sig.returnType = (Option.some FieldType.int)) (hT : ST h0 sa s s.heap) (hA0 : ∀ q, Am q → h0 ≤ q) (hAm9 : ∀ x, s.heap.size ≤ x → Am x) , ∀ (y0 : Nat) (z0 : Int32) (z1 : Nat) (tS : Nat → Nat) (nS : Nat → Nat) (rS : Nat → Nat → Nat) (wS : Dt) (bS : Nat) (sS : Nat) (H : Heap) (locs : List Loc) (ls : Array Slot) (AS : Nat → Prop) (cells slots : Nat), wp_X13_save_23 post   y0 z0 z1 tS nS rS wS bS sS → SB D tc (sa 3) AS tS nS rS wS H → (tS y0 = 7) → (tS z1 = 7) → (∀ x, AS x → Am x) → (∀ x, H.size ≤ x → AS x) → Ext t0 tS → cells + bS ≤ b0 → slots + sS ≤ s0 → va_S Am s.heap H locs → lv_has ls 1 [(0, .ref y0)] → W p l e (rm_X13_save b0 s0) s m args below meth c H locs cells slots (MQ below (QB (fun u : Int32 × (Nat → Nat) × (Nat → Nat) × (Nat → Nat → Nat) × Dt => post u.1 u.2.1 u.2.2.1 u.2.2.2.1 u.2.2.2.2) (fun (u : Int32 × (Nat → Nat) × (Nat → Nat) × (Nat → Nat → Nat) × Dt) (H1 : Heap) => SB D tc (sa 3) Am u.2.1 u.2.2.1 u.2.2.2.1 u.2.2.2.2 H1 ∧ Ext t0 u.2.1) (fun u : Int32 × (Nat → Nat) × (Nat → Nat) × (Nat → Nat → Nat) × Dt => some (.int u.1)) Am) args s (rm_X13_save b0 s0).cells (rm_X13_save b0 s0).slots Am) (F0 m 23 ls [.int z0, .ref z1]) := by
  intro p l e s m args below meth c D tc h0 sa Am b0 s0 t0 post   X hr hT hA0 hAm9   y0 z0 z1 tS nS rS wS bS sS H locs ls AS cells slots hw hB hky0 hkz1 hAS hAF hX hc hs hS hl
  have hx := X.1
  have hb := X.2.1
  have hown := X.2.2.2.1
  have hU := X.2.2.2.2.1.1
  unfold wp_X13_save_23 at hw
  refine lv_iconst (v := 1) hx hb dX13_save_23 (by decide) ?_
  refine g_after (st0 := [.int 1, .int z0, .ref z1]) (rest := []) (g_V X m_X13_57 (c_X13_fails l D tc h0 sa z1 z0 1 _ hB hkz1 (fun x h => hA0 x (hAS x h)) hw) (recv1 X.2.2.2.2.1 rfl (hB.at (k := 7) hkz1 rfl)) hT hS hA0 dX13_save_24 hl.1 rfl rfl ⟨Nat.le_of_ble_eq_true rfl, Nat.le_of_ble_eq_true rfl⟩ (Nat.le_of_ble_eq_true rfl) ⟨show cells + 0 ≤ b0 by omega, show slots + 0 ≤ s0 by omega⟩) hS hAS (fun u => .int u.1 :: []) (fun _ => rfl) (fun u H locs hw hP9 hz9 hk9 hS => ?_)
  obtain ⟨r4, wS5⟩ := u
  try dsimp only at hw hP9
  have hB := hP9
  have hAF : ∀ x, H.size ≤ x → AS x := fun x h => hAF x (by omega)
  refine W.widen (k := cells) (n := slots) (Nat.le_refl _) (Nat.le_refl _) ?_
  refine lv_if_eq (tgt := 32) hx hb dX13_save_27 (by decide) (fun c6 => ?_) (fun c6 => ?_)
  · have hw := hw.1 c6
    refine lv_aload_n hx hb dX13_save_32 rfl (lv_at hl 0 rfl) ?_
    refine g_get X dX13_save_33 f_X13_41 (hB.one (k := 7) hky0 rfl) 0 (v := .ref (rS y0 2)) rfl rfl ?_
    have k7 : tS (rS y0 2) = 10 := (hB.wtk hky0).2.1
    refine lv_aload_n hx hb dX13_save_36 rfl (lv_at hl 0 rfl) ?_
    refine g_get X dX13_save_37 f_X13_34 (hB.one (k := 7) hky0 rfl) 0 (v := .ref (rS y0 1)) rfl rfl ?_
    have k8 : tS (rS y0 1) = 4 := (hB.wtk hky0).1
    obtain ⟨b9, s10, o11, o12, hw⟩ := hw
    refine g_after (st0 := [.ref (rS y0 1), .ref (rS y0 2)]) (rest := [.ref (rS y0 2)]) (g_V X m_X13_305 (c_X12_copy l D tc h0 sa (rS y0 1) b9 s10 _ hB k8 (fun x h => hA0 x (hAS x h)) hAF hw) (recv1 X.2.2.2.2.1 rfl (hB.at (k := 4) k8 rfl)) hT hS hA0 dX13_save_40 hl.1 rfl rfl ⟨Nat.le_of_ble_eq_true rfl, Nat.le_of_ble_eq_true rfl⟩ (Nat.le_of_ble_eq_true rfl) ⟨show cells + b9 ≤ b0 by omega, show slots + s10 ≤ s0 by omega⟩) hS hAS (fun u => .ref u.1 :: [.ref (rS y0 2)]) (fun _ => rfl) (fun u H locs hw hP9 hz9 hk9 hS => ?_)
    obtain ⟨r13, tS14, nS15, rS16, wS17⟩ := u
    try dsimp only at hw hP9
    obtain ⟨hB, hX9, hkr⟩ := hP9
    have hAF : ∀ x, H.size ≤ x → AS x := fun x h => hAF x (by omega)
    have hX := hX.trans hX9
    refine W_bud (b := (bS - b9)) (s1 := (sS - s10)) (B := b0) (S := s0) (show (cells + b9) + (bS - b9) ≤ b0 by omega) (show (slots + s10) + (sS - s10) ≤ s0 by omega) (fun cells slots hc hs => ?_)
    have k18 : tS14 y0 = 7 := hX9.to hky0
    have k19 : tS14 (rS y0 2) = 10 := hX9.to k7
    have k20 := hkr
    obtain ⟨fs9, hat9⟩ := hB.lat (isL_of k19)
    obtain ⟨o21, hw⟩ := hw
    obtain ⟨o22, hw⟩ := hw
    obtain ⟨o23, hw⟩ := hw
    refine g_after5 (st0 := [.ref r13, .ref (rS y0 2)]) (rest := []) (g_F X mf_X13_142 (c_add l D tc h0 sa _ (rS y0 2) r13 hB (isL_of k19) (by rw [k19, k20]; rfl) o21 (fun x h => hA0 x (hAS x h)) hAF) rfl hat9 hT hS hA0 dX13_save_43 hl.1 rfl rfl ⟨Nat.le_of_ble_eq_true rfl, Nat.le_of_ble_eq_true rfl⟩ (Nat.le_of_ble_eq_true rfl) ⟨show cells + 1 ≤ b0 by omega, show slots + (2 * (nS15 (rS y0 2)) + 10) ≤ s0 by omega⟩) hS hAS (fun u => .int 1 :: []) (fun _ => rfl) (fun u H locs hu hP9 hz9 hk9 hS => ?_)
    have hB := hP9
    have hAF : ∀ x, H.size ≤ x → AS x := fun x h => hAF x (by omega)
    refine W_bud (b := ((bS - b9) - 1)) (s1 := ((sS - s10) - (2 * (nS15 (rS y0 2)) + 10))) (B := b0) (S := s0) (show (cells + 1) + ((bS - b9) - 1) ≤ b0 by omega) (show (slots + (2 * (nS15 (rS y0 2)) + 10)) + ((sS - s10) - (2 * (nS15 (rS y0 2)) + 10)) ≤ s0 by omega) (fun cells slots hc hs => ?_)
    obtain ⟨nS24, enS24⟩ : ∃ z : Nat → Nat, z = va_up nS15 (rS y0 2) (nS15 (rS y0 2) + 1) := ⟨_, rfl⟩
    rw [← enS24] at hB
    have hw := hw nS24 enS24
    obtain ⟨rS25, erS25⟩ : ∃ z : Nat → Nat → Nat, z = va_up rS16 (rS y0 2) (va_up (rS16 (rS y0 2)) (nS15 (rS y0 2)) r13) := ⟨_, rfl⟩
    rw [← erS25] at hB
    have hw := hw rS25 erS25
    obtain ⟨wS26, ewS26⟩ : ∃ z : Dt, z = up2 wS17 (rS y0 2) 0 (wS17 (rS y0 2) 0 + 1) := ⟨_, rfl⟩
    rw [← ewS26] at hB
    have hw := hw wS26 ewS26
    refine lv_pop hx hb dX13_save_48 rfl ?_
    refine lv_aload_n hx hb dX13_save_49 rfl (lv_at hl 0 rfl) ?_
    refine g_get X dX13_save_50 f_X13_41 (hB.one (k := 7) k18 rfl) 0 (v := .ref (rS25 y0 2)) rfl rfl ?_
    have k27 : tS14 (rS25 y0 2) = 10 := (hB.wtk k18).2.1
    obtain ⟨fs9, hat9⟩ := hB.lat (isL_of k27)
    refine g_after5 (st0 := [.ref (rS25 y0 2)]) (rest := []) (g_F X mf_X13_7 (c_size l D tc h0 sa _ (rS25 y0 2) hB (isL_of k27)) rfl hat9 hT hS hA0 dX13_save_53 hl.1 rfl rfl ⟨Nat.le_of_ble_eq_true rfl, Nat.le_of_ble_eq_true rfl⟩ (Nat.le_of_ble_eq_true rfl) ⟨show cells + 0 ≤ b0 by omega, show slots + 0 ≤ s0 by omega⟩) hS (fun _ h => h.elim) (fun u => .int (nI (nS24 (rS25 y0 2))) :: []) (fun _ => rfl) (fun u H9 locs hu hP9 hz9 hk9 hS => ?_)
    have e9 : H9 = _ := hP9
    rw [e9] at hS ⊢
    refine W.widen (k := cells) (n := slots) (Nat.le_refl _) (Nat.le_refl _) ?_
    refine lv_iconst (v := 1) hx hb dX13_save_58 (by decide) ?_
    refine lv_isub hx hb dX13_save_59 ?_
    exact e_i X hr dX13_save_60 hS (((nI (nS24 (rS25 y0 2))) - 1), tS14, nS24, rS25, wS26) rfl hw ⟨hB.regs hAS, hX⟩ ⟨show cells ≤ b0 by omega, show slots ≤ s0 by omega⟩
  · have hw := hw.2 c6
    refine lv_iconst (v := (-1)) hx hb dX13_save_30 (by decide) ?_
    exact e_i X hr dX13_save_31 hS ((-1), tS, nS, rS, wS5) rfl hw ⟨hB.regs hAS, hX⟩ ⟨show cells ≤ b0 by omega, show slots ≤ s0 by omega⟩
def wp_X13_save (post : Int32 → (Nat → Nat) → (Nat → Nat) → (Nat → Nat → Nat) → Dt → Prop)  (tS : Nat → Nat) (nS : Nat → Nat) (rS : Nat → Nat → Nat) (wS : Dt) (bS : Nat) (sS : Nat) (x0 : Nat) : Prop := wp_X13_begins (fun wS1 => (¬ (nI (nS (rS x0 2))) = 3 → wp_X13_save_23 post   x0 0 x0 tS nS rS wS1 bS sS) ∧ ((nI (nS (rS x0 2))) = 3 → wp_X13_save_23 post   x0 1 x0 tS nS rS wS1 bS sS)) tS nS rS wS x0
set_option maxHeartbeats 4000000 in
set_option maxRecDepth 100000 in
theorem c_X13_save (l : Launch) (D : va_G) (tc : Nat → ClassId) (h0 : Nat) (sa : Nat → Nat) (x0 : Nat) (b0 s0 : Nat) {Am : Nat → Prop} (H0 : Heap) {tS nS : Nat → Nat} {rS : Nat → Nat → Nat} {wS : Dt} (hB : SB D tc (sa 3) Am tS nS rS wS H0) (hkx0 : tS x0 = 7) (hA0 : ∀ q, Am q → h0 ≤ q) (hAF : ∀ x, H0.size ≤ x → Am x) {post : Int32 → (Nat → Nat) → (Nat → Nat) → (Nat → Nat → Nat) → Dt → Prop} (hw : wp_X13_save post  tS nS rS wS b0 s0 x0) : MB l yX13_save cX13_save 1 (Option.some FieldType.int) (rm_X13_save b0 s0) Am [.ref x0] D tc h0 sa H0 (fun u : Int32 × (Nat → Nat) × (Nat → Nat) × (Nat → Nat → Nat) × Dt => post u.1 u.2.1 u.2.2.1 u.2.2.2.1 u.2.2.2.2) (fun (u : Int32 × (Nat → Nat) × (Nat → Nat) × (Nat → Nat → Nat) × Dt) (H1 : Heap) => SB D tc (sa 3) Am u.2.1 u.2.2.1 u.2.2.2.1 u.2.2.2.2 H1 ∧ Ext tS u.2.1) (fun u : Int32 × (Nat → Nat) × (Nat → Nat) × (Nat → Nat → Nat) × Dt => some (.int u.1)) := by
  refine MB.of RX13 [(0, .ref x0)] (by decide +kernel) rfl (Nat.le_of_ble_eq_true rfl) rfl ?_
  intro p e s m below meth c ls X hr hin hT hH hS hl
  subst hH
  have hx := X.1
  have hb := X.2.1
  have hown := X.2.2.2.1
  have hU := X.2.2.2.2.1.1
  unfold wp_X13_save at hw
  obtain ⟨A, eA⟩ : ∃ z, z = Am := ⟨_, rfl⟩
  have hB : SB D tc (sa 3) A tS nS rS wS s.heap := by rw [eA]; exact hB
  have hAm9 := hAF
  have hAF : ∀ x, s.heap.size ≤ x → A x := by rw [eA]; exact hAF
  have hAS : ∀ x, A x → Am x := by rw [eA]; exact fun _ h => h
  have hX : Ext tS tS := Ext.rf
  obtain ⟨bS, ebS⟩ : ∃ z, z = b0 := ⟨_, rfl⟩
  obtain ⟨sS, esS⟩ : ∃ z, z = s0 := ⟨_, rfl⟩
  rw [← ebS, ← esS] at hw
  refine W_bud (b := bS) (s1 := sS) (B := b0) (S := s0) (show 0 + bS ≤ b0 by omega) (show 0 + sS ≤ s0 by omega) (fun cells slots hc hs => ?_)
  refine lv_aload_n hx hb dX13_save_0 rfl (lv_at hl 0 rfl) ?_
  refine g_after (st0 := [.ref x0]) (rest := []) (g_V X m_X13_61 (c_X13_begins l D tc h0 sa x0 _ hB hkx0 (fun x h => hA0 x (hAS x h)) hw) (recv1 X.2.2.2.2.1 rfl (hB.at (k := 7) hkx0 rfl)) hT hS hA0 dX13_save_1 hl.1 rfl rfl ⟨Nat.le_of_ble_eq_true rfl, Nat.le_of_ble_eq_true rfl⟩ (Nat.le_of_ble_eq_true rfl) ⟨show cells + 0 ≤ b0 by omega, show slots + 0 ≤ s0 by omega⟩) hS hAS (fun u => []) (fun _ => rfl) (fun u H locs hw hP9 hz9 hk9 hS => ?_)
  obtain ⟨wS1, rfl⟩ : ∃ z, z = u := ⟨_, rfl⟩
  try dsimp only at hw hP9
  have hB := hP9
  have hAF : ∀ x, H.size ≤ x → A x := fun x h => hAF x (by omega)
  refine W.widen (k := cells) (n := slots) (Nat.le_refl _) (Nat.le_refl _) ?_
  refine lv_aload_n hx hb dX13_save_4 rfl (lv_at hl 0 rfl) ?_
  refine lv_aload_n hx hb dX13_save_5 rfl (lv_at hl 0 rfl) ?_
  refine g_get X dX13_save_6 f_X13_41 (hB.one (k := 7) hkx0 rfl) 0 (v := .ref (rS x0 2)) rfl rfl ?_
  have k2 : tS (rS x0 2) = 10 := (hB.wtk hkx0).2.1
  obtain ⟨fs9, hat9⟩ := hB.lat (isL_of k2)
  refine g_after5 (st0 := [.ref (rS x0 2), .ref x0]) (rest := [.ref x0]) (g_F X mf_X13_7 (c_size l D tc h0 sa _ (rS x0 2) hB (isL_of k2)) rfl hat9 hT hS hA0 dX13_save_9 hl.1 rfl rfl ⟨Nat.le_of_ble_eq_true rfl, Nat.le_of_ble_eq_true rfl⟩ (Nat.le_of_ble_eq_true rfl) ⟨show cells + 0 ≤ b0 by omega, show slots + 0 ≤ s0 by omega⟩) hS (fun _ h => h.elim) (fun u => .int (nI (nS (rS x0 2))) :: [.ref x0]) (fun _ => rfl) (fun u H9 locs hu hP9 hz9 hk9 hS => ?_)
  have e9 : H9 = _ := hP9
  rw [e9] at hS ⊢
  refine W.widen (k := cells) (n := slots) (Nat.le_refl _) (Nat.le_refl _) ?_
  refine lv_iconst (v := 3) hx hb dX13_save_14 (by decide) ?_
  refine lv_icmp_ne (tgt := 22) hx hb dX13_save_15 (by decide) (fun c3 => ?_) (fun c3 => ?_)
  · have hw := hw.1 c3
    refine lv_iconst (v := 0) hx hb dX13_save_22 (by decide) ?_
    exact t_X13_save_23 X hr hT hA0 hAm9  x0 0 x0 tS nS rS wS1 bS sS _ _ _ _ _ _ hw hB hkx0 hkx0 hAS hAF hX hc hs hS (lv_sub hl [0] rfl)
  · have hw := hw.2 c3
    refine lv_iconst (v := 1) hx hb dX13_save_18 (by decide) ?_
    refine lv_goto (tgt := 23) hx hb dX13_save_19 (by decide) ?_
    exact t_X13_save_23 X hr hT hA0 hAm9  x0 1 x0 tS nS rS wS1 bS sS _ _ _ _ _ _ hw hB hkx0 hkx0 hAS hAF hX hc hs hS (lv_sub hl [0] rfl)
abbrev rm_X13_load (b0 s0 : Nat) : Room := { frames := 8, cells := b0, slots := s0, locals := 214 }
def wp_X13_load_21 (post : Int64 → (Nat → Nat) → (Nat → Nat) → (Nat → Nat → Nat) → Dt → Prop)   (y0 : Nat) (y1 : Int32) (z0 : Int32) (z1 : Nat) (tS : Nat → Nat) (nS : Nat → Nat) (rS : Nat → Nat → Nat) (wS : Dt) (bS : Nat) (sS : Nat) : Prop := wp_X13_fails (fun r5 wS6 => (r5 = 0 → vp_in y1 (nS (rS y0 2)) ∧ (∃ b11 s12 : Nat, b11 ≤ bS ∧ s12 ≤ sS ∧ (wp_X12_copy (fun r15 tS16 nS17 rS18 wS19 => ∀ rS23 : Nat → Nat → Nat, rS23 = va_up rS18 y0 (va_up (rS18 y0) 1 r15) → (∃ b25 s26 : Nat, b25 ≤ (bS - b11) ∧ s26 ≤ (sS - s12) ∧ (wp_X12_sum (fun r29 tS30 nS31 rS32 wS33 => post r29 tS30 nS31 rS32 wS33) tS16 nS17 rS23 wS19 b25 s26 (rS23 y0 1)))) tS nS rS wS6 b11 s12 (rS (rS y0 2) y1.toNatClampNeg)))) ∧ (¬ r5 = 0 → post (-1) tS nS rS wS6)) tS nS rS wS z1 z0 1
set_option maxHeartbeats 4000000 in
set_option maxRecDepth 100000 in
theorem t_X13_load_21 : ∀ {p : Program} {l : Launch} {e : Env} {s : State} {m : MethodId} {args : Array Value} {below : List Frame} {meth : Method} {c : Code} {D : va_G} {tc : Nat → ClassId} {h0 : Nat} {sa : Nat → Nat} {Am : Nat → Prop} {b0 s0 : Nat} {t0 : Nat → Nat} {post : Int64 → (Nat → Nat) → (Nat → Nat) → (Nat → Nat → Nat) → Dt → Prop}   (X : Cx p c s m meth cX13_load 2 RX13 D tc) (hr : meth.sig.returnType = (Option.some FieldType.long)) (hT : ST h0 sa s s.heap) (hA0 : ∀ q, Am q → h0 ≤ q) (hAm9 : ∀ x, s.heap.size ≤ x → Am x) , ∀ (y0 : Nat) (y1 : Int32) (z0 : Int32) (z1 : Nat) (tS : Nat → Nat) (nS : Nat → Nat) (rS : Nat → Nat → Nat) (wS : Dt) (bS : Nat) (sS : Nat) (H : Heap) (locs : List Loc) (ls : Array Slot) (AS : Nat → Prop) (cells slots : Nat), wp_X13_load_21 post   y0 y1 z0 z1 tS nS rS wS bS sS → SB D tc (sa 3) AS tS nS rS wS H → (tS y0 = 7) → (tS z1 = 7) → (∀ x, AS x → Am x) → (∀ x, H.size ≤ x → AS x) → Ext t0 tS → cells + bS ≤ b0 → slots + sS ≤ s0 → va_S Am s.heap H locs → lv_has ls 2 [(0, .ref y0), (1, .int y1)] → W p l e (rm_X13_load b0 s0) s m args below meth c H locs cells slots (MQ below (QB (fun u : Int64 × (Nat → Nat) × (Nat → Nat) × (Nat → Nat → Nat) × Dt => post u.1 u.2.1 u.2.2.1 u.2.2.2.1 u.2.2.2.2) (fun (u : Int64 × (Nat → Nat) × (Nat → Nat) × (Nat → Nat → Nat) × Dt) (H1 : Heap) => SB D tc (sa 3) Am u.2.1 u.2.2.1 u.2.2.2.1 u.2.2.2.2 H1 ∧ Ext t0 u.2.1) (fun u : Int64 × (Nat → Nat) × (Nat → Nat) × (Nat → Nat → Nat) × Dt => some (.long u.1)) Am) args s (rm_X13_load b0 s0).cells (rm_X13_load b0 s0).slots Am) (F0 m 21 ls [.int z0, .ref z1]) := by
  intro p l e s m args below meth c D tc h0 sa Am b0 s0 t0 post   X hr hT hA0 hAm9   y0 y1 z0 z1 tS nS rS wS bS sS H locs ls AS cells slots hw hB hky0 hkz1 hAS hAF hX hc hs hS hl
  have hx := X.1
  have hb := X.2.1
  have hown := X.2.2.2.1
  have hU := X.2.2.2.2.1.1
  unfold wp_X13_load_21 at hw
  refine lv_iconst (v := 1) hx hb dX13_load_21 (by decide) ?_
  refine g_after (st0 := [.int 1, .int z0, .ref z1]) (rest := []) (g_V X m_X13_57 (c_X13_fails l D tc h0 sa z1 z0 1 _ hB hkz1 (fun x h => hA0 x (hAS x h)) hw) (recv1 X.2.2.2.2.1 rfl (hB.at (k := 7) hkz1 rfl)) hT hS hA0 dX13_load_22 hl.1 rfl rfl ⟨Nat.le_of_ble_eq_true rfl, Nat.le_of_ble_eq_true rfl⟩ (Nat.le_of_ble_eq_true rfl) ⟨show cells + 0 ≤ b0 by omega, show slots + 0 ≤ s0 by omega⟩) hS hAS (fun u => .int u.1 :: []) (fun _ => rfl) (fun u H locs hw hP9 hz9 hk9 hS => ?_)
  obtain ⟨r5, wS6⟩ := u
  try dsimp only at hw hP9
  have hB := hP9
  have hAF : ∀ x, H.size ≤ x → AS x := fun x h => hAF x (by omega)
  refine W.widen (k := cells) (n := slots) (Nat.le_refl _) (Nat.le_refl _) ?_
  refine lv_if_eq (tgt := 32) hx hb dX13_load_25 (by decide) (fun c7 => ?_) (fun c7 => ?_)
  · have hw := hw.1 c7
    refine lv_aload_n hx hb dX13_load_32 rfl (lv_at hl 0 rfl) ?_
    refine lv_aload_n hx hb dX13_load_33 rfl (lv_at hl 0 rfl) ?_
    refine g_get X dX13_load_34 f_X13_41 (hB.one (k := 7) hky0 rfl) 0 (v := .ref (rS y0 2)) rfl rfl ?_
    have k8 : tS (rS y0 2) = 10 := (hB.wtk hky0).2.1
    refine lv_iload_n hx hb dX13_load_37 rfl (lv_at hl 1 rfl) ?_
    obtain ⟨fs9, hat9⟩ := hB.lat (isL_of k8)
    obtain ⟨o9, hw⟩ := hw
    refine g_after5 (st0 := [.int y1, .ref (rS y0 2), .ref y0]) (rest := [.ref y0]) (g_F X mf_X13_163 (c_get l D tc h0 sa _ (rS y0 2) hB (isL_of k8) o9) rfl hat9 hT hS hA0 dX13_load_38 hl.1 rfl rfl ⟨Nat.le_of_ble_eq_true rfl, Nat.le_of_ble_eq_true rfl⟩ (Nat.le_of_ble_eq_true rfl) ⟨show cells + 0 ≤ b0 by omega, show slots + 0 ≤ s0 by omega⟩) hS (fun _ h => h.elim) (fun u => .ref (rS (rS y0 2) y1.toNatClampNeg) :: [.ref y0]) (fun _ => rfl) (fun u H9 locs hu hP9 hz9 hk9 hS => ?_)
    have e9 : H9 = _ := hP9
    rw [e9] at hS ⊢
    refine W.widen (k := cells) (n := slots) (Nat.le_refl _) (Nat.le_refl _) ?_
    have k10 : tS (rS (rS y0 2) y1.toNatClampNeg) = 4 := hB.elt k8 (lt10 o9)
    refine x_cast X w_1154 rfl (hB.at (k := 4) k10 rfl) dX13_load_43 ?_
    obtain ⟨b11, s12, o13, o14, hw⟩ := hw
    refine g_after (st0 := [.ref (rS (rS y0 2) y1.toNatClampNeg), .ref y0]) (rest := [.ref y0]) (g_V X m_X13_305 (c_X12_copy l D tc h0 sa (rS (rS y0 2) y1.toNatClampNeg) b11 s12 _ hB k10 (fun x h => hA0 x (hAS x h)) hAF hw) (recv1 X.2.2.2.2.1 rfl (hB.at (k := 4) k10 rfl)) hT hS hA0 dX13_load_46 hl.1 rfl rfl ⟨Nat.le_of_ble_eq_true rfl, Nat.le_of_ble_eq_true rfl⟩ (Nat.le_of_ble_eq_true rfl) ⟨show cells + b11 ≤ b0 by omega, show slots + s12 ≤ s0 by omega⟩) hS hAS (fun u => .ref u.1 :: [.ref y0]) (fun _ => rfl) (fun u H locs hw hP9 hz9 hk9 hS => ?_)
    obtain ⟨r15, tS16, nS17, rS18, wS19⟩ := u
    try dsimp only at hw hP9
    obtain ⟨hB, hX9, hkr⟩ := hP9
    have hAF : ∀ x, H.size ≤ x → AS x := fun x h => hAF x (by omega)
    have hX := hX.trans hX9
    refine W_bud (b := (bS - b11)) (s1 := (sS - s12)) (B := b0) (S := s0) (show (cells + b11) + (bS - b11) ≤ b0 by omega) (show (slots + s12) + (sS - s12) ≤ s0 by omega) (fun cells slots hc hs => ?_)
    have k20 : tS16 y0 = 7 := hX9.to hky0
    have k21 : tS16 y0 = 7 := hX9.to hky0
    have k22 := hkr
    refine x_putw X dX13_load_49 f_X13_34 hB k21 k22 (hB.lt (by rw [k21]; decide)).2 hS hAS rfl rfl (fun H locs hB oq hz hS => ?_)
    have hAF : ∀ x, H.size ≤ x → AS x := fun x h => hAF x (Nat.le_trans (sz_of oq (hB.lt (by rw [k21]; decide)).1) h)
    obtain ⟨rS23, erS23⟩ : ∃ z : Nat → Nat → Nat, z = va_up rS18 y0 (va_up (rS18 y0) 1 r15) := ⟨_, rfl⟩
    rw [← erS23] at hB
    have hw := hw rS23 erS23
    refine lv_aload_n hx hb dX13_load_52 rfl (lv_at hl 0 rfl) ?_
    refine g_get X dX13_load_53 f_X13_34 (hB.one (k := 7) k20 rfl) 0 (v := .ref (rS23 y0 1)) rfl rfl ?_
    have k24 : tS16 (rS23 y0 1) = 4 := (hB.wtk k20).1
    obtain ⟨b25, s26, o27, o28, hw⟩ := hw
    refine g_after (st0 := [.ref (rS23 y0 1)]) (rest := []) (g_V X m_X13_310 (c_X12_sum l D tc h0 sa (rS23 y0 1) b25 s26 _ hB k24 (fun x h => hA0 x (hAS x h)) hAF hw) (recv1 X.2.2.2.2.1 rfl (hB.at (k := 4) k24 rfl)) hT hS hA0 dX13_load_56 hl.1 rfl rfl ⟨Nat.le_of_ble_eq_true rfl, Nat.le_of_ble_eq_true rfl⟩ (Nat.le_of_ble_eq_true rfl) ⟨show cells + b25 ≤ b0 by omega, show slots + s26 ≤ s0 by omega⟩) hS hAS (fun u => .long u.1 :: []) (fun _ => rfl) (fun u H locs hw hP9 hz9 hk9 hS => ?_)
    obtain ⟨r29, tS30, nS31, rS32, wS33⟩ := u
    try dsimp only at hw hP9
    obtain ⟨hB, hX9⟩ := hP9
    have hAF : ∀ x, H.size ≤ x → AS x := fun x h => hAF x (by omega)
    have hX := hX.trans hX9
    refine W_bud (b := ((bS - b11) - b25)) (s1 := ((sS - s12) - s26)) (B := b0) (S := s0) (show (cells + b25) + ((bS - b11) - b25) ≤ b0 by omega) (show (slots + s26) + ((sS - s12) - s26) ≤ s0 by omega) (fun cells slots hc hs => ?_)
    have k34 : tS30 y0 = 7 := hX9.to k20
    exact e_l X hr dX13_load_59 hS (r29, tS30, nS31, rS32, wS33) rfl hw ⟨hB.regs hAS, hX⟩ ⟨show cells ≤ b0 by omega, show slots ≤ s0 by omega⟩
  · have hw := hw.2 c7
    refine lv_ldc2 (v := -1) hx hb hown (hU.use w_2002) dX13_load_28 ?_
    exact e_l X hr dX13_load_31 hS (-1, tS, nS, rS, wS6) rfl hw ⟨hB.regs hAS, hX⟩ ⟨show cells ≤ b0 by omega, show slots ≤ s0 by omega⟩
def wp_X13_load (post : Int64 → (Nat → Nat) → (Nat → Nat) → (Nat → Nat → Nat) → Dt → Prop)  (tS : Nat → Nat) (nS : Nat → Nat) (rS : Nat → Nat → Nat) (wS : Dt) (bS : Nat) (sS : Nat) (x0 : Nat) (x1 : Int32) : Prop := wp_X13_begins (fun wS1 => wp_X13_isOf (fun r3 => (¬ r3 = 0 → wp_X13_load_21 post   x0 x1 0 x0 tS nS rS wS1 bS sS) ∧ (r3 = 0 → wp_X13_load_21 post   x0 x1 1 x0 tS nS rS wS1 bS sS)) tS nS rS wS1 (rS x0 2) x1) tS nS rS wS x0
set_option maxHeartbeats 4000000 in
set_option maxRecDepth 100000 in
theorem c_X13_load (l : Launch) (D : va_G) (tc : Nat → ClassId) (h0 : Nat) (sa : Nat → Nat) (x0 : Nat) (x1 : Int32) (b0 s0 : Nat) {Am : Nat → Prop} (H0 : Heap) {tS nS : Nat → Nat} {rS : Nat → Nat → Nat} {wS : Dt} (hB : SB D tc (sa 3) Am tS nS rS wS H0) (hkx0 : tS x0 = 7) (hA0 : ∀ q, Am q → h0 ≤ q) (hAF : ∀ x, H0.size ≤ x → Am x) {post : Int64 → (Nat → Nat) → (Nat → Nat) → (Nat → Nat → Nat) → Dt → Prop} (hw : wp_X13_load post  tS nS rS wS b0 s0 x0 x1) : MB l yX13_load cX13_load 2 (Option.some FieldType.long) (rm_X13_load b0 s0) Am [.ref x0, .int x1] D tc h0 sa H0 (fun u : Int64 × (Nat → Nat) × (Nat → Nat) × (Nat → Nat → Nat) × Dt => post u.1 u.2.1 u.2.2.1 u.2.2.2.1 u.2.2.2.2) (fun (u : Int64 × (Nat → Nat) × (Nat → Nat) × (Nat → Nat → Nat) × Dt) (H1 : Heap) => SB D tc (sa 3) Am u.2.1 u.2.2.1 u.2.2.2.1 u.2.2.2.2 H1 ∧ Ext tS u.2.1) (fun u : Int64 × (Nat → Nat) × (Nat → Nat) × (Nat → Nat → Nat) × Dt => some (.long u.1)) := by
  refine MB.of RX13 [(0, .ref x0), (1, .int x1)] (by decide +kernel) rfl (Nat.le_of_ble_eq_true rfl) rfl ?_
  intro p e s m below meth c ls X hr hin hT hH hS hl
  subst hH
  have hx := X.1
  have hb := X.2.1
  have hown := X.2.2.2.1
  have hU := X.2.2.2.2.1.1
  unfold wp_X13_load at hw
  obtain ⟨A, eA⟩ : ∃ z, z = Am := ⟨_, rfl⟩
  have hB : SB D tc (sa 3) A tS nS rS wS s.heap := by rw [eA]; exact hB
  have hAm9 := hAF
  have hAF : ∀ x, s.heap.size ≤ x → A x := by rw [eA]; exact hAF
  have hAS : ∀ x, A x → Am x := by rw [eA]; exact fun _ h => h
  have hX : Ext tS tS := Ext.rf
  obtain ⟨bS, ebS⟩ : ∃ z, z = b0 := ⟨_, rfl⟩
  obtain ⟨sS, esS⟩ : ∃ z, z = s0 := ⟨_, rfl⟩
  rw [← ebS, ← esS] at hw
  refine W_bud (b := bS) (s1 := sS) (B := b0) (S := s0) (show 0 + bS ≤ b0 by omega) (show 0 + sS ≤ s0 by omega) (fun cells slots hc hs => ?_)
  refine lv_aload_n hx hb dX13_load_0 rfl (lv_at hl 0 rfl) ?_
  refine g_after (st0 := [.ref x0]) (rest := []) (g_V X m_X13_61 (c_X13_begins l D tc h0 sa x0 _ hB hkx0 (fun x h => hA0 x (hAS x h)) hw) (recv1 X.2.2.2.2.1 rfl (hB.at (k := 7) hkx0 rfl)) hT hS hA0 dX13_load_1 hl.1 rfl rfl ⟨Nat.le_of_ble_eq_true rfl, Nat.le_of_ble_eq_true rfl⟩ (Nat.le_of_ble_eq_true rfl) ⟨show cells + 0 ≤ b0 by omega, show slots + 0 ≤ s0 by omega⟩) hS hAS (fun u => []) (fun _ => rfl) (fun u H locs hw hP9 hz9 hk9 hS => ?_)
  obtain ⟨wS1, rfl⟩ : ∃ z, z = u := ⟨_, rfl⟩
  try dsimp only at hw hP9
  have hB := hP9
  have hAF : ∀ x, H.size ≤ x → A x := fun x h => hAF x (by omega)
  refine W.widen (k := cells) (n := slots) (Nat.le_refl _) (Nat.le_refl _) ?_
  refine lv_aload_n hx hb dX13_load_4 rfl (lv_at hl 0 rfl) ?_
  refine lv_aload_n hx hb dX13_load_5 rfl (lv_at hl 0 rfl) ?_
  refine g_get X dX13_load_6 f_X13_41 (hB.one (k := 7) hkx0 rfl) 0 (v := .ref (rS x0 2)) rfl rfl ?_
  have k2 : tS (rS x0 2) = 10 := (hB.wtk hkx0).2.1
  refine lv_iload_n hx hb dX13_load_9 rfl (lv_at hl 1 rfl) ?_
  refine g_after (st0 := [.int x1, .ref (rS x0 2), .ref x0]) (rest := [.ref x0]) (g_S X m_X13_159 (c_X13_isOf l D tc h0 sa (rS x0 2) x1 _ hB (isL_of k2) hw) hT hS hA0 dX13_load_10 hl.1 rfl rfl ⟨Nat.le_of_ble_eq_true rfl, Nat.le_of_ble_eq_true rfl⟩ (Nat.le_of_ble_eq_true rfl) ⟨show cells + 0 ≤ b0 by omega, show slots + 0 ≤ s0 by omega⟩) hS (fun _ h => h.elim) (fun u => .int u :: [.ref x0]) (fun _ => rfl) (fun u H9 locs hw hP9 hz9 hk9 hS => ?_)
  obtain ⟨r3, rfl⟩ : ∃ z, z = u := ⟨_, rfl⟩
  try dsimp only at hw hP9
  have e9 : H9 = _ := hP9
  rw [e9] at hS ⊢
  refine W.widen (k := cells) (n := slots) (Nat.le_refl _) (Nat.le_refl _) ?_
  refine lv_if_ne (tgt := 20) hx hb dX13_load_13 (by decide) (fun c4 => ?_) (fun c4 => ?_)
  · have hw := hw.1 c4
    refine lv_iconst (v := 0) hx hb dX13_load_20 (by decide) ?_
    exact t_X13_load_21 X hr hT hA0 hAm9  x0 x1 0 x0 tS nS rS wS1 bS sS _ _ _ _ _ _ hw hB hkx0 hkx0 hAS hAF hX hc hs hS (lv_sub hl [0, 1] rfl)
  · have hw := hw.2 c4
    refine lv_iconst (v := 1) hx hb dX13_load_16 (by decide) ?_
    refine lv_goto (tgt := 21) hx hb dX13_load_17 (by decide) ?_
    exact t_X13_load_21 X hr hT hA0 hAm9  x0 x1 1 x0 tS nS rS wS1 bS sS _ _ _ _ _ _ hw hB hkx0 hkx0 hAS hAF hX hc hs hS (lv_sub hl [0, 1] rfl)
