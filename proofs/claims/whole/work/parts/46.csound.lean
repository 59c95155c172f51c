/-! THE CLASS: isSound -/
theorem lg_eq0 {x y : Int64} (h : lg_cmp x y = 0) : x = y := by
  unfold lg_cmp at h
  split at h
  · exact absurd h (by decide)
  · split at h
    · assumption
    · exact absurd h (by decide)
theorem lg_ne0 {x y : Int64} (h : ¬ lg_cmp x y = 0) : ¬ x = y := fun e => h (by
  subst e
  unfold lg_cmp
  rw [if_neg (fun z => absurd z (by rw [gt_iff_lt, Int64.lt_iff_toInt_lt]; omega)), if_pos rfl])
/-- the spare world -/
def SPR (D : va_G) (tc : Nat → ClassId) (A : Nat → Prop) (sp : Option Nat) (pw : Dt) (H : Heap) : Prop := (sp = none → pw = cw0) ∧ ∀ a, sp = some a → ∃ pd9 : Nat → Nat, pd9 0 = a ∧ Blk D tc A (shW pd9) pd9 pw H
theorem SPR.kept {D : va_G} {tc : Nat → ClassId} {A : Nat → Prop} {sp : Option Nat} {pw : Dt} {H H1 : Heap} (h : SPR D tc A sp pw H) (hq : ∀ q, q < H.size → A q → H1[q]? = H[q]?) : SPR D tc A sp pw H1 := ⟨h.1, fun a ha => by
  obtain ⟨pd9, h1, h2⟩ := h.2 a ha
  exact ⟨pd9, h1, h2.kept hq⟩⟩
theorem SPR.mono {D : va_G} {tc : Nat → ClassId} {A B : Nat → Prop} {sp : Option Nat} {pw : Dt} {H : Heap} (h : SPR D tc A sp pw H) (hq : ∀ q, q < H.size → A q → B q) : SPR D tc B sp pw H := ⟨h.1, fun a ha => by
  obtain ⟨pd9, h1, h2⟩ := h.2 a ha
  exact ⟨pd9, h1, h2.mono fun i c hc hA => hq _ (h2.lt hc) hA⟩⟩
def wp_spare (post : Int32 → Dt → Prop) (w pw : Dt) : Prop := wp_X7_copyFrom (fun cw => wp_X7_sumUp (fun s1 => wp_X7_sumUp (fun s2 => post (if s1 = s2 then 1 else 0) cw) w) cw) pw w
def wp_saves (post : Int32 → Dt → Prop) (w pw : Dt) (sums : Nat → Int64) (sw : Nat → Dt) : Nat → Nat → Prop
  | 0, _ => wp_spare post w pw
  | d + 1, k => wp_X7_sumUp (fun s1 => (s1 = sums k → wp_saves post w pw sums sw d (k + 1)) ∧ (¬ s1 = sums k → post 0 pw)) (sw k)
abbrev rm_X8_areSavesTrue : Room := { frames := 4, cells := 45, slots := 456, locals := 93 }
set_option maxHeartbeats 4000000 in
theorem t_as_66 {p : Program} {l : Launch} {e : Env} {s : State} {m : MethodId} {args : Array Value} {below : List Frame} {meth : Method} {c : Code} {D : va_G} {tc : Nat → ClassId} {h0 : Nat} {sa : Nat → Nat} {ns np nf : Nat} {sd pd fd : Nat → Nat → Nat} {sums : Nat → Int64} {ar ad : Nat → Nat} {Ar Ap A RR : Nat → Prop} {r w pw : Dt} {post : Int32 → Dt → Prop} (X : Cx p c s m meth cX8_areSavesTrue 3 RX8 D tc) (hr : meth.sig.returnType = some .boolean) (hT : ST h0 sa s s.heap) (hA0 : ∀ q, RR q → h0 ≤ q) (hRr : ∀ x, Ar x → RR x) (hRp : ∀ x, Ap x → RR x) (hRF : ∀ x, s.heap.size ≤ x → RR x) (hDr : ∀ x, Ar x → x < s.heap.size) (hDa : ∀ x, A x → x < s.heap.size) (hDw : ∀ x, A x → ¬ Ar x) (hDp : ∀ x, Ap x → ¬ Ar x ∧ ¬ A x) {H : Heap} {locs : List Loc} {ls : Array Slot} {cells slots : Nat} {a9 : Nat} (hBr : Blk D tc Ar (shR (ad 0) (some a9) ns np nf sd pd fd sums ar) ar r H) (hBw : Blk D tc A (shW ad) ad w H) (hsp : ∃ pd9 : Nat → Nat, pd9 0 = a9 ∧ Blk D tc (fun x => Ap x ∨ s.heap.size ≤ x) (shW pd9) pd9 pw H) (hcs : cells ≤ rm_X8_areSavesTrue.cells ∧ slots ≤ rm_X8_areSavesTrue.slots) (hw : wp_spare post w pw) (hS : va_S RR s.heap H locs) (hl : lv_has ls 3 [(0, .ref (ar 0))]) : W p l e rm_X8_areSavesTrue s m args below meth c H locs cells slots (MQ below (QB (S := Int32 × Option Nat × Dt) (fun u => post u.1 u.2.2) (fun u H1 => Blk D tc Ar (shR (ad 0) u.2.1 ns np nf sd pd fd sums ar) ar r H1 ∧ SPR D tc (fun x => Ap x ∨ s.heap.size ≤ x) u.2.1 u.2.2 H1) (fun u => some (.int u.1)) RR) args s rm_X8_areSavesTrue.cells rm_X8_areSavesTrue.slots RR) (F0 m 66 ls []) := by
  have hx := X.1
  have hb := X.2.1
  have hown := X.2.2.2.1
  have hU := X.2.2.2.2.1.1
  unfold wp_spare at hw
  obtain ⟨pd9, hp0, hBp⟩ := hsp
  have hBp := hBp.mono (B := fun x => (Ap x ∨ s.heap.size ≤ x) ∧ ¬ Ar x ∧ ¬ A x) (fun i c hc h => ⟨h, h.elim (fun z => hDp _ z) (fun z => ⟨fun y => by have := hDr _ y; omega, fun y => by have := hDa _ y; omega⟩)⟩)
  refine lv_aload_n hx hb dX8_areSavesTrue_66 rfl (lv_at hl 0 rfl) ?_
  refine g_get X dX8_areSavesTrue_67 f_X8_346 hBr 0 (v := .ref a9) rfl rfl ?_
  refine lv_aload_n hx hb dX8_areSavesTrue_70 rfl (lv_at hl 0 rfl) ?_
  refine g_get X dX8_areSavesTrue_71 f_X8_12 hBr 0 (v := .ref (ad 0)) rfl rfl ?_
  refine W.eq (g2 := F0 m 74 ls [.ref (ad 0), .ref (pd9 0)]) (by rw [hp0]) ?_
  refine g_after (st0 := [.ref (ad 0), .ref (pd9 0)]) (rest := []) (g_V X m_X8_299 (c_X7_copyFrom l D tc h0 sa _ hBp hBw (fun x h => h.2.2) (fun x h => hA0 x (h.1.elim (hRp x) (hRF x))) hw) (hBp.recv X 0 rfl (q := (RX7, TX7, 6)) rfl) hT hS hA0 dX8_areSavesTrue_74 hl.1 rfl rfl ⟨Nat.le_of_ble_eq_true rfl, Nat.le_of_ble_eq_true rfl⟩ (Nat.le_of_ble_eq_true rfl) ⟨hcs.1, hcs.2⟩) hS (fun x h => h.1.elim (hRp x) (hRF x)) (fun u => []) (fun _ => rfl) (fun cw H9 locs hw hP9 hz9 hk9 hS => ?_)
  have hBp : Blk D tc (fun x => (Ap x ∨ s.heap.size ≤ x) ∧ ¬ Ar x ∧ ¬ A x) (shW pd9) pd9 cw H9 := hP9
  have hBr := hBr.kept (fun x h1 h2 => hk9 x h1 (fun e => e.2.1 h2))
  have hBw := hBw.kept (fun x h1 h2 => hk9 x h1 (fun e => e.2.2 h2))
  refine lv_aload_n hx hb dX8_areSavesTrue_77 rfl (lv_at hl 0 rfl) ?_
  refine g_get X dX8_areSavesTrue_78 f_X8_346 hBr 0 (v := .ref a9) rfl rfl ?_
  refine W.eq (g2 := F0 m 81 ls [.ref (pd9 0)]) (by rw [hp0]) ?_
  refine g_after (st0 := .ref (pd9 0) :: []) (rest := []) (g_V X m_X8_303 (c_X7_sumUp l D tc h0 sa _ hBp hw) (hBp.recv X 0 rfl (q := (RX7, TX7, 6)) rfl) hT hS hA0 dX8_areSavesTrue_81 hl.1 rfl rfl ⟨Nat.le_of_ble_eq_true rfl, Nat.le_of_ble_eq_true rfl⟩ (Nat.le_of_ble_eq_true rfl) ⟨hcs.1, hcs.2⟩) hS (fun _ h => h.elim) (fun u => .long u :: []) (fun _ => rfl) (fun s1 H9 locs hw hP9 hz9 hk9 hS => ?_)
  have e9 : H9 = _ := hP9
  rw [e9] at hS ⊢
  refine lv_aload_n hx hb dX8_areSavesTrue_84 rfl (lv_at hl 0 rfl) ?_
  refine g_get X dX8_areSavesTrue_85 f_X8_12 hBr 0 (v := .ref (ad 0)) rfl rfl ?_
  refine g_after (st0 := .ref (ad 0) :: [.long s1]) (rest := [.long s1]) (g_V X m_X8_303 (c_X7_sumUp l D tc h0 sa _ hBw hw) (hBw.recv X 0 rfl (q := (RX7, TX7, 6)) rfl) hT hS hA0 dX8_areSavesTrue_88 hl.1 rfl rfl ⟨Nat.le_of_ble_eq_true rfl, Nat.le_of_ble_eq_true rfl⟩ (Nat.le_of_ble_eq_true rfl) ⟨hcs.1, hcs.2⟩) hS (fun _ h => h.elim) (fun u => .long u :: [.long s1]) (fun _ => rfl) (fun s2 H9 locs hw hP9 hz9 hk9 hS => ?_)
  have e9 : H9 = _ := hP9
  rw [e9] at hS ⊢
  refine W.lcmp hx hb dX8_areSavesTrue_91 ?_
  by_cases hc : s1 = s2
  · rw [if_pos hc] at hw
    have hz : lg_cmp s1 s2 = 0 := by subst hc; exact Classical.byContradiction fun z => lg_ne0 z rfl
    refine lv_if_ne (tgt := 99) hx hb dX8_areSavesTrue_92 (by decide) (fun hc0 => absurd hz hc0) (fun _ => ?_)
    refine lv_iconst (v := 1) hx hb dX8_areSavesTrue_95 (by decide) ?_
    refine lv_goto (tgt := 100) hx hb dX8_areSavesTrue_96 (by decide) ?_
    exact e_z X hr rfl dX8_areSavesTrue_100 hS (1, some a9, cw) rfl hw ⟨hBr, ⟨(fun h => (nomatch h)), fun a ha => ⟨pd9, hp0.trans (Option.some.inj ha), hBp.mono (fun _ _ _ h => h.1)⟩⟩⟩ hcs
  · rw [if_neg hc] at hw
    have hz : ¬ lg_cmp s1 s2 = 0 := fun z => hc (lg_eq0 z)
    refine lv_if_ne (tgt := 99) hx hb dX8_areSavesTrue_92 (by decide) (fun _ => ?_) (fun hc0 => absurd hc0 hz)
    refine lv_iconst (v := 0) hx hb dX8_areSavesTrue_99 (by decide) ?_
    exact e_z X hr rfl dX8_areSavesTrue_100 hS (0, some a9, cw) rfl hw ⟨hBr, ⟨(fun h => (nomatch h)), fun a ha => ⟨pd9, hp0.trans (Option.some.inj ha), hBp.mono (fun _ _ _ h => h.1)⟩⟩⟩ hcs
set_option maxHeartbeats 4000000 in
theorem t_as_48 {p : Program} {l : Launch} {e : Env} {s : State} {m : MethodId} {args : Array Value} {below : List Frame} {meth : Method} {c : Code} {D : va_G} {tc : Nat → ClassId} {h0 : Nat} {sa : Nat → Nat} {ns np nf : Nat} {sd pd fd : Nat → Nat → Nat} {sums : Nat → Int64} {ar ad : Nat → Nat} {Ar Ap A RR : Nat → Prop} {r w pw : Dt} {post : Int32 → Dt → Prop} (X : Cx p c s m meth cX8_areSavesTrue 3 RX8 D tc) (hr : meth.sig.returnType = some .boolean) (hT : ST h0 sa s s.heap) (hA0 : ∀ q, RR q → h0 ≤ q) (hRr : ∀ x, Ar x → RR x) (hRp : ∀ x, Ap x → RR x) (hRF : ∀ x, s.heap.size ≤ x → RR x) (hDr : ∀ x, Ar x → x < s.heap.size) (hDa : ∀ x, A x → x < s.heap.size) (hDw : ∀ x, A x → ¬ Ar x) (hDp : ∀ x, Ap x → ¬ Ar x ∧ ¬ A x) {H : Heap} {locs : List Loc} {ls : Array Slot} {cells slots : Nat} {sp : Option Nat} (hBr : Blk D tc Ar (shR (ad 0) sp ns np nf sd pd fd sums ar) ar r H) (hBw : Blk D tc A (shW ad) ad w H) (hsp : SPR D tc (fun x => Ap x ∨ s.heap.size ≤ x) sp pw H) (hcs : cells + 45 ≤ rm_X8_areSavesTrue.cells ∧ slots + 456 ≤ rm_X8_areSavesTrue.slots) (hw : wp_spare post w pw) (hS : va_S RR s.heap H locs) (hl : lv_has ls 3 [(0, .ref (ar 0))]) : W p l e rm_X8_areSavesTrue s m args below meth c H locs cells slots (MQ below (QB (S := Int32 × Option Nat × Dt) (fun u => post u.1 u.2.2) (fun u H1 => Blk D tc Ar (shR (ad 0) u.2.1 ns np nf sd pd fd sums ar) ar r H1 ∧ SPR D tc (fun x => Ap x ∨ s.heap.size ≤ x) u.2.1 u.2.2 H1) (fun u => some (.int u.1)) RR) args s rm_X8_areSavesTrue.cells rm_X8_areSavesTrue.slots RR) (F0 m 48 ls []) := by
  have hx := X.1
  have hb := X.2.1
  have hown := X.2.2.2.1
  have hU := X.2.2.2.2.1.1
  refine lv_aload_n hx hb dX8_areSavesTrue_48 rfl (lv_at hl 0 rfl) ?_
  refine g_get X dX8_areSavesTrue_49 f_X8_346 hBr 0 (v := va_rf sp) rfl rfl ?_
  refine lv_ifnonnullO (tgt := 66) hx hb dX8_areSavesTrue_52 (by decide) (fun hc => ?_) (fun hc => ?_)
  · obtain ⟨a9, ha9⟩ : ∃ a9, sp = some a9 := by cases sp with
      | none => exact absurd rfl hc
      | some a9 => exact ⟨a9, rfl⟩
    subst ha9
    exact t_as_66 X hr hT hA0 hRr hRp hRF hDr hDa hDw hDp hBr hBw (hsp.2 a9 rfl) ⟨by omega, by omega⟩ hw hS hl
  · subst hc
    have hpw := hsp.1 rfl
    subst hpw
    refine lv_aload_n hx hb dX8_areSavesTrue_55 rfl (lv_at hl 0 rfl) ?_
    have hBr := hBr.mono (B := fun x => Ar x ∧ x < H.size) (fun i c hc h => ⟨h, hBr.lt hc⟩)
    have hBw := hBw.mono (B := fun x => A x ∧ x < H.size) (fun i c hc h => ⟨h, hBw.lt hc⟩)
    obtain ⟨zh, hzh⟩ : ∃ z : Nat, z = H.size := ⟨_, rfl⟩
    rw [← hzh] at hBr hBw
    have hsz := hS.1
    refine x_new (A := RR) X nw_X8_9 (fs := [.null, .null, .null, .null, .null, .int 0]) (fun j hj => by rcases (show j = 0 ∨ j = 1 ∨ j = 2 ∨ j = 3 ∨ j = 4 ∨ j = 5 by omega) with e | e | e | e | e | e <;> subst e <;> rfl) hS hRF ⟨by omega, by omega⟩ dX8_areSavesTrue_56 (fun qw H hqqw rw9 hAq hz9 hqz o1 hS => ?_)
    have hBr := hBr.kept (fun x h1 _ => o1 x h1)
    have hBw := hBw.kept (fun x h1 _ => o1 x h1)
    obtain ⟨zz, hzz⟩ : ∃ z : Nat, z = H.size := ⟨_, rfl⟩
    refine lv_dup hx hb dX8_areSavesTrue_59 rfl ?_
    refine g_after (st0 := .ref qw :: [.ref qw, .ref (ar 0)]) (rest := [.ref qw, .ref (ar 0)]) (g_IN X m_X8_11 (c_k7 l D tc h0 sa _ qw rw9 (hA0 _ hAq) (fun x h => hA0 x (hRF x (by omega)))) hT hS hA0 dX8_areSavesTrue_60 hl.1 rfl rfl ⟨Nat.le_of_ble_eq_true rfl, Nat.le_of_ble_eq_true rfl⟩ (Nat.le_of_ble_eq_true rfl) ⟨by show cells + 1 + 44 ≤ _; omega, by show slots + 6 + 450 ≤ _; omega⟩) hS (fun x h => h.elim (fun e => e ▸ hAq) (fun h => hRF x (by omega))) (fun u => [.ref qw, .ref (ar 0)]) (fun _ => rfl) (fun bd H locs hu hP9 hz8 hk9 hS => ?_)
    obtain ⟨hbd0, hBn⟩ := hP9
    have hBr := hBr.kept (fun x h1 h2 => hk9 x h1 (fun e => by have := h2.2; omega))
    have hBw := hBw.kept (fun x h1 h2 => hk9 x h1 (fun e => by have := h2.2; omega))
    have hBn := hBn.mono (B := fun x => zh ≤ x) (fun i c hc hA => (show bd i = qw ∨ zz ≤ bd i by rw [hzz]; exact hA).elim (fun e => by omega) (fun e => by omega))
    refine g_putv X dX8_areSavesTrue_63 f_X8_346 (hBr.mono (B := RR) (fun _ _ _ h => hRr _ h.1)) hS 0 rfl (v := .ref qw) (Nat.le_of_ble_eq_true rfl) rfl rfl (fun H locs he oq hz hS => ?_)
    have har0 := (hBr.in (i := 0) rfl).2
    have hBr := hBr.put (sh' := shR (ad 0) (some qw) ns np nf sd pd fd sums ar) (w' := r) 0 rfl rfl he oq (fun j hj => by
    match j, hj with
    | 0, hj => exact absurd rfl hj
    | 1, _ => rfl
    | 2, _ => rfl
    | 3, _ => rfl
    | 4, _ => rfl
    | _ + 5, _ => rfl) (fun _ _ => rfl)
    have hBn := hBn.kept1 oq (fun h => by omega)
    have hBw := hBw.kept1 oq (fun h => hDw _ h.1 (hBr.in (i := 0) rfl).1)
    exact t_as_66 (a9 := qw) X hr hT hA0 hRr hRp hRF hDr hDa hDw hDp (hBr.mono (fun _ _ _ h => h.1)) (hBw.mono (fun _ _ _ h => h.1)) ⟨bd, hbd0, hBn.mono (fun _ _ _ h => Or.inr (by omega))⟩ ⟨by show cells + 1 + 44 ≤ _; omega, by show slots + 6 + 450 ≤ _; omega⟩ hw hS hl
set_option maxHeartbeats 4000000 in
theorem c_X8_areSavesTrue (l : Launch) (D : va_G) (tc : Nat → ClassId) (h0 : Nat) (sa : Nat → Nat) (H0 : Heap) {ad : Nat → Nat} {A : Nat → Prop} {w : Dt} (hBw : Blk D tc A (shW ad) ad w H0) {sp : Option Nat} {ns np nf : Nat} {sd pd fd : Nat → Nat → Nat} {sums : Nat → Int64} {ar : Nat → Nat} {Ar Ap : Nat → Prop} {As : Nat → Nat → Prop} {r pw : Dt} {sw : Nat → Dt} (hBr : Blk D tc Ar (shR (ad 0) sp ns np nf sd pd fd sums ar) ar r H0) (hBs : ∀ k : Nat, k < ns → Blk D tc (As k) (shW (sd k)) (sd k) (sw k) H0) (hsp : SPR D tc Ap sp pw H0) (hns : r 0 3 = nI ns) (hn3 : ns ≤ 3) (hA0 : ∀ q, (Ar q ∨ Ap q ∨ H0.size ≤ q) → h0 ≤ q) (hDw : ∀ x, A x → ¬ Ar x) (hDp : ∀ x, Ap x → ¬ Ar x ∧ ¬ A x) {post : Int32 → Dt → Prop} (hw : wp_saves post w pw sums sw ns 0) : MB (S := Int32 × Option Nat × Dt) l yX8_areSavesTrue cX8_areSavesTrue 3 (Option.some FieldType.boolean) rm_X8_areSavesTrue (fun x : Nat => Ar x ∨ Ap x ∨ H0.size ≤ x) [.ref (ar 0)] D tc h0 sa H0 (fun u => post u.1 u.2.2) (fun u H1 => Blk D tc (fun x => Ar x ∧ x < H0.size) (shR (ad 0) u.2.1 ns np nf sd pd fd sums ar) ar r H1 ∧ SPR D tc (fun x => (Ap x ∧ x < H0.size) ∨ H0.size ≤ x) u.2.1 u.2.2 H1) (fun u => some (.int u.1)) := by
  refine MB.of RX8 [(0, .ref (ar 0))] (by decide +kernel) rfl (Nat.le_of_ble_eq_true rfl) rfl ?_
  intro p e s m below meth c ls X hr hin hT hH hS hl
  subst hH
  have hx := X.1
  have hb := X.2.1
  have hown := X.2.2.2.1
  have hU := X.2.2.2.2.1.1
  have hBr := hBr.mono (B := fun x => Ar x ∧ x < s.heap.size) (fun i c hc h => ⟨h, hBr.lt hc⟩)
  have hBw := hBw.mono (B := fun x => A x ∧ x < s.heap.size) (fun i c hc h => ⟨h, hBw.lt hc⟩)
  have hsp := hsp.mono (B := fun x => Ap x ∧ x < s.heap.size) (fun q h1 h2 => ⟨h2, h1⟩)
  refine lv_iconst (v := 0) hx hb dX8_areSavesTrue_0 (by decide) ?_
  refine lv_istore_n (lv' := [(1, .int 0), (0, .ref (ar 0))]) hx hb dX8_areSavesTrue_1 rfl hl (by decide) rfl (fun ls hl => ?_)
  refine lv_iload_n hx hb dX8_areSavesTrue_2 rfl (lv_at hl 0 rfl) ?_
  refine lv_aload_n hx hb dX8_areSavesTrue_3 rfl (lv_at hl 1 rfl) ?_
  refine g_get X dX8_areSavesTrue_4 f_X8_296 hBr 0 (v := .int (r 0 3)) rfl rfl ?_
  by_cases hk0 : ns = 0
  · have hc : r 0 3 ≤ 0 := by rw [hns, hk0]; decide
    subst hk0
    refine lv_icmp_ge (tgt := 48) hx hb dX8_areSavesTrue_7 (by decide) (fun _ => ?_) (fun hc0 => absurd hc hc0)
    exact t_as_48 X hr hT hA0 (fun x h => Or.inl h.1) (fun x h => Or.inr (Or.inl h.1)) (fun x h => Or.inr (Or.inr h)) (fun x h => h.2) (fun x h => h.2) (fun x h g => hDw x h.1 g.1) (fun x h => ⟨fun g => (hDp x h.1).1 g.1, fun g => (hDp x h.1).2 g.1⟩) hBr hBw (hsp.mono (fun q h1 h2 => Or.inl h2)) ⟨Nat.le_of_ble_eq_true rfl, Nat.le_of_ble_eq_true rfl⟩ hw hS (lv_sub hl [1] rfl)
  · have hlk : 0 < ns := by omega
    have hc : ¬ r 0 3 ≤ 0 := by rw [hns]; exact nI_ge (a := 0) hlk (by omega)
    refine lv_icmp_ge (tgt := 48) hx hb dX8_areSavesTrue_7 (by decide) (fun hc0 => absurd hc0 hc) (fun _ => ?_)
    refine lv_iload_n hx hb dX8_areSavesTrue_10 rfl (lv_at hl 0 rfl) ?_
    refine lv_iconst (v := 3) hx hb dX8_areSavesTrue_11 (by decide) ?_
    refine lv_icmp_ge (tgt := 48) hx hb dX8_areSavesTrue_12 (by decide) (fun hc0 => absurd hc0 (show ¬ (3 : Int32) ≤ 0 by decide)) (fun _ => ?_)
    refine lv_aload_n hx hb dX8_areSavesTrue_15 rfl (lv_at hl 1 rfl) ?_
    refine g_get X dX8_areSavesTrue_16 f_X8_16 hBr 0 (v := .ref (ar 1)) rfl rfl ?_
    refine lv_iload_n hx hb dX8_areSavesTrue_19 rfl (lv_at hl 0 rfl) ?_
    refine g_aaldQ X dX8_areSavesTrue_20 hBr 1 rfl rfl (show vp_in 0 3 by unfold vp_in; decide) (v := .ref (sd 0 0)) (by show va_rf (if 0 < ns then some (sd 0 0) else none) = _; rw [if_pos hlk]; rfl) ?_
    refine lv_astore_n (lv' := [(2, .ref (sd 0 0)), (1, .int 0), (0, .ref (ar 0))]) hx hb dX8_areSavesTrue_21 rfl hl (by decide) rfl (fun ls hl => ?_)
    refine lv_aload_n hx hb dX8_areSavesTrue_22 rfl (lv_at hl 0 rfl) ?_
    refine lv_ifnull hx hb dX8_areSavesTrue_23 ?_
    refine lv_aload_n hx hb dX8_areSavesTrue_26 rfl (lv_at hl 0 rfl) ?_
    have hBs0 := hBs 0 hlk
    rw [show ns = (ns - 1) + 1 by omega] at hw
    unfold wp_saves at hw
    refine g_after (st0 := [.ref (sd 0 0)]) (rest := []) (g_V X m_X8_303 (c_X7_sumUp l D tc h0 sa _ hBs0 hw) (hBs0.recv X 0 rfl (q := (RX7, TX7, 6)) rfl) hT hS hA0 dX8_areSavesTrue_27 hl.1 rfl rfl ⟨Nat.le_of_ble_eq_true rfl, Nat.le_of_ble_eq_true rfl⟩ (Nat.le_of_ble_eq_true rfl) ⟨Nat.le_of_ble_eq_true rfl, Nat.le_of_ble_eq_true rfl⟩) hS (fun _ h => h.elim) (fun u => [.long u]) (fun _ => rfl) (fun s1 H9 locs hw hP9 hz9 hk9 hS => ?_)
    have e9 : H9 = _ := hP9
    rw [e9] at hS ⊢
    refine lv_aload_n hx hb dX8_areSavesTrue_30 rfl (lv_at hl 2 rfl) ?_
    refine g_get X dX8_areSavesTrue_31 f_X8_20 hBr 0 (v := .ref (ar 2)) rfl rfl ?_
    refine lv_iload_n hx hb dX8_areSavesTrue_34 rfl (lv_at hl 1 rfl) ?_
    refine g_lald X dX8_areSavesTrue_35 hBr 2 rfl (show vp_in 0 3 by unfold vp_in; decide) (k := 0) (by decide) ?_
    refine W.lcmp hx hb dX8_areSavesTrue_36 ?_
    by_cases hc0 : s1 = sums 0
    · have hw := hw.1 hc0
      have hz : lg_cmp s1 (sums 0) = 0 := Classical.byContradiction fun z => lg_ne0 z hc0
      refine lv_if_eq (tgt := 42) hx hb dX8_areSavesTrue_37 (by decide) (fun _ => ?_) (fun hc0 => absurd hz hc0)
      refine lv_iinc (lv' := [(1, .int (0 + 1)), (2, .ref (sd 0 0)), (0, .ref (ar 0))]) hx hb dX8_areSavesTrue_42 hl (k := 1) rfl (by rfl) (by decide) rfl (fun ls hl => ?_)
      refine lv_goto (tgt := 2) hx hb dX8_areSavesTrue_45 (by decide) ?_
      refine lv_iload_n hx hb dX8_areSavesTrue_2 rfl (lv_at hl 0 rfl) ?_
      refine lv_aload_n hx hb dX8_areSavesTrue_3 rfl (lv_at hl 2 rfl) ?_
      refine g_get X dX8_areSavesTrue_4 f_X8_296 hBr 0 (v := .int (r 0 3)) rfl rfl ?_
      by_cases hk1 : ns = 1
      · have hc : r 0 3 ≤ (0 + 1) := by rw [hns, hk1]; decide
        subst hk1
        refine lv_icmp_ge (tgt := 48) hx hb dX8_areSavesTrue_7 (by decide) (fun _ => ?_) (fun hc0 => absurd hc hc0)
        exact t_as_48 X hr hT hA0 (fun x h => Or.inl h.1) (fun x h => Or.inr (Or.inl h.1)) (fun x h => Or.inr (Or.inr h)) (fun x h => h.2) (fun x h => h.2) (fun x h g => hDw x h.1 g.1) (fun x h => ⟨fun g => (hDp x h.1).1 g.1, fun g => (hDp x h.1).2 g.1⟩) hBr hBw (hsp.mono (fun q h1 h2 => Or.inl h2)) ⟨Nat.le_of_ble_eq_true rfl, Nat.le_of_ble_eq_true rfl⟩ hw hS (lv_sub hl [2] rfl)
      · have hlk : 1 < ns := by omega
        have hc : ¬ r 0 3 ≤ (0 + 1) := by rw [hns]; exact nI_ge (a := 1) hlk (by omega)
        refine lv_icmp_ge (tgt := 48) hx hb dX8_areSavesTrue_7 (by decide) (fun hc0 => absurd hc0 hc) (fun _ => ?_)
        refine lv_iload_n hx hb dX8_areSavesTrue_10 rfl (lv_at hl 0 rfl) ?_
        refine lv_iconst (v := 3) hx hb dX8_areSavesTrue_11 (by decide) ?_
        refine lv_icmp_ge (tgt := 48) hx hb dX8_areSavesTrue_12 (by decide) (fun hc0 => absurd hc0 (show ¬ (3 : Int32) ≤ (0 + 1) by decide)) (fun _ => ?_)
        refine lv_aload_n hx hb dX8_areSavesTrue_15 rfl (lv_at hl 2 rfl) ?_
        refine g_get X dX8_areSavesTrue_16 f_X8_16 hBr 0 (v := .ref (ar 1)) rfl rfl ?_
        refine lv_iload_n hx hb dX8_areSavesTrue_19 rfl (lv_at hl 0 rfl) ?_
        refine g_aaldQ X dX8_areSavesTrue_20 hBr 1 rfl rfl (show vp_in (0 + 1) 3 by unfold vp_in; decide) (v := .ref (sd 1 0)) (by show va_rf (if 1 < ns then some (sd 1 0) else none) = _; rw [if_pos hlk]; rfl) ?_
        refine lv_astore_n (lv' := [(2, .ref (sd 1 0)), (1, .int (0 + 1)), (0, .ref (ar 0))]) hx hb dX8_areSavesTrue_21 rfl hl (by decide) rfl (fun ls hl => ?_)
        refine lv_aload_n hx hb dX8_areSavesTrue_22 rfl (lv_at hl 0 rfl) ?_
        refine lv_ifnull hx hb dX8_areSavesTrue_23 ?_
        refine lv_aload_n hx hb dX8_areSavesTrue_26 rfl (lv_at hl 0 rfl) ?_
        have hBs1 := hBs 1 hlk
        rw [show ns - 1 = (ns - 2) + 1 by omega] at hw
        unfold wp_saves at hw
        refine g_after (st0 := [.ref (sd 1 0)]) (rest := []) (g_V X m_X8_303 (c_X7_sumUp l D tc h0 sa _ hBs1 hw) (hBs1.recv X 0 rfl (q := (RX7, TX7, 6)) rfl) hT hS hA0 dX8_areSavesTrue_27 hl.1 rfl rfl ⟨Nat.le_of_ble_eq_true rfl, Nat.le_of_ble_eq_true rfl⟩ (Nat.le_of_ble_eq_true rfl) ⟨Nat.le_of_ble_eq_true rfl, Nat.le_of_ble_eq_true rfl⟩) hS (fun _ h => h.elim) (fun u => [.long u]) (fun _ => rfl) (fun s1 H9 locs hw hP9 hz9 hk9 hS => ?_)
        have e9 : H9 = _ := hP9
        rw [e9] at hS ⊢
        refine lv_aload_n hx hb dX8_areSavesTrue_30 rfl (lv_at hl 2 rfl) ?_
        refine g_get X dX8_areSavesTrue_31 f_X8_20 hBr 0 (v := .ref (ar 2)) rfl rfl ?_
        refine lv_iload_n hx hb dX8_areSavesTrue_34 rfl (lv_at hl 1 rfl) ?_
        refine g_lald X dX8_areSavesTrue_35 hBr 2 rfl (show vp_in (0 + 1) 3 by unfold vp_in; decide) (k := 1) (by decide) ?_
        refine W.lcmp hx hb dX8_areSavesTrue_36 ?_
        by_cases hc1 : s1 = sums 1
        · have hw := hw.1 hc1
          have hz : lg_cmp s1 (sums 1) = 0 := Classical.byContradiction fun z => lg_ne0 z hc1
          refine lv_if_eq (tgt := 42) hx hb dX8_areSavesTrue_37 (by decide) (fun _ => ?_) (fun hc0 => absurd hz hc0)
          refine lv_iinc (lv' := [(1, .int ((0 + 1) + 1)), (2, .ref (sd 1 0)), (0, .ref (ar 0))]) hx hb dX8_areSavesTrue_42 hl (k := 1) rfl (by rfl) (by decide) rfl (fun ls hl => ?_)
          refine lv_goto (tgt := 2) hx hb dX8_areSavesTrue_45 (by decide) ?_
          refine lv_iload_n hx hb dX8_areSavesTrue_2 rfl (lv_at hl 0 rfl) ?_
          refine lv_aload_n hx hb dX8_areSavesTrue_3 rfl (lv_at hl 2 rfl) ?_
          refine g_get X dX8_areSavesTrue_4 f_X8_296 hBr 0 (v := .int (r 0 3)) rfl rfl ?_
          by_cases hk2 : ns = 2
          · have hc : r 0 3 ≤ ((0 + 1) + 1) := by rw [hns, hk2]; decide
            subst hk2
            refine lv_icmp_ge (tgt := 48) hx hb dX8_areSavesTrue_7 (by decide) (fun _ => ?_) (fun hc0 => absurd hc hc0)
            exact t_as_48 X hr hT hA0 (fun x h => Or.inl h.1) (fun x h => Or.inr (Or.inl h.1)) (fun x h => Or.inr (Or.inr h)) (fun x h => h.2) (fun x h => h.2) (fun x h g => hDw x h.1 g.1) (fun x h => ⟨fun g => (hDp x h.1).1 g.1, fun g => (hDp x h.1).2 g.1⟩) hBr hBw (hsp.mono (fun q h1 h2 => Or.inl h2)) ⟨Nat.le_of_ble_eq_true rfl, Nat.le_of_ble_eq_true rfl⟩ hw hS (lv_sub hl [2] rfl)
          · have hlk : 2 < ns := by omega
            have hc : ¬ r 0 3 ≤ ((0 + 1) + 1) := by rw [hns]; exact nI_ge (a := 2) hlk (by omega)
            refine lv_icmp_ge (tgt := 48) hx hb dX8_areSavesTrue_7 (by decide) (fun hc0 => absurd hc0 hc) (fun _ => ?_)
            refine lv_iload_n hx hb dX8_areSavesTrue_10 rfl (lv_at hl 0 rfl) ?_
            refine lv_iconst (v := 3) hx hb dX8_areSavesTrue_11 (by decide) ?_
            refine lv_icmp_ge (tgt := 48) hx hb dX8_areSavesTrue_12 (by decide) (fun hc0 => absurd hc0 (show ¬ (3 : Int32) ≤ ((0 + 1) + 1) by decide)) (fun _ => ?_)
            refine lv_aload_n hx hb dX8_areSavesTrue_15 rfl (lv_at hl 2 rfl) ?_
            refine g_get X dX8_areSavesTrue_16 f_X8_16 hBr 0 (v := .ref (ar 1)) rfl rfl ?_
            refine lv_iload_n hx hb dX8_areSavesTrue_19 rfl (lv_at hl 0 rfl) ?_
            refine g_aaldQ X dX8_areSavesTrue_20 hBr 1 rfl rfl (show vp_in ((0 + 1) + 1) 3 by unfold vp_in; decide) (v := .ref (sd 2 0)) (by show va_rf (if 2 < ns then some (sd 2 0) else none) = _; rw [if_pos hlk]; rfl) ?_
            refine lv_astore_n (lv' := [(2, .ref (sd 2 0)), (1, .int ((0 + 1) + 1)), (0, .ref (ar 0))]) hx hb dX8_areSavesTrue_21 rfl hl (by decide) rfl (fun ls hl => ?_)
            refine lv_aload_n hx hb dX8_areSavesTrue_22 rfl (lv_at hl 0 rfl) ?_
            refine lv_ifnull hx hb dX8_areSavesTrue_23 ?_
            refine lv_aload_n hx hb dX8_areSavesTrue_26 rfl (lv_at hl 0 rfl) ?_
            have hBs2 := hBs 2 hlk
            rw [show ns - 2 = (ns - 3) + 1 by omega] at hw
            unfold wp_saves at hw
            refine g_after (st0 := [.ref (sd 2 0)]) (rest := []) (g_V X m_X8_303 (c_X7_sumUp l D tc h0 sa _ hBs2 hw) (hBs2.recv X 0 rfl (q := (RX7, TX7, 6)) rfl) hT hS hA0 dX8_areSavesTrue_27 hl.1 rfl rfl ⟨Nat.le_of_ble_eq_true rfl, Nat.le_of_ble_eq_true rfl⟩ (Nat.le_of_ble_eq_true rfl) ⟨Nat.le_of_ble_eq_true rfl, Nat.le_of_ble_eq_true rfl⟩) hS (fun _ h => h.elim) (fun u => [.long u]) (fun _ => rfl) (fun s1 H9 locs hw hP9 hz9 hk9 hS => ?_)
            have e9 : H9 = _ := hP9
            rw [e9] at hS ⊢
            refine lv_aload_n hx hb dX8_areSavesTrue_30 rfl (lv_at hl 2 rfl) ?_
            refine g_get X dX8_areSavesTrue_31 f_X8_20 hBr 0 (v := .ref (ar 2)) rfl rfl ?_
            refine lv_iload_n hx hb dX8_areSavesTrue_34 rfl (lv_at hl 1 rfl) ?_
            refine g_lald X dX8_areSavesTrue_35 hBr 2 rfl (show vp_in ((0 + 1) + 1) 3 by unfold vp_in; decide) (k := 2) (by decide) ?_
            refine W.lcmp hx hb dX8_areSavesTrue_36 ?_
            by_cases hc2 : s1 = sums 2
            · have hw := hw.1 hc2
              have hz : lg_cmp s1 (sums 2) = 0 := Classical.byContradiction fun z => lg_ne0 z hc2
              refine lv_if_eq (tgt := 42) hx hb dX8_areSavesTrue_37 (by decide) (fun _ => ?_) (fun hc0 => absurd hz hc0)
              refine lv_iinc (lv' := [(1, .int (((0 + 1) + 1) + 1)), (2, .ref (sd 2 0)), (0, .ref (ar 0))]) hx hb dX8_areSavesTrue_42 hl (k := 1) rfl (by rfl) (by decide) rfl (fun ls hl => ?_)
              refine lv_goto (tgt := 2) hx hb dX8_areSavesTrue_45 (by decide) ?_
              refine lv_iload_n hx hb dX8_areSavesTrue_2 rfl (lv_at hl 0 rfl) ?_
              refine lv_aload_n hx hb dX8_areSavesTrue_3 rfl (lv_at hl 2 rfl) ?_
              refine g_get X dX8_areSavesTrue_4 f_X8_296 hBr 0 (v := .int (r 0 3)) rfl rfl ?_
              have hc : r 0 3 ≤ (((0 + 1) + 1) + 1) := by rw [hns, show ns = 3 by omega]; decide
              have hz : ns = 3 := by omega
              subst hz
              refine lv_icmp_ge (tgt := 48) hx hb dX8_areSavesTrue_7 (by decide) (fun _ => ?_) (fun hc0 => absurd hc hc0)
              exact t_as_48 X hr hT hA0 (fun x h => Or.inl h.1) (fun x h => Or.inr (Or.inl h.1)) (fun x h => Or.inr (Or.inr h)) (fun x h => h.2) (fun x h => h.2) (fun x h g => hDw x h.1 g.1) (fun x h => ⟨fun g => (hDp x h.1).1 g.1, fun g => (hDp x h.1).2 g.1⟩) hBr hBw (hsp.mono (fun q h1 h2 => Or.inl h2)) ⟨Nat.le_of_ble_eq_true rfl, Nat.le_of_ble_eq_true rfl⟩ hw hS (lv_sub hl [2] rfl)
            · have hw := hw.2 hc2
              have hz : ¬ lg_cmp s1 (sums 2) = 0 := fun z => hc2 (lg_eq0 z)
              refine lv_if_eq (tgt := 42) hx hb dX8_areSavesTrue_37 (by decide) (fun hc0 => absurd hc0 hz) (fun _ => ?_)
              refine lv_iconst (v := 0) hx hb dX8_areSavesTrue_40 (by decide) ?_
              exact e_z X hr rfl dX8_areSavesTrue_41 hS (0, sp, pw) rfl hw ⟨hBr, hsp.mono (fun q h1 h2 => Or.inl h2)⟩ ⟨Nat.le_of_ble_eq_true rfl, Nat.le_of_ble_eq_true rfl⟩
        · have hw := hw.2 hc1
          have hz : ¬ lg_cmp s1 (sums 1) = 0 := fun z => hc1 (lg_eq0 z)
          refine lv_if_eq (tgt := 42) hx hb dX8_areSavesTrue_37 (by decide) (fun hc0 => absurd hc0 hz) (fun _ => ?_)
          refine lv_iconst (v := 0) hx hb dX8_areSavesTrue_40 (by decide) ?_
          exact e_z X hr rfl dX8_areSavesTrue_41 hS (0, sp, pw) rfl hw ⟨hBr, hsp.mono (fun q h1 h2 => Or.inl h2)⟩ ⟨Nat.le_of_ble_eq_true rfl, Nat.le_of_ble_eq_true rfl⟩
    · have hw := hw.2 hc0
      have hz : ¬ lg_cmp s1 (sums 0) = 0 := fun z => hc0 (lg_eq0 z)
      refine lv_if_eq (tgt := 42) hx hb dX8_areSavesTrue_37 (by decide) (fun hc0 => absurd hc0 hz) (fun _ => ?_)
      refine lv_iconst (v := 0) hx hb dX8_areSavesTrue_40 (by decide) ?_
      exact e_z X hr rfl dX8_areSavesTrue_41 hS (0, sp, pw) rfl hw ⟨hBr, hsp.mono (fun q h1 h2 => Or.inl h2)⟩ ⟨Nat.le_of_ble_eq_true rfl, Nat.le_of_ble_eq_true rfl⟩
