/-! THE CLASS: its root -/
section ROOTROWS
variable {p : Program} {l : Launch} {e : Env} {R : Room} {s : State} {m : MethodId} {args : Array Value} {below : List Frame} {meth : Method} {c : Code} {H : Heap} {locs : List Loc} {cells slots : Nat} {Q : State → Prop}
variable {cc : ByteArray} {nL : Nat} {own : String} {D : va_G} {tc : Nat → ClassId} {pc : Nat} {ls : Array Slot} {rest : List Value} {A A1 : Nat → Prop} {H0 : Heap} {index ci k a b cap : Nat} {ty : FieldType} {fin : Bool} {fs : List Value} {F : Nat → Option Nat}
theorem x_astC {C : String} {T : u_T} {N k9 : Nat} (X : Cx p c s m meth cc nL own D tc) (hd : decode cc pc = .ok (.aastore, 1)) (hty : (TY tc)[k9]? = some (tc k9, .object C)) (hat : va_at D vwCl (b, .inl (tc k9, cap, .inr (.inr (.inr (.inr F))))) H) (hA : A b) (hS : va_S A H0 H locs) {v : Nat} (hc : vwCl[ci]? = some (C, T, N)) (hv : va_at D vwCl (v, .inr (ci, fs)) H) {x : Int32} (hin : vp_in x cap)
    (kk : ∀ (H1 : Heap) (locs1 : List Loc), va_at D vwCl (b, .inl (tc k9, cap, .inr (.inr (.inr (.inr (va_up F x.toNatClampNeg (some v))))))) H1 → (∀ q, q ≠ b → H1[q]? = H[q]?) → H1.size = H.size → va_S A H0 H1 locs1 → W p l e R s m args below meth c H1 locs1 cells slots Q (F0 m (pc + 1) ls rest)) : W p l e R s m args below meth c H locs cells slots Q (F0 m pc ls (.ref v :: .int x :: .ref b :: rest)) := by
  obtain ⟨hx, hb, -, hown, hK, -⟩ := X
  have hlt : x.toNatClampNeg < cap := Nat.not_le.mp fun q => hin (Or.inr q)
  obtain ⟨q', h1, cellV, g1, g2, g3, -⟩ := hv
  cases hc.symm.trans h1
  have hkn := kn_of hK hc
  obtain ⟨hfc, kC, hkC, hkind⟩ := hkn.2
  obtain ⟨kA, comp, k1, k2, k3, -⟩ := (hK.2.1.2 k9 _ hty).2
  cases hfc.symm.trans k3
  refine W.aast hx hb hat (fun q h => by cases h) (fun h => by cases h) k1 k2 rfl hkC ⟨fun q => hin (Or.inl q), by show _ < (arrV _ _ _).slots.size; rw [arrV_size]; exact hlt⟩ g1 (fun q h => by rw [h] at g3; cases g3) (by rw [g2]; exact hkC) (by rw [g2]; exact va_assign (C := C) hkn.2) rfl rfl hd fun H1 e z oq => ?_
  refine kk H1 _ ?_ oq z (hS.put z oq hA)
  show H1[b]? = some (vp_cell _ _)
  rw [e, vp_cell_q, vp_cell_q, arrV_store]
  congr 2
  funext q
  by_cases hq : q = x.toNatClampNeg
  · subst hq
    simp [updV, va_up, va_rf]
  · simp [updV, va_up, hq]
theorem x_last (X : Cx p c s m meth cc nL own D tc) (hd : decode cc pc = .ok (.lastore, 1)) {f : Nat → Int64} (hat : va_at D vwCl (b, .inl (tc 3, cap, .inr (.inl f))) H) (hA : A b) (hS : va_S A H0 H locs) {v : Int64} {x : Int32} (hin : vp_in x cap)
    (kk : ∀ (H1 : Heap) (locs1 : List Loc), va_at D vwCl (b, .inl (tc 3, cap, .inr (.inl (va_up f x.toNatClampNeg v)))) H1 → (∀ q, q ≠ b → H1[q]? = H[q]?) → H1.size = H.size → va_S A H0 H1 locs1 → W p l e R s m args below meth c H1 locs1 cells slots Q (F0 m (pc + 1) ls rest)) : W p l e R s m args below meth c H locs cells slots Q (F0 m pc ls (.long v :: .int x :: .ref b :: rest)) := by
  obtain ⟨hx, hb, -, hown, hK, -⟩ := X
  refine W.last hx hb hat ((hK.2.1.2 3 _ rfl).1 cap (fun j => .long (f j))) (fun h => by cases h) (by show ¬ (x < 0 ∨ (arrV _ _ _).slots.size ≤ _); rw [arrV_size]; exact hin) rfl rfl hd fun H1 e z oq => ?_
  refine kk H1 _ ?_ oq z (hS.put z oq hA)
  show H1[b]? = some (vp_cell _ _)
  rw [e, vp_cell_l, vp_cell_l, arrV_store]
  congr 2
  funext q
  by_cases hq : q = x.toNatClampNeg
  · subst hq
    simp [updV, va_up]
  · simp [updV, va_up, hq]
end ROOTROWS
def arR (q a1 a2 a3 a4 : Nat) : Nat → Nat := fun i => match i with
  | 0 => q | 1 => a1 | 2 => a2 | 3 => a3 | _ => a4
theorem mkRoot {D : va_G} {tc : Nat → ClassId} {H : Heap} {q z wa a1 a2 a3 a4 : Nat} (hz : z ≤ a1) (hq : q < z) (l2 : a1 < a2) (l3 : a2 < a3) (l4 : a3 < a4) (y0 : va_at D vwCl (q, .inr (12, [.ref wa, .ref a1, .ref a2, .int 0, .null, .ref a3, .int 0, .ref a4, .int 0])) H) (y1 : va_at D vwCl (a1, .inl (tc 6, 3, .inr (.inr (.inr (.inr (fun _ => none)))))) H) (y2 : va_at D vwCl (a2, .inl (tc 3, 3, .inr (.inl (fun _ => 0)))) H) (y3 : va_at D vwCl (a3, .inl (tc 7, 4, .inr (.inr (.inr (.inr (fun _ => none)))))) H) (y4 : va_at D vwCl (a4, .inl (tc 8, 6, .inr (.inr (.inr (.inr (fun _ => none)))))) H) (sd pd fd : Nat → Nat → Nat) :
    Blk D tc (fun x => x = q ∨ z ≤ x) (shR wa none 0 0 0 sd pd fd (fun _ => 0) (arR q a1 a2 a3 a4)) (arR q a1 a2 a3 a4) (fun _ _ => 0) H := by
  have hn : ∀ dd : Nat → Nat → Nat, (fun _ => none : Nat → Option Nat) = fun k => if k < 0 then some (dd k 0) else none := fun dd => by funext k; rw [if_neg (Nat.not_lt_zero k)]
  have hdom : ∀ i c, shR wa none 0 0 0 sd pd fd (fun _ => 0) (arR q a1 a2 a3 a4) i = some c → i < 5 := fun i c hc => by
    match i, hc with
    | 0, _ => decide
    | 1, _ => decide
    | 2, _ => decide
    | 3, _ => decide
    | 4, _ => decide
    | _ + 5, hc => cases hc
  refine ⟨fun i c hs => ?_, fun i j c d hi hj e => ?_⟩
  · match i, hs with
    | 0, hs => cases hs; exact ⟨y0, Or.inl rfl⟩
    | 1, hs => cases hs; exact ⟨by rw [hn sd] at y1; exact y1, Or.inr hz⟩
    | 2, hs => cases hs; exact ⟨y2, Or.inr (show z ≤ a2 by omega)⟩
    | 3, hs => cases hs; exact ⟨by rw [hn pd] at y3; exact y3, Or.inr (show z ≤ a3 by omega)⟩
    | 4, hs => cases hs; exact ⟨by rw [hn fd] at y4; exact y4, Or.inr (show z ≤ a4 by omega)⟩
    | _ + 5, hs => cases hs
  · have hm : ∀ a b : Nat, a < b → b < 5 → arR q a1 a2 a3 a4 a < arR q a1 a2 a3 a4 b := fun a b hab hb => by
      match a, b, hab, hb with
      | 0, 1, _, _ => show q < a1; omega
      | 0, 2, _, _ => show q < a2; omega
      | 0, 3, _, _ => show q < a3; omega
      | 0, 4, _, _ => show q < a4; omega
      | 1, 2, _, _ => show a1 < a2; omega
      | 1, 3, _, _ => show a1 < a3; omega
      | 1, 4, _, _ => show a1 < a4; omega
      | 2, 3, _, _ => show a2 < a3; omega
      | 2, 4, _, _ => show a2 < a4; omega
      | 3, 4, _, _ => show a3 < a4; omega
      | a, 0, h, _ => omega
      | a + 1, 1, h, _ => omega
      | a + 2, 2, h, _ => omega
      | a + 3, 3, h, _ => omega
      | a + 4, 4, h, _ => omega
      | a, b + 5, _, h => omega
    have gi := hdom i c hi
    have gj := hdom j d hj
    rcases Nat.lt_trichotomy i j with g | g | g
    · have := hm i j g gj; omega
    · exact g
    · have := hm j i g gi; omega
def prW (x1 x2 x3 x4 : Int32) : Dt := fun i k => match i with
  | 0 => (match k with | 0 => x1 | 1 => x2 | 2 => x3 | 3 => x4 | _ => 0)
  | _ => 0
def frW (x1 : Int32) : Dt := fun i k => match i with
  | 0 => (match k with | 0 => x1 | _ => 0)
  | _ => 0
def adP (q a1 a2 a3 a4 a5 : Nat) : Nat → Nat := fun i => match i with
  | 0 => q | 1 => a1 | 2 => a2 | 3 => a3 | 4 => a4 | _ => a5
def adF (q a1 a2 : Nat) : Nat → Nat := fun i => match i with
  | 0 => q | 1 => a1 | _ => a2
theorem inj_mono {f : Nat → Nat} {N : Nat} (h : ∀ k, k + 1 < N → f k < f (k + 1)) : ∀ i j, i < N → j < N → f i = f j → i = j := by
  have hm : ∀ d i, i + d + 1 < N → f i < f (i + d + 1) := fun d => by
    induction d with
    | zero => exact fun i hi => h i hi
    | succ d ih => exact fun i hi => Nat.lt_trans (ih i (by omega)) (h (i + d + 1) (by omega))
  intro i j hi hj e
  rcases Nat.lt_trichotomy i j with g | g | g
  · have := hm (j - i - 1) i (by omega)
    rw [show i + (j - i - 1) + 1 = j by omega] at this
    omega
  · exact g
  · have := hm (i - j - 1) j (by omega)
    rw [show j + (i - j - 1) + 1 = i by omega] at this
    omega
theorem mkPr {D : va_G} {tc : Nat → ClassId} {H : Heap} {q z : Nat} {x1 x2 x3 x4 : Int32} (h : CBX4 D tc q z x1 x2 x3 x4 H) : ∃ ad : Nat → Nat, ad 0 = q ∧ Blk D tc (fun x => q ≤ x) (shPr ad) ad (prW x1 x2 x3 x4) H := by
  obtain ⟨a1, a2, a3, a4, a5, hz, l1, l2, l3, l4, l5, y0, y1, y2, y3, y4, y5⟩ := h
  refine ⟨adP q a1 a2 a3 a4 a5, rfl, fun i c hs => ?_, fun i j c d hi hj e => ?_⟩
  · match i, hs with
    | 0, hs => cases hs; exact ⟨y0, Nat.le_refl _⟩
    | 1, hs => cases hs; exact ⟨y1, show q ≤ a1 by omega⟩
    | 2, hs => cases hs; exact ⟨y2, show q ≤ a2 by omega⟩
    | 3, hs => cases hs; exact ⟨y3, show q ≤ a3 by omega⟩
    | 4, hs => cases hs; exact ⟨y4, show q ≤ a4 by omega⟩
    | 5, hs => cases hs; exact ⟨y5, show q ≤ a5 by omega⟩
    | _ + 6, hs => cases hs
  · have hdom : ∀ i c, shPr (adP q a1 a2 a3 a4 a5) i = some c → i < 6 := fun i c hc => by
      match i, hc with
      | 0, _ => decide
      | 1, _ => decide
      | 2, _ => decide
      | 3, _ => decide
      | 4, _ => decide
      | 5, _ => decide
      | _ + 6, hc => cases hc
    refine inj_mono (N := 6) (fun k hk => ?_) i j (hdom i c hi) (hdom j d hj) e
    match k, hk with
    | 0, _ => exact l1
    | 1, _ => exact l2
    | 2, _ => exact l3
    | 3, _ => exact l4
    | 4, _ => exact l5
    | k + 5, hk => omega
theorem mkFr {D : va_G} {tc : Nat → ClassId} {H : Heap} {q z : Nat} {x1 : Int32} (h : CBX2 D tc q z x1 H) : ∃ ad : Nat → Nat, ad 0 = q ∧ Blk D tc (fun x => q ≤ x) (shFr ad) ad (frW x1) H := by
  obtain ⟨a1, a2, hz, l1, l2, y0, y1, y2⟩ := h
  refine ⟨adF q a1 a2, rfl, fun i c hs => ?_, fun i j c d hi hj e => ?_⟩
  · match i, hs with
    | 0, hs => cases hs; exact ⟨y0, Nat.le_refl _⟩
    | 1, hs => cases hs; exact ⟨y1, show q ≤ a1 by omega⟩
    | 2, hs => cases hs; exact ⟨y2, show q ≤ a2 by omega⟩
    | _ + 3, hs => cases hs
  · have hdom : ∀ i c, shFr (adF q a1 a2) i = some c → i < 3 := fun i c hc => by
      match i, hc with
      | 0, _ => decide
      | 1, _ => decide
      | 2, _ => decide
      | _ + 3, hc => cases hc
    refine inj_mono (N := 3) (fun k hk => ?_) i j (hdom i c hi) (hdom j d hj) e
    match k, hk with
    | 0, _ => exact l1
    | 1, _ => exact l2
    | k + 2, hk => omega
theorem rt_up {np a : Nat} {pd : Nat → Nat → Nat} {ad : Nat → Nat} (ha : ad 0 = a) : va_up (fun k => if k < np then some (pd k 0) else none) np (some a) = fun k => if k < np + 1 then some (va_up pd np ad k 0) else none := by
  funext k
  by_cases e : k = np
  · subst e
    rw [va_up_self, va_up_self, if_pos (by omega), ha]
  · rw [va_up_ne _ _ e, va_up_ne _ _ e]
    by_cases g : k < np
    · rw [if_pos g, if_pos (by omega)]
    · rw [if_neg g, if_neg (by omega)]
abbrev rm_k8  : Room := { frames := 3, cells := 49, slots := 472, locals := 61 }
set_option maxHeartbeats 4000000 in
theorem c_k8 (l : Launch) (D : va_G) (tc : Nat → ClassId) (h0 : Nat) (sa : Nat → Nat) (H0 : Heap) (q : Nat) (hat : va_at D vwCl (q, .inr (12, [.null, .null, .null, .int 0, .null, .null, .int 0, .null, .int 0])) H0) (ha0 : h0 ≤ q) (hh0 : ∀ x, H0.size ≤ x → h0 ≤ x) : MB (S := ((Nat → Nat) × (Nat → Nat) × Nat)) l yX8_init cX8_init 1 (Option.none : Option FieldType) (rm_k8 ) (fun x : Nat => x = q ∨ H0.size ≤ x) [.ref q] D tc h0 sa H0 (fun _ => True) (fun u H1 => q < u.2.2 ∧ Blk D tc (fun x => q < x ∧ x < u.2.2) (shW u.1) u.1 cw0 H1 ∧ u.2.1 0 = q ∧ ∀ sd pd fd : Nat → Nat → Nat, Blk D tc (fun x => x = q ∨ u.2.2 ≤ x) (shR (u.1 0) none 0 0 0 sd pd fd (fun _ => 0) u.2.1) u.2.1 (fun _ _ => 0) H1) (fun _ => none) := by
  refine MB.of RX8 [(0, .ref q)] (by decide +kernel) rfl (Nat.le_of_ble_eq_true rfl) rfl ?_
  intro p e s m below meth c ls X hr hin hT hH hS hl
  subst hH
  have hx := X.1
  have hb := X.2.1
  have hown := X.2.2.2.1
  have hU := X.2.2.2.2.1.1
  have hA0 : ∀ x : Nat, (x = q ∨ s.heap.size ≤ x) → h0 ≤ x := fun x h => h.elim (fun e => e ▸ ha0) (hh0 x)
  have hS0 : s.heap.size ≤ s.heap.size := Nat.le_refl _
  have hql := hat.lt
  refine lv_aload_n hx hb dX8_init_0 rfl (lv_at hl 0 rfl) ?_
  refine W.objInit hx hb hown (hU.use mo_X8_3.1) (hU.use mo_X8_3.2.1) (hU.use mo_X8_3.2.2) rfl (hl.1.trans X.2.2.1.symm) rfl dX8_init_1 (Nat.le_of_ble_eq_true rfl) (Nat.le_of_ble_eq_true rfl) ?_
  refine W.eq (g2 := F0 m 4 ls []) rfl ?_
  refine lv_aload_n hx hb dX8_init_4 rfl (lv_at hl 0 rfl) ?_
  have hql0 := hat.lt
  refine x_new (A := (fun x : Nat => x = q ∨ s.heap.size ≤ x)) X nw_X8_9 (fs := [.null, .null, .null, .null, .null, .int 0]) (fun j hj => by rcases (show j = 0 ∨ j = 1 ∨ j = 2 ∨ j = 3 ∨ j = 4 ∨ j = 5 by omega) with e | e | e | e | e | e <;> subst e <;> rfl) hS (fun x h => Or.inr h) ⟨Nat.le_of_ble_eq_true rfl, Nat.le_of_ble_eq_true rfl⟩ dX8_init_5 (fun qw H hqqw rw9 hAq hz9 hqz o1 hS => ?_)
  have hat := hat.kept (o1 q hat.lt)
  obtain ⟨zz, hzz⟩ : ∃ z : Nat, z = H.size := ⟨_, rfl⟩
  refine lv_dup hx hb dX8_init_8 rfl ?_
  refine g_after (st0 := .ref qw :: [.ref qw, .ref q]) (rest := [.ref qw, .ref q]) (g_IN X m_X8_11 (c_k7 l D tc h0 sa _ qw rw9 (hA0 _ hAq) (fun x h => hh0 x (by omega))) hT hS hA0 dX8_init_9 hl.1 rfl rfl ⟨Nat.le_of_ble_eq_true rfl, Nat.le_of_ble_eq_true rfl⟩ (Nat.le_of_ble_eq_true rfl) ⟨Nat.le_of_ble_eq_true rfl, Nat.le_of_ble_eq_true rfl⟩) hS (fun x h => h.elim (fun e => e ▸ hAq) (fun h => Or.inr (by omega))) (fun u => [.ref qw, .ref q]) (fun _ => rfl) (fun aw H locs hu hP9 hz8 hk9 hS => ?_)
  have hat := hat.kept (hk9 q hat.lt (fun e => by omega))
  obtain ⟨ha0w, hBn⟩ := hP9
  obtain ⟨zw, hzw⟩ : ∃ z : Nat, z = H.size := ⟨_, rfl⟩
  have hBw : Blk D tc (fun x => q < x ∧ x < zw) (shW aw) aw cw0 H := hBn.mono (fun i c hc hA => ⟨(show aw i = qw ∨ zz ≤ aw i by rw [hzz]; exact hA).elim (fun e => by omega) (fun e => by omega), by have := hBn.lt hc; omega⟩)
  have hzl : zw ≤ H.size := by omega
  have hqz0 : q < zw := by omega
  have hS0 := hS.1
  have hw0 : aw 0 = qw := ha0w
  refine x_putF (A := (fun x : Nat => x = q ∨ s.heap.size ≤ x)) X hin dX8_init_12 f_X8_12 rfl rfl hat (Or.inl rfl) hS (Nat.le_of_ble_eq_true rfl) rfl rfl (fun H locs hat oq hz hS => ?_)
  have hBw := hBw.kept1 oq (fun h => by omega)
  have hzl : zw ≤ H.size := by omega
  have hS0 := hS.1
  refine lv_aload_n hx hb dX8_init_15 rfl (lv_at hl 0 rfl) ?_
  refine lv_iconst (v := 3) hx hb dX8_init_16 (by decide) ?_
  have hzl0 := hzl
  refine x_newq (A := (fun x : Nat => x = q ∨ s.heap.size ≤ x)) X (C := "Bandworld$World") (by decide) w_47 (k := 6) rfl (n := 3) (N := 3) (by decide) rfl (by decide) hS (fun x h => Or.inr h) ⟨Nat.le_of_ble_eq_true rfl, Nat.le_of_ble_eq_true rfl⟩ dX8_init_17 (fun a1 H hqa1 y1 hAq hz9 hqz o1 hS => ?_)
  have la1 := Nat.lt_of_lt_of_le (show q < _ from Nat.lt_of_lt_of_le hqz0 hzl) hqa1
  have hat := hat.kept (o1 q hat.lt)
  have hBw := hBw.kept (fun x h1 _ => o1 x h1)
  have hzl : zw ≤ H.size := by omega
  have sa1 := Nat.le_trans hS0 hqa1
  have hS0 := hS.1
  have hza : zw ≤ a1 := by omega
  refine x_putF (A := (fun x : Nat => x = q ∨ s.heap.size ≤ x)) X hin dX8_init_20 f_X8_16 rfl rfl hat (Or.inl rfl) hS (Nat.le_of_ble_eq_true rfl) rfl rfl (fun H locs hat oq hz hS => ?_)
  have y1 := y1.kept (oq a1 (fun e => by omega))
  have hBw := hBw.kept1 oq (fun h => by omega)
  have hzl : zw ≤ H.size := by omega
  have hS0 := hS.1
  refine lv_aload_n hx hb dX8_init_23 rfl (lv_at hl 0 rfl) ?_
  refine lv_iconst (v := 3) hx hb dX8_init_24 (by decide) ?_
  refine x_newl (A := (fun x : Nat => x = q ∨ s.heap.size ≤ x)) (n := 3) (N := 3) X (by decide) rfl (by decide) hS (fun x h => Or.inr h) ⟨Nat.le_of_ble_eq_true rfl, Nat.le_of_ble_eq_true rfl⟩ dX8_init_25 (fun a2 H hqa2 y2 hAq hz9 hqz o1 hS => ?_)
  have la2 := Nat.lt_of_lt_of_le y1.lt hqa2
  have hat := hat.kept (o1 q hat.lt)
  have y1 := y1.kept (o1 a1 y1.lt)
  have hBw := hBw.kept (fun x h1 _ => o1 x h1)
  have hzl : zw ≤ H.size := by omega
  have sa2 := Nat.le_trans hS0 hqa2
  have hS0 := hS.1
  refine x_putF (A := (fun x : Nat => x = q ∨ s.heap.size ≤ x)) X hin dX8_init_27 f_X8_20 rfl rfl hat (Or.inl rfl) hS (Nat.le_of_ble_eq_true rfl) rfl rfl (fun H locs hat oq hz hS => ?_)
  have y1 := y1.kept (oq a1 (fun e => by omega))
  have y2 := y2.kept (oq a2 (fun e => by omega))
  have hBw := hBw.kept1 oq (fun h => by omega)
  have hzl : zw ≤ H.size := by omega
  have hS0 := hS.1
  refine lv_aload_n hx hb dX8_init_30 rfl (lv_at hl 0 rfl) ?_
  refine lv_iconst (v := 4) hx hb dX8_init_31 (by decide) ?_
  refine x_newq (A := (fun x : Nat => x = q ∨ s.heap.size ≤ x)) X (C := "Bandworld$Probe") (by decide) w_224 (k := 7) rfl (n := 4) (N := 4) (by decide) rfl (by decide) hS (fun x h => Or.inr h) ⟨Nat.le_of_ble_eq_true rfl, Nat.le_of_ble_eq_true rfl⟩ dX8_init_32 (fun a3 H hqa3 y3 hAq hz9 hqz o1 hS => ?_)
  have la3 := Nat.lt_of_lt_of_le y2.lt hqa3
  have hat := hat.kept (o1 q hat.lt)
  have y1 := y1.kept (o1 a1 y1.lt)
  have y2 := y2.kept (o1 a2 y2.lt)
  have hBw := hBw.kept (fun x h1 _ => o1 x h1)
  have hzl : zw ≤ H.size := by omega
  have sa3 := Nat.le_trans hS0 hqa3
  have hS0 := hS.1
  refine x_putF (A := (fun x : Nat => x = q ∨ s.heap.size ≤ x)) X hin dX8_init_35 f_X8_26 rfl rfl hat (Or.inl rfl) hS (Nat.le_of_ble_eq_true rfl) rfl rfl (fun H locs hat oq hz hS => ?_)
  have y1 := y1.kept (oq a1 (fun e => by omega))
  have y2 := y2.kept (oq a2 (fun e => by omega))
  have y3 := y3.kept (oq a3 (fun e => by omega))
  have hBw := hBw.kept1 oq (fun h => by omega)
  have hzl : zw ≤ H.size := by omega
  have hS0 := hS.1
  refine lv_aload_n hx hb dX8_init_38 rfl (lv_at hl 0 rfl) ?_
  refine lv_bipush (v := 6) hx hb dX8_init_39 (by decide) ?_
  refine x_newq (A := (fun x : Nat => x = q ∨ s.heap.size ≤ x)) X (C := "Bandworld$Frame") (by decide) w_226 (k := 8) rfl (n := 6) (N := 6) (by decide) rfl (by decide) hS (fun x h => Or.inr h) ⟨Nat.le_of_ble_eq_true rfl, Nat.le_of_ble_eq_true rfl⟩ dX8_init_41 (fun a4 H hqa4 y4 hAq hz9 hqz o1 hS => ?_)
  have la4 := Nat.lt_of_lt_of_le y3.lt hqa4
  have hat := hat.kept (o1 q hat.lt)
  have y1 := y1.kept (o1 a1 y1.lt)
  have y2 := y2.kept (o1 a2 y2.lt)
  have y3 := y3.kept (o1 a3 y3.lt)
  have hBw := hBw.kept (fun x h1 _ => o1 x h1)
  have hzl : zw ≤ H.size := by omega
  have sa4 := Nat.le_trans hS0 hqa4
  have hS0 := hS.1
  refine x_putF (A := (fun x : Nat => x = q ∨ s.heap.size ≤ x)) X hin dX8_init_44 f_X8_32 rfl rfl hat (Or.inl rfl) hS (Nat.le_of_ble_eq_true rfl) rfl rfl (fun H locs hat oq hz hS => ?_)
  have y1 := y1.kept (oq a1 (fun e => by omega))
  have y2 := y2.kept (oq a2 (fun e => by omega))
  have y3 := y3.kept (oq a3 (fun e => by omega))
  have y4 := y4.kept (oq a4 (fun e => by omega))
  have hBw := hBw.kept1 oq (fun h => by omega)
  have hzl : zw ≤ H.size := by omega
  have hS0 := hS.1
  exact e_v X hr dX8_init_47 hS (aw, arR q a1 a2 a3 a4, zw) rfl trivial ⟨hqz0, hBw, rfl, fun sd pd fd => by show Blk D tc (fun x => x = q ∨ zw ≤ x) (shR (aw 0) none 0 0 0 sd pd fd (fun _ => 0) (arR q a1 a2 a3 a4)) (arR q a1 a2 a3 a4) (fun _ _ => 0) H; rw [hw0]; exact mkRoot hza hqz0 la2 la3 la4 hat y1 y2 y3 y4 sd pd fd⟩ ⟨Nat.le_of_ble_eq_true rfl, Nat.le_of_ble_eq_true rfl⟩
