/-! CONSTRUCTORS of the model's small classes -/
def cL (D : va_G) (e0 q : Nat) (H : Heap) : Prop := va_at D vwCl (q, .inr (3, [.int 0, .ref e0, .int 0])) H
def NC6 (D : va_G) (e0 q z : Nat) (H : Heap) : Prop := ∃ q1 : Nat, z ≤ q1 ∧ q < q1 ∧ va_at D vwCl (q, .inr (13, [.int 0, .ref q1])) H ∧ cL D e0 q1 H
def NC5 (D : va_G) (e0 q z : Nat) (H : Heap) : Prop := ∃ q1 q2 : Nat, z ≤ q1 ∧ q < q1 ∧ q1 < q2 ∧ va_at D vwCl (q, .inr (14, [.int 0, .int 0, .int 0, .int 0, .int 0, .int 0, .int 0, .int 0, .ref q1, .ref q2])) H ∧ cL D e0 q1 H ∧ cL D e0 q2 H

abbrev rm_in3  : Room := { frames := 1, cells := 0, slots := 0, locals := 20 }
set_option maxHeartbeats 4000000 in
theorem c_in3 (l : Launch) (D : va_G) (tc : Nat → ClassId) (h0 : Nat) (sa : Nat → Nat) (H0 : Heap) (q : Nat) (hat : va_at D vwCl (q, .inr (15, [.int 0, .int 0, .int 0, .int 0, .int 0, .int 0, .int 0])) H0) (ha0 : h0 ≤ q) : MB (S := Unit) l yX11_init cX11_init 1 (Option.none : Option FieldType) (rm_in3 ) (fun x : Nat => x = q) [.ref q] D tc h0 sa H0 (fun _ => True) (fun _ H1 => va_at D vwCl (q, .inr (15, [.int 0, .int 0, .int 0, .int 0, .int 45, .int 0, .int (-1)])) H1) (fun _ => none) := by
  refine MB.ofF RX11 [(0, .ref q)] (by decide +kernel) rfl (Nat.le_of_ble_eq_true rfl) rfl ?_
  intro p e s m below meth c ls X hr hin hT hH hS hl
  subst hH
  have hx := X.1
  have hb := X.2.1
  have hown := X.2.2.2.1
  have hU := X.2.2.2.2.1.1
  have hA0 : ∀ x : Nat, x = q → h0 ≤ x := fun x h => h ▸ ha0
  refine lv_aload_n hx hb dX11_init_0 rfl (lv_at hl 0 rfl) ?_
  refine W.objInit hx hb hown (hU.use mo_X11_3.1) (hU.use mo_X11_3.2.1) (hU.use mo_X11_3.2.2) rfl (hl.1.trans X.2.2.1.symm) rfl dX11_init_1 (Nat.le_of_ble_eq_true rfl) (Nat.le_of_ble_eq_true rfl) ?_
  refine W.eq (g2 := F0 m 4 ls []) rfl ?_
  refine lv_aload_n hx hb dX11_init_4 rfl (lv_at hl 0 rfl) ?_
  refine lv_bipush (v := 45) hx hb dX11_init_5 (by decide) ?_
  refine x_putv (A := fun x : Nat => x = q) X dX11_init_7 f_X11_9 hat rfl hS (Nat.le_of_ble_eq_true rfl) rfl rfl (fun H locs hat oq hz hS => ?_)
  refine lv_aload_n hx hb dX11_init_10 rfl (lv_at hl 0 rfl) ?_
  refine lv_iconst (v := (-1)) hx hb dX11_init_11 (by decide) ?_
  refine x_putv (A := fun x : Nat => x = q) X dX11_init_12 f_X11_15 hat rfl hS (Nat.le_of_ble_eq_true rfl) rfl rfl (fun H locs hat oq hz hS => ?_)
  exact e_v X hr dX11_init_15 hS () rfl trivial hat ⟨Nat.le_of_ble_eq_true rfl, Nat.le_of_ble_eq_true rfl⟩
abbrev rm_in6  : Room := { frames := 4, cells := 1, slots := 3, locals := 80 }
set_option maxHeartbeats 4000000 in
theorem c_in6 (l : Launch) (D : va_G) (tc : Nat → ClassId) (h0 : Nat) (sa : Nat → Nat) (H0 : Heap) (q : Nat) (hat : va_at D vwCl (q, .inr (13, [.int 0, .null])) H0) (ha0 : h0 ≤ q) (hh0 : ∀ x, H0.size ≤ x → h0 ≤ x) : MB (S := Unit) l yX9_init cX9_init 1 (Option.none : Option FieldType) (rm_in6 ) (fun x : Nat => x = q ∨ H0.size ≤ x) [.ref q] D tc h0 sa H0 (fun _ => True) (fun _ H1 => NC6 D (sa 3) q H0.size H1) (fun _ => none) := by
  refine MB.ofF RX9 [(0, .ref q)] (by decide +kernel) rfl (Nat.le_of_ble_eq_true rfl) rfl ?_
  intro p e s m below meth c ls X hr hin hT hH hS hl
  subst hH
  have hx := X.1
  have hb := X.2.1
  have hown := X.2.2.2.1
  have hU := X.2.2.2.2.1.1
  have hA0 : ∀ x : Nat, (x = q ∨ s.heap.size ≤ x) → h0 ≤ x := fun x h => h.elim (fun e => e ▸ ha0) (hh0 x)
  have hS0 : s.heap.size ≤ s.heap.size := Nat.le_refl _
  have hql := hat.lt
  refine lv_aload_n hx hb dX9_init_0 rfl (lv_at hl 0 rfl) ?_
  refine W.objInit hx hb hown (hU.use mo_X9_1.1) (hU.use mo_X9_1.2.1) (hU.use mo_X9_1.2.2) rfl (hl.1.trans X.2.2.1.symm) rfl dX9_init_1 (Nat.le_of_ble_eq_true rfl) (Nat.le_of_ble_eq_true rfl) ?_
  refine W.eq (g2 := F0 m 4 ls []) rfl ?_
  refine lv_aload_n hx hb dX9_init_4 rfl (lv_at hl 0 rfl) ?_
  refine x_new (A := (fun x : Nat => x = q ∨ s.heap.size ≤ x)) X nw_X9_7 (fs := [.int 0, .null, .int 0]) (fun j hj => by rcases (show j = 0 ∨ j = 1 ∨ j = 2 by omega) with e | e | e <;> subst e <;> rfl) hS (fun x h => Or.inr h) ⟨Nat.le_of_ble_eq_true rfl, Nat.le_of_ble_eq_true rfl⟩ dX9_init_5 (fun q1 H hqq1 h1 hAq hz9 hqz o1 hS => ?_)
  have lq1 := Nat.lt_of_lt_of_le hat.lt hqq1
  have hat := hat.kept (o1 q hat.lt)
  have sq1 := Nat.le_trans (show s.heap.size ≤ _ from hS0) hqq1
  have hS0 := hS.1
  refine lv_dup hx hb dX9_init_8 rfl ?_
  refine g_after (st0 := .ref q1 :: [.ref q1, .ref q]) (rest := [.ref q1, .ref q]) (g_I X m_X9_9 (c_Lin l D tc h0 sa _ q1 h1 (hh0 _ sq1)) hT hS hA0 dX9_init_9 hl.1 rfl rfl ⟨Nat.le_of_ble_eq_true rfl, Nat.le_of_ble_eq_true rfl⟩ (Nat.le_of_ble_eq_true rfl) ⟨Nat.le_of_ble_eq_true rfl, Nat.le_of_ble_eq_true rfl⟩) hS (fun x h => Or.inr (h ▸ sq1)) (fun u => [.ref q1, .ref q]) (fun _ => rfl) (fun u H locs hu hP9 hz8 hk9 hS => ?_)
  have h1 := hP9
  have hat := hat.kept (hk9 q hat.lt (fun e => by omega))
  have hS0 := hS.1
  refine x_putF (A := (fun x : Nat => x = q ∨ s.heap.size ≤ x)) X hin dX9_init_12 f_X9_10 rfl rfl hat (Or.inl rfl) hS (Nat.le_of_ble_eq_true rfl) rfl rfl (fun H locs hat oq hz hS => ?_)
  have h1 := h1.kept (oq q1 (fun e => by omega))
  have hS0 := hS.1
  exact e_v X hr dX9_init_15 hS () rfl trivial ⟨q1, sq1, lq1, hat, h1⟩ ⟨Nat.le_of_ble_eq_true rfl, Nat.le_of_ble_eq_true rfl⟩
abbrev rm_in5  : Room := { frames := 4, cells := 2, slots := 6, locals := 80 }
set_option maxHeartbeats 4000000 in
theorem c_in5 (l : Launch) (D : va_G) (tc : Nat → ClassId) (h0 : Nat) (sa : Nat → Nat) (H0 : Heap) (q : Nat) (hat : va_at D vwCl (q, .inr (14, [.int 0, .int 0, .int 0, .int 0, .int 0, .int 0, .int 0, .int 0, .null, .null])) H0) (ha0 : h0 ≤ q) (hh0 : ∀ x, H0.size ≤ x → h0 ≤ x) : MB (S := Unit) l yX10_init cX10_init 1 (Option.none : Option FieldType) (rm_in5 ) (fun x : Nat => x = q ∨ H0.size ≤ x) [.ref q] D tc h0 sa H0 (fun _ => True) (fun _ H1 => NC5 D (sa 3) q H0.size H1) (fun _ => none) := by
  refine MB.ofF RX10 [(0, .ref q)] (by decide +kernel) rfl (Nat.le_of_ble_eq_true rfl) rfl ?_
  intro p e s m below meth c ls X hr hin hT hH hS hl
  subst hH
  have hx := X.1
  have hb := X.2.1
  have hown := X.2.2.2.1
  have hU := X.2.2.2.2.1.1
  have hA0 : ∀ x : Nat, (x = q ∨ s.heap.size ≤ x) → h0 ≤ x := fun x h => h.elim (fun e => e ▸ ha0) (hh0 x)
  have hS0 : s.heap.size ≤ s.heap.size := Nat.le_refl _
  have hql := hat.lt
  refine lv_aload_n hx hb dX10_init_0 rfl (lv_at hl 0 rfl) ?_
  refine W.objInit hx hb hown (hU.use mo_X10_1.1) (hU.use mo_X10_1.2.1) (hU.use mo_X10_1.2.2) rfl (hl.1.trans X.2.2.1.symm) rfl dX10_init_1 (Nat.le_of_ble_eq_true rfl) (Nat.le_of_ble_eq_true rfl) ?_
  refine W.eq (g2 := F0 m 4 ls []) rfl ?_
  refine lv_aload_n hx hb dX10_init_4 rfl (lv_at hl 0 rfl) ?_
  refine x_new (A := (fun x : Nat => x = q ∨ s.heap.size ≤ x)) X nw_X10_7 (fs := [.int 0, .null, .int 0]) (fun j hj => by rcases (show j = 0 ∨ j = 1 ∨ j = 2 by omega) with e | e | e <;> subst e <;> rfl) hS (fun x h => Or.inr h) ⟨Nat.le_of_ble_eq_true rfl, Nat.le_of_ble_eq_true rfl⟩ dX10_init_5 (fun q1 H hqq1 h1 hAq hz9 hqz o1 hS => ?_)
  have lq1 := Nat.lt_of_lt_of_le hat.lt hqq1
  have hat := hat.kept (o1 q hat.lt)
  have sq1 := Nat.le_trans (show s.heap.size ≤ _ from hS0) hqq1
  have hS0 := hS.1
  refine lv_dup hx hb dX10_init_8 rfl ?_
  refine g_after (st0 := .ref q1 :: [.ref q1, .ref q]) (rest := [.ref q1, .ref q]) (g_I X m_X10_9 (c_Lin l D tc h0 sa _ q1 h1 (hh0 _ sq1)) hT hS hA0 dX10_init_9 hl.1 rfl rfl ⟨Nat.le_of_ble_eq_true rfl, Nat.le_of_ble_eq_true rfl⟩ (Nat.le_of_ble_eq_true rfl) ⟨Nat.le_of_ble_eq_true rfl, Nat.le_of_ble_eq_true rfl⟩) hS (fun x h => Or.inr (h ▸ sq1)) (fun u => [.ref q1, .ref q]) (fun _ => rfl) (fun u H locs hu hP9 hz8 hk9 hS => ?_)
  have h1 := hP9
  have hat := hat.kept (hk9 q hat.lt (fun e => by omega))
  have hS0 := hS.1
  refine x_putF (A := (fun x : Nat => x = q ∨ s.heap.size ≤ x)) X hin dX10_init_12 f_X10_10 rfl rfl hat (Or.inl rfl) hS (Nat.le_of_ble_eq_true rfl) rfl rfl (fun H locs hat oq hz hS => ?_)
  have h1 := h1.kept (oq q1 (fun e => by omega))
  have hS0 := hS.1
  refine lv_aload_n hx hb dX10_init_15 rfl (lv_at hl 0 rfl) ?_
  refine x_new (A := (fun x : Nat => x = q ∨ s.heap.size ≤ x)) X nw_X10_7 (fs := [.int 0, .null, .int 0]) (fun j hj => by rcases (show j = 0 ∨ j = 1 ∨ j = 2 by omega) with e | e | e <;> subst e <;> rfl) hS (fun x h => Or.inr h) ⟨Nat.le_of_ble_eq_true rfl, Nat.le_of_ble_eq_true rfl⟩ dX10_init_16 (fun q2 H hqq2 h2 hAq hz9 hqz o1 hS => ?_)
  have lq2 := Nat.lt_of_lt_of_le h1.lt hqq2
  have hat := hat.kept (o1 q hat.lt)
  have h1 := h1.kept (o1 q1 h1.lt)
  have sq2 := Nat.le_trans (show s.heap.size ≤ _ from hS0) hqq2
  have hS0 := hS.1
  refine lv_dup hx hb dX10_init_19 rfl ?_
  refine g_after (st0 := .ref q2 :: [.ref q2, .ref q]) (rest := [.ref q2, .ref q]) (g_I X m_X10_9 (c_Lin l D tc h0 sa _ q2 h2 (hh0 _ sq2)) hT hS hA0 dX10_init_20 hl.1 rfl rfl ⟨Nat.le_of_ble_eq_true rfl, Nat.le_of_ble_eq_true rfl⟩ (Nat.le_of_ble_eq_true rfl) ⟨Nat.le_of_ble_eq_true rfl, Nat.le_of_ble_eq_true rfl⟩) hS (fun x h => Or.inr (h ▸ sq2)) (fun u => [.ref q2, .ref q]) (fun _ => rfl) (fun u H locs hu hP9 hz8 hk9 hS => ?_)
  have h2 := hP9
  have hat := hat.kept (hk9 q hat.lt (fun e => by omega))
  have h1 := h1.kept (hk9 q1 h1.lt (fun e => by omega))
  have hS0 := hS.1
  refine x_putF (A := (fun x : Nat => x = q ∨ s.heap.size ≤ x)) X hin dX10_init_23 f_X10_16 rfl rfl hat (Or.inl rfl) hS (Nat.le_of_ble_eq_true rfl) rfl rfl (fun H locs hat oq hz hS => ?_)
  have h1 := h1.kept (oq q1 (fun e => by omega))
  have h2 := h2.kept (oq q2 (fun e => by omega))
  have hS0 := hS.1
  exact e_v X hr dX10_init_26 hS () rfl trivial ⟨q1, q2, sq1, lq1, lq2, hat, h1, h2⟩ ⟨Nat.le_of_ble_eq_true rfl, Nat.le_of_ble_eq_true rfl⟩
section MK
variable {D : va_G} {tc : Nat → ClassId} {e0 : Nat} {A B : Nat → Prop} {t n : Nat → Nat} {r : Nat → Nat → Nat} {w : Dt} {H H1 : Heap}
theorem SB.make6 (h : SB D tc e0 A t n r w H) {q z : Nat} (hA : A q) (hAF : ∀ x, H.size ≤ x → A x) (hq : H.size ≤ q) (o1 : ∀ x, x < H.size → H1[x]? = H[x]?) (hc : NC6 D e0 q z H1) (hz : H.size ≤ z) : ∃ (t' n' : Nat → Nat) (r' : Nat → Nat → Nat) (w' : Dt), SB D tc e0 A t' n' r' w' H1 ∧ NEW6 t n r w q t' n' r' w' ∧ Ext t t' ∧ t' q = 6 := by
  obtain ⟨q1, g1, g2, g3, g4⟩ := hc
  have h0 := (h.mono (B := fun x => A x ∧ x < H.size) (fun x hx hA => ⟨hA, hx⟩)).kept (fun x hx _ => o1 x hx)
  obtain ⟨z1, h1, x1⟩ := h0.addL (k := 8) rfl (q := q1) (fun z => by omega) g4
  have e1 : va_up t q1 8 q1 = 8 := va_up_self _ _ _
  obtain ⟨z2, h2, x2⟩ := h1.add1 (q := q) (k := 6) (R := fun _ => q1) (W := fun _ => 0) (fun z => z.elim (fun z => by omega) (fun z => by omega)) rfl g3 (show va_up (va_up t q1 8) q 6 q1 = 8 by rw [va_up_ne _ _ (fun e => by omega)]; exact e1)
  refine ⟨_, _, _, _, h2.regs (fun x z => z.elim (fun z => z.elim (fun z => z.1) (fun z => z ▸ hAF q1 (by omega))) (fun z => z ▸ hA)), ⟨q1, g2, ?_, z1, rfl, rfl, rfl, rfl⟩, x1.trans x2, va_up_self _ _ _⟩
  rw [va_up_ne _ _ (fun e => by omega)] at z2
  exact z2
theorem SB.make5 (h : SB D tc e0 A t n r w H) {q z : Nat} (hA : A q) (hAF : ∀ x, H.size ≤ x → A x) (hq : H.size ≤ q) (o1 : ∀ x, x < H.size → H1[x]? = H[x]?) (hc : NC5 D e0 q z H1) (hz : H.size ≤ z) : ∃ (t' n' : Nat → Nat) (r' : Nat → Nat → Nat) (w' : Dt), SB D tc e0 A t' n' r' w' H1 ∧ NEW5 t n r w q t' n' r' w' ∧ Ext t t' ∧ t' q = 5 := by
  obtain ⟨q1, q2, g1, g2, g3, g4, g5, g6⟩ := hc
  have h0 := (h.mono (B := fun x => A x ∧ x < H.size) (fun x hx hA => ⟨hA, hx⟩)).kept (fun x hx _ => o1 x hx)
  obtain ⟨z1, h1, x1⟩ := h0.addL (k := 9) rfl (q := q1) (fun z => by omega) g5
  obtain ⟨z2, h2, x2⟩ := h1.addL (k := 9) rfl (q := q2) (fun z => z.elim (fun z => by omega) (fun z => by omega)) g6
  have e1 : va_up (va_up t q1 9) q2 9 q1 = 9 := by rw [va_up_ne _ _ (fun e => by omega), va_up_self]
  have e2 : va_up (va_up t q1 9) q2 9 q2 = 9 := va_up_self _ _ _
  obtain ⟨z3, h3, x3⟩ := h2.add1 (q := q) (k := 5) (R := fun k => if k = 8 then q1 else q2) (W := fun _ => 0) (fun z => z.elim (fun z => z.elim (fun z => by omega) (fun z => by omega)) (fun z => by omega)) rfl g4 ⟨show va_up (va_up (va_up t q1 9) q2 9) q 5 q1 = 9 by rw [va_up_ne _ _ (fun e => by omega)]; exact e1, show va_up (va_up (va_up t q1 9) q2 9) q 5 q2 = 9 by rw [va_up_ne _ _ (fun e => by omega)]; exact e2⟩
  refine ⟨_, _, _, _, h3.regs (fun x z => z.elim (fun z => z.elim (fun z => z.elim (fun z => z.1) (fun z => z ▸ hAF q1 (by omega))) (fun z => z ▸ hAF q2 (by omega))) (fun z => z ▸ hA)), ⟨q1, q2, g2, g3, ?_, z1, ?_, rfl, rfl, rfl, rfl⟩, (x1.trans x2).trans x3, va_up_self _ _ _⟩
  · rw [va_up_ne _ _ (fun e => by omega), va_up_ne _ _ (fun e => by omega)] at z3
    exact z3
  · rw [va_up_ne _ _ (fun e => by omega)] at z2
    exact z2
end MK
