/-! THE MODEL's constructor -/
theorem SB.empty {D : va_G} {tc : Nat → ClassId} {e0 : Nat} {A : Nat → Prop} {n : Nat → Nat} {r : Nat → Nat → Nat} {w : Dt} {H : Heap} : SB D tc e0 A (fun _ => 0) n r w H :=
  ⟨fun _ => 0, fun _ => 0, fun a c hc => (by cases hc), fun a h => (by cases h), fun a b h => (by cases h), fun a h => absurd rfl h, fun a => trivial⟩
def z0S : Nat → Nat := fun _ => 0
def z0R : Nat → Nat → Nat := fun _ _ => 0
def z0W : Dt := fun _ _ => 0
def mR (qw qs qp qf : Nat) : Nat → Nat := fun k => match k with
  | 1 => qw | 2 => qs | 3 => qp | _ => qf
def warm0 (w : Dt) (a : Nat) : Nat → Dt
  | 0 => w
  | k + 1 => up2 (warm0 w a k) a k (100 + 20 * nI k)
/-- the model as it is made -/
def NEW7 (q : Nat) (t' n' : Nat → Nat) (r' : Nat → Nat → Nat) (w' : Dt) : Prop := ∃ (qw qs qp qf : Nat) (t4 n4 : Nat → Nat) (r4 : Nat → Nat → Nat) (w4 : Dt), NEW4 z0S z0S z0R z0W qw t4 n4 r4 w4 ∧ q < qw ∧ qw < qs ∧ qs < qp ∧ qp < qf ∧ (∀ x, t4 x ≠ 0 → qw ≤ x ∧ x < qs) ∧ t4 qw = 4 ∧ t' = va_up (va_up (va_up (va_up t4 qs 10) qp 11) qf 12) q 7 ∧ n' = va_up (va_up (va_up n4 qs 0) qp 0) qf 0 ∧ r' = va_up r4 q (mR qw qs qp qf) ∧ w' = warm0 (va_up (va_up (va_up (va_up w4 qs (fun _ => 0)) qp (fun _ => 0)) qf (fun _ => 0)) q (fun _ => 0)) (r' qw 0) 10

abbrev rm_in7  : Room := { frames := 5, cells := 31, slots := 132, locals := 100 }
set_option maxHeartbeats 4000000 in
theorem c_in7 (l : Launch) (D : va_G) (tc : Nat → ClassId) (h0 : Nat) (sa : Nat → Nat) (H0 : Heap) (q : Nat) (hat : va_at D vwCl (q, .inr (17, [.int 0, .null, .null, .null, .null])) H0) (ha0 : h0 ≤ q) (hh0 : ∀ x, H0.size ≤ x → h0 ≤ x) : MB (S := ((Nat → Nat) × (Nat → Nat) × (Nat → Nat → Nat) × Dt)) l yX13_init cX13_init 2 (Option.none : Option FieldType) (rm_in7 ) (fun x : Nat => x = q ∨ H0.size ≤ x) [.ref q] D tc h0 sa H0 (fun _ => True) (fun u H1 => SB D tc (sa 3) (fun x : Nat => x = q ∨ H0.size ≤ x) u.1 u.2.1 u.2.2.1 u.2.2.2 H1 ∧ u.1 q = 7 ∧ NEW7 q u.1 u.2.1 u.2.2.1 u.2.2.2) (fun _ => none) := by
  refine MB.of RX13 [(0, .ref q)] (by decide +kernel) rfl (Nat.le_of_ble_eq_true rfl) rfl ?_
  intro p e s m below meth c ls X hr hin hT hH hS hl
  subst hH
  have hx := X.1
  have hb := X.2.1
  have hown := X.2.2.2.1
  have hU := X.2.2.2.2.1.1
  have hA0 : ∀ x : Nat, (x = q ∨ s.heap.size ≤ x) → h0 ≤ x := fun x h => h.elim (fun e => e ▸ ha0) (hh0 x)
  have hS0 : s.heap.size ≤ s.heap.size := Nat.le_refl _
  have hql := hat.lt
  refine lv_aload_n hx hb dX13_init_0 rfl (lv_at hl 0 rfl) ?_
  refine W.objInit hx hb hown (hU.use mo_X13_25.1) (hU.use mo_X13_25.2.1) (hU.use mo_X13_25.2.2) rfl (hl.1.trans X.2.2.1.symm) rfl dX13_init_1 (Nat.le_of_ble_eq_true rfl) (Nat.le_of_ble_eq_true rfl) ?_
  refine W.eq (g2 := F0 m 4 ls []) rfl ?_
  refine lv_aload_n hx hb dX13_init_4 rfl (lv_at hl 0 rfl) ?_
  refine x_new (A := (fun x : Nat => x = q ∨ s.heap.size ≤ x)) X nw_X13_31 (fs := [.null, .null, .null, .int 0, .int 0, .null, .int 0, .int 0, .null, .null, .null, .int 0]) (fun j hj => by rcases (show j = 0 ∨ j = 1 ∨ j = 2 ∨ j = 3 ∨ j = 4 ∨ j = 5 ∨ j = 6 ∨ j = 7 ∨ j = 8 ∨ j = 9 ∨ j = 10 ∨ j = 11 by omega) with e | e | e | e | e | e | e | e | e | e | e | e <;> subst e <;> rfl) hS (fun x h => Or.inr h) ⟨Nat.le_of_ble_eq_true rfl, Nat.le_of_ble_eq_true rfl⟩ dX13_init_5 (fun qw H hqw hatw hAw hz9 hqz o1 hS => ?_)
  have hat := hat.kept (o1 q hat.lt)
  have lqw : q < qw := by omega
  obtain ⟨zz, hzz⟩ : ∃ z : Nat, z = H.size := ⟨_, rfl⟩
  refine lv_dup hx hb dX13_init_8 rfl ?_
  refine g_after (st0 := .ref qw :: [.ref qw, .ref q]) (rest := [.ref qw, .ref q]) (g_IN X m_X13_33 (c_in4 l D tc h0 sa _ qw hatw (hA0 _ hAw) (fun x h => hh0 x (by omega))) hT hS hA0 dX13_init_9 hl.1 rfl rfl ⟨Nat.le_of_ble_eq_true rfl, Nat.le_of_ble_eq_true rfl⟩ (Nat.le_of_ble_eq_true rfl) ⟨Nat.le_of_ble_eq_true rfl, Nat.le_of_ble_eq_true rfl⟩) hS (fun x h => h.elim (fun e => e ▸ hAw) (fun h => Or.inr (by omega))) (fun u => [.ref qw, .ref q]) (fun _ => rfl) (fun u H locs hu hP9 hz8 hk9 hS => ?_)
  have hat := hat.kept (hk9 q hat.lt (fun e => by omega))
  have hxs : (H.extract 0 qw).size = qw := by rw [Array.size_extract]; omega
  have hxg : ∀ x, x < (H.extract 0 qw).size → H[x]? = (H.extract 0 qw)[x]? := fun x hx => by
    rw [hxs] at hx
    rw [Array.getElem?_extract]
    have : 0 + x = x := Nat.zero_add x
    rw [this, if_pos (by omega)]
  obtain ⟨t4, n4, r4, w4, hB, hN4, hx4, hk4⟩ := (SB.empty : SB D tc (sa 3) (fun x => qw ≤ x) z0S z0S z0R z0W (H.extract 0 qw)).make4 (q := qw) (z := zz) (Nat.le_refl _) (fun x hx => by omega) (by omega) hxg (by rw [hzz]; exact hP9) (by omega)
  obtain ⟨zw, hzw⟩ : ∃ z : Nat, z = H.size := ⟨_, rfl⟩
  have hB := hB.mono (B := fun x => qw ≤ x ∧ x < zw) (fun x hx hA => ⟨hA, by omega⟩)
  have hqwl : qw < zw := by omega
  have hzl : zw ≤ H.size := by omega
  have hS0 := hS.1
  refine x_putv (A := (fun x : Nat => x = q ∨ s.heap.size ≤ x)) X dX13_init_12 f_X13_34 hat (Or.inl rfl) hS (Nat.le_of_ble_eq_true rfl) rfl rfl (fun H locs hat oq hz hS => ?_)
  have hB := hB.kept (fun x _ h2 => oq x (fun e => by omega))
  have hzl : zw ≤ H.size := by omega
  have hS0 := hS.1
  refine lv_aload_n hx hb dX13_init_15 rfl (lv_at hl 0 rfl) ?_
  have hzl0 := hzl
  refine x_new (A := (fun x : Nat => x = q ∨ s.heap.size ≤ x)) X nw_X13_38 (fs := [.int 0, .null, .int 0]) (fun j hj => by rcases (show j = 0 ∨ j = 1 ∨ j = 2 by omega) with e | e | e <;> subst e <;> rfl) hS (fun x h => Or.inr h) ⟨Nat.le_of_ble_eq_true rfl, Nat.le_of_ble_eq_true rfl⟩ dX13_init_16 (fun qs H hqqs ys hAq hz9 hqz o1 hS => ?_)
  have zlqs : zw ≤ qs := by omega
  have lqs := Nat.lt_of_lt_of_le (show qw < _ from Nat.lt_of_lt_of_le hqwl hzl) hqqs
  have hat := hat.kept (o1 q hat.lt)
  have hB := hB.kept (fun x h1 _ => o1 x h1)
  have hzl : zw ≤ H.size := by omega
  have sqs := Nat.le_trans (show s.heap.size ≤ _ from hS0) hqqs
  have hS0 := hS.1
  refine lv_dup hx hb dX13_init_19 rfl ?_
  refine g_after (st0 := .ref qs :: [.ref qs, .ref q]) (rest := [.ref qs, .ref q]) (g_I X m_X13_40 (c_Lin l D tc h0 sa _ qs ys (hh0 _ sqs)) hT hS hA0 dX13_init_20 hl.1 rfl rfl ⟨Nat.le_of_ble_eq_true rfl, Nat.le_of_ble_eq_true rfl⟩ (Nat.le_of_ble_eq_true rfl) ⟨Nat.le_of_ble_eq_true rfl, Nat.le_of_ble_eq_true rfl⟩) hS (fun x h => Or.inr (h ▸ sqs)) (fun u => [.ref qs, .ref q]) (fun _ => rfl) (fun u H locs hu hP9 hz8 hk9 hS => ?_)
  have ys := hP9
  have hB := hB.kept (fun x h1 h2 => hk9 x h1 (fun e => by omega))
  have hzl : zw ≤ H.size := by omega
  have hat := hat.kept (hk9 q hat.lt (fun e => by omega))
  have hS0 := hS.1
  refine x_putF (A := (fun x : Nat => x = q ∨ s.heap.size ≤ x)) X hin dX13_init_23 f_X13_41 rfl rfl hat (Or.inl rfl) hS (Nat.le_of_ble_eq_true rfl) rfl rfl (fun H locs hat oq hz hS => ?_)
  have ys := ys.kept (oq qs (fun e => by omega))
  have hB := hB.kept (fun x _ h2 => oq x (fun e => by omega))
  have hzl : zw ≤ H.size := by omega
  have hS0 := hS.1
  refine lv_aload_n hx hb dX13_init_26 rfl (lv_at hl 0 rfl) ?_
  have hzl0 := hzl
  refine x_new (A := (fun x : Nat => x = q ∨ s.heap.size ≤ x)) X nw_X13_38 (fs := [.int 0, .null, .int 0]) (fun j hj => by rcases (show j = 0 ∨ j = 1 ∨ j = 2 by omega) with e | e | e <;> subst e <;> rfl) hS (fun x h => Or.inr h) ⟨Nat.le_of_ble_eq_true rfl, Nat.le_of_ble_eq_true rfl⟩ dX13_init_27 (fun qp H hqqp yp hAq hz9 hqz o1 hS => ?_)
  have zlqp : zw ≤ qp := by omega
  have lqp := Nat.lt_of_lt_of_le ys.lt hqqp
  have hat := hat.kept (o1 q hat.lt)
  have ys := ys.kept (o1 qs ys.lt)
  have hB := hB.kept (fun x h1 _ => o1 x h1)
  have hzl : zw ≤ H.size := by omega
  have sqp := Nat.le_trans (show s.heap.size ≤ _ from hS0) hqqp
  have hS0 := hS.1
  refine lv_dup hx hb dX13_init_30 rfl ?_
  refine g_after (st0 := .ref qp :: [.ref qp, .ref q]) (rest := [.ref qp, .ref q]) (g_I X m_X13_40 (c_Lin l D tc h0 sa _ qp yp (hh0 _ sqp)) hT hS hA0 dX13_init_31 hl.1 rfl rfl ⟨Nat.le_of_ble_eq_true rfl, Nat.le_of_ble_eq_true rfl⟩ (Nat.le_of_ble_eq_true rfl) ⟨Nat.le_of_ble_eq_true rfl, Nat.le_of_ble_eq_true rfl⟩) hS (fun x h => Or.inr (h ▸ sqp)) (fun u => [.ref qp, .ref q]) (fun _ => rfl) (fun u H locs hu hP9 hz8 hk9 hS => ?_)
  have yp := hP9
  have hB := hB.kept (fun x h1 h2 => hk9 x h1 (fun e => by omega))
  have hzl : zw ≤ H.size := by omega
  have hat := hat.kept (hk9 q hat.lt (fun e => by omega))
  have ys := ys.kept (hk9 qs ys.lt (fun e => by omega))
  have hS0 := hS.1
  refine x_putF (A := (fun x : Nat => x = q ∨ s.heap.size ≤ x)) X hin dX13_init_34 f_X13_45 rfl rfl hat (Or.inl rfl) hS (Nat.le_of_ble_eq_true rfl) rfl rfl (fun H locs hat oq hz hS => ?_)
  have ys := ys.kept (oq qs (fun e => by omega))
  have yp := yp.kept (oq qp (fun e => by omega))
  have hB := hB.kept (fun x _ h2 => oq x (fun e => by omega))
  have hzl : zw ≤ H.size := by omega
  have hS0 := hS.1
  refine lv_aload_n hx hb dX13_init_37 rfl (lv_at hl 0 rfl) ?_
  have hzl0 := hzl
  refine x_new (A := (fun x : Nat => x = q ∨ s.heap.size ≤ x)) X nw_X13_38 (fs := [.int 0, .null, .int 0]) (fun j hj => by rcases (show j = 0 ∨ j = 1 ∨ j = 2 by omega) with e | e | e <;> subst e <;> rfl) hS (fun x h => Or.inr h) ⟨Nat.le_of_ble_eq_true rfl, Nat.le_of_ble_eq_true rfl⟩ dX13_init_38 (fun qf H hqqf yf hAq hz9 hqz o1 hS => ?_)
  have zlqf : zw ≤ qf := by omega
  have lqf := Nat.lt_of_lt_of_le yp.lt hqqf
  have hat := hat.kept (o1 q hat.lt)
  have ys := ys.kept (o1 qs ys.lt)
  have yp := yp.kept (o1 qp yp.lt)
  have hB := hB.kept (fun x h1 _ => o1 x h1)
  have hzl : zw ≤ H.size := by omega
  have sqf := Nat.le_trans (show s.heap.size ≤ _ from hS0) hqqf
  have hS0 := hS.1
  refine lv_dup hx hb dX13_init_41 rfl ?_
  refine g_after (st0 := .ref qf :: [.ref qf, .ref q]) (rest := [.ref qf, .ref q]) (g_I X m_X13_40 (c_Lin l D tc h0 sa _ qf yf (hh0 _ sqf)) hT hS hA0 dX13_init_42 hl.1 rfl rfl ⟨Nat.le_of_ble_eq_true rfl, Nat.le_of_ble_eq_true rfl⟩ (Nat.le_of_ble_eq_true rfl) ⟨Nat.le_of_ble_eq_true rfl, Nat.le_of_ble_eq_true rfl⟩) hS (fun x h => Or.inr (h ▸ sqf)) (fun u => [.ref qf, .ref q]) (fun _ => rfl) (fun u H locs hu hP9 hz8 hk9 hS => ?_)
  have yf := hP9
  have hB := hB.kept (fun x h1 h2 => hk9 x h1 (fun e => by omega))
  have hzl : zw ≤ H.size := by omega
  have hat := hat.kept (hk9 q hat.lt (fun e => by omega))
  have ys := ys.kept (hk9 qs ys.lt (fun e => by omega))
  have yp := yp.kept (hk9 qp yp.lt (fun e => by omega))
  have hS0 := hS.1
  refine x_putF (A := (fun x : Nat => x = q ∨ s.heap.size ≤ x)) X hin dX13_init_45 f_X13_48 rfl rfl hat (Or.inl rfl) hS (Nat.le_of_ble_eq_true rfl) rfl rfl (fun H locs hat oq hz hS => ?_)
  have ys := ys.kept (oq qs (fun e => by omega))
  have yp := yp.kept (oq qp (fun e => by omega))
  have yf := yf.kept (oq qf (fun e => by omega))
  have hB := hB.kept (fun x _ h2 => oq x (fun e => by omega))
  have hzl : zw ≤ H.size := by omega
  have hS0 := hS.1
  have hfr : ∀ x, t4 x ≠ 0 → qw ≤ x ∧ x < qs := fun x hx => by have := (hB.lt hx).2; omega
  obtain ⟨-, k1, x1⟩ := hB.addL (k := 10) rfl (q := qs) (fun h => by omega) ys
  obtain ⟨-, k2, x2⟩ := k1.addL (k := 11) rfl (q := qp) (fun h => by omega) yp
  obtain ⟨-, k3, x3⟩ := k2.addL (k := 12) rfl (q := qf) (fun h => by omega) yf
  obtain ⟨-, k4, x4⟩ := k3.add1 (q := q) (k := 7) (R := mR qw qs qp qf) (W := fun _ => 0) (fun h => by omega) rfl hat ⟨by show va_up _ q 7 qw = 4; rw [va_up_ne _ _ (fun e => by omega), va_up_ne _ _ (fun e => by omega), va_up_ne _ _ (fun e => by omega), va_up_ne _ _ (fun e => by omega)]; exact hk4, by show va_up _ q 7 qs = 10; rw [va_up_ne _ _ (fun e => by omega), va_up_ne _ _ (fun e => by omega), va_up_ne _ _ (fun e => by omega), va_up_self], by show va_up _ q 7 qp = 11; rw [va_up_ne _ _ (fun e => by omega), va_up_ne _ _ (fun e => by omega), va_up_self], by show va_up _ q 7 qf = 12; rw [va_up_ne _ _ (fun e => by omega), va_up_self]⟩
  have hB := k4.regs (B := (fun x : Nat => x = q ∨ s.heap.size ≤ x)) (fun x h => by have h9 : (((((qw ≤ x ∧ x < zw) ∨ x = qs) ∨ x = qp) ∨ x = qf) ∨ x = q) := h; omega)
  obtain ⟨tS, etS⟩ : ∃ z, z = va_up (va_up (va_up (va_up t4 qs 10) qp 11) qf 12) q 7 := ⟨_, rfl⟩
  obtain ⟨nS, enS⟩ : ∃ z, z = va_up (va_up (va_up n4 qs 0) qp 0) qf 0 := ⟨_, rfl⟩
  obtain ⟨rS, erS⟩ : ∃ z, z = va_up r4 q (mR qw qs qp qf) := ⟨_, rfl⟩
  obtain ⟨w0, ew0⟩ : ∃ z, z = va_up (va_up (va_up (va_up w4 qs (fun _ => 0)) qp (fun _ => 0)) qf (fun _ => 0)) q (fun _ => 0) := ⟨_, rfl⟩
  rw [← etS, ← enS, ← erS, ← ew0] at hB
  have hkq : tS q = 7 := by rw [etS, va_up_self]
  have hqw9 : rS q 1 = qw := by rw [erS, va_up_self]; rfl
  have hkw : tS (rS q 1) = 4 := (hB.wtk hkq).1
  have hka : tS (rS (rS q 1) 0) = 1 := (hB.wtk hkw).1
  refine lv_iconst (v := 0) hx hb dX13_init_48 (by decide) ?_
  refine lv_istore_n (lv' := [(1, .int 0), (0, .ref q)]) hx hb dX13_init_49 rfl hl (by decide) rfl (fun ls hl => ?_)
  refine lv_iload_n hx hb dX13_init_50 rfl (lv_at hl 0 rfl) ?_
  refine lv_bipush (v := 10) hx hb dX13_init_51 (by decide) ?_
  refine lv_icmp_ge (tgt := 78) hx hb dX13_init_53 (by decide) (fun hc0 => absurd hc0 (show ¬ (10 : Int32) ≤ 0 by decide)) (fun _ => ?_)
  refine lv_aload_n hx hb dX13_init_56 rfl (lv_at hl 1 rfl) ?_
  refine g_get X dX13_init_57 f_X13_34 (hB.one (k := 7) hkq rfl) 0 (v := .ref (rS q 1)) rfl rfl ?_
  refine g_getN X dX13_init_60 f_X13_51 (hB.one (k := 4) hkw rfl) 0 (v := .ref (rS (rS q 1) 0)) rfl rfl ?_
  refine lv_iload_n hx hb dX13_init_63 rfl (lv_at hl 0 rfl) ?_
  refine lv_bipush (v := 100) hx hb dX13_init_64 (by decide) ?_
  refine lv_bipush (v := 20) hx hb dX13_init_66 (by decide) ?_
  refine lv_iload_n hx hb dX13_init_68 rfl (lv_at hl 0 rfl) ?_
  refine lv_imul hx hb dX13_init_69 ?_
  refine lv_iadd hx hb dX13_init_70 ?_
  refine g_iast X dX13_init_71 (hB.one (k := 1) hka rfl) hS 0 rfl (show vp_in 0 10 by unfold vp_in; decide) (k := 0) (by decide) (fun H locs hb9 oq hS => ?_)
  have hB := hB.putB hka rfl hb9 oq
  refine lv_iinc (lv' := [(1, .int (0 + 1)), (0, .ref q)]) hx hb dX13_init_72 hl (k := 0) rfl (by rfl) (by decide) rfl (fun ls hl => ?_)
  refine lv_goto (tgt := 50) hx hb dX13_init_75 (by decide) ?_
  refine lv_iload_n hx hb dX13_init_50 rfl (lv_at hl 0 rfl) ?_
  refine lv_bipush (v := 10) hx hb dX13_init_51 (by decide) ?_
  refine lv_icmp_ge (tgt := 78) hx hb dX13_init_53 (by decide) (fun hc0 => absurd hc0 (show ¬ (10 : Int32) ≤ (0 + 1) by decide)) (fun _ => ?_)
  refine lv_aload_n hx hb dX13_init_56 rfl (lv_at hl 1 rfl) ?_
  refine g_get X dX13_init_57 f_X13_34 (hB.one (k := 7) hkq rfl) 0 (v := .ref (rS q 1)) rfl rfl ?_
  refine g_getN X dX13_init_60 f_X13_51 (hB.one (k := 4) hkw rfl) 0 (v := .ref (rS (rS q 1) 0)) rfl rfl ?_
  refine lv_iload_n hx hb dX13_init_63 rfl (lv_at hl 0 rfl) ?_
  refine lv_bipush (v := 100) hx hb dX13_init_64 (by decide) ?_
  refine lv_bipush (v := 20) hx hb dX13_init_66 (by decide) ?_
  refine lv_iload_n hx hb dX13_init_68 rfl (lv_at hl 0 rfl) ?_
  refine lv_imul hx hb dX13_init_69 ?_
  refine lv_iadd hx hb dX13_init_70 ?_
  refine g_iast X dX13_init_71 (hB.one (k := 1) hka rfl) hS 0 rfl (show vp_in (0 + 1) 10 by unfold vp_in; decide) (k := 1) (by decide) (fun H locs hb9 oq hS => ?_)
  have hB := hB.putB hka rfl hb9 oq
  refine lv_iinc (lv' := [(1, .int ((0 + 1) + 1)), (0, .ref q)]) hx hb dX13_init_72 hl (k := 0) rfl (by rfl) (by decide) rfl (fun ls hl => ?_)
  refine lv_goto (tgt := 50) hx hb dX13_init_75 (by decide) ?_
  refine lv_iload_n hx hb dX13_init_50 rfl (lv_at hl 0 rfl) ?_
  refine lv_bipush (v := 10) hx hb dX13_init_51 (by decide) ?_
  refine lv_icmp_ge (tgt := 78) hx hb dX13_init_53 (by decide) (fun hc0 => absurd hc0 (show ¬ (10 : Int32) ≤ ((0 + 1) + 1) by decide)) (fun _ => ?_)
  refine lv_aload_n hx hb dX13_init_56 rfl (lv_at hl 1 rfl) ?_
  refine g_get X dX13_init_57 f_X13_34 (hB.one (k := 7) hkq rfl) 0 (v := .ref (rS q 1)) rfl rfl ?_
  refine g_getN X dX13_init_60 f_X13_51 (hB.one (k := 4) hkw rfl) 0 (v := .ref (rS (rS q 1) 0)) rfl rfl ?_
  refine lv_iload_n hx hb dX13_init_63 rfl (lv_at hl 0 rfl) ?_
  refine lv_bipush (v := 100) hx hb dX13_init_64 (by decide) ?_
  refine lv_bipush (v := 20) hx hb dX13_init_66 (by decide) ?_
  refine lv_iload_n hx hb dX13_init_68 rfl (lv_at hl 0 rfl) ?_
  refine lv_imul hx hb dX13_init_69 ?_
  refine lv_iadd hx hb dX13_init_70 ?_
  refine g_iast X dX13_init_71 (hB.one (k := 1) hka rfl) hS 0 rfl (show vp_in ((0 + 1) + 1) 10 by unfold vp_in; decide) (k := 2) (by decide) (fun H locs hb9 oq hS => ?_)
  have hB := hB.putB hka rfl hb9 oq
  refine lv_iinc (lv' := [(1, .int (((0 + 1) + 1) + 1)), (0, .ref q)]) hx hb dX13_init_72 hl (k := 0) rfl (by rfl) (by decide) rfl (fun ls hl => ?_)
  refine lv_goto (tgt := 50) hx hb dX13_init_75 (by decide) ?_
  refine lv_iload_n hx hb dX13_init_50 rfl (lv_at hl 0 rfl) ?_
  refine lv_bipush (v := 10) hx hb dX13_init_51 (by decide) ?_
  refine lv_icmp_ge (tgt := 78) hx hb dX13_init_53 (by decide) (fun hc0 => absurd hc0 (show ¬ (10 : Int32) ≤ (((0 + 1) + 1) + 1) by decide)) (fun _ => ?_)
  refine lv_aload_n hx hb dX13_init_56 rfl (lv_at hl 1 rfl) ?_
  refine g_get X dX13_init_57 f_X13_34 (hB.one (k := 7) hkq rfl) 0 (v := .ref (rS q 1)) rfl rfl ?_
  refine g_getN X dX13_init_60 f_X13_51 (hB.one (k := 4) hkw rfl) 0 (v := .ref (rS (rS q 1) 0)) rfl rfl ?_
  refine lv_iload_n hx hb dX13_init_63 rfl (lv_at hl 0 rfl) ?_
  refine lv_bipush (v := 100) hx hb dX13_init_64 (by decide) ?_
  refine lv_bipush (v := 20) hx hb dX13_init_66 (by decide) ?_
  refine lv_iload_n hx hb dX13_init_68 rfl (lv_at hl 0 rfl) ?_
  refine lv_imul hx hb dX13_init_69 ?_
  refine lv_iadd hx hb dX13_init_70 ?_
  refine g_iast X dX13_init_71 (hB.one (k := 1) hka rfl) hS 0 rfl (show vp_in (((0 + 1) + 1) + 1) 10 by unfold vp_in; decide) (k := 3) (by decide) (fun H locs hb9 oq hS => ?_)
  have hB := hB.putB hka rfl hb9 oq
  refine lv_iinc (lv' := [(1, .int ((((0 + 1) + 1) + 1) + 1)), (0, .ref q)]) hx hb dX13_init_72 hl (k := 0) rfl (by rfl) (by decide) rfl (fun ls hl => ?_)
  refine lv_goto (tgt := 50) hx hb dX13_init_75 (by decide) ?_
  refine lv_iload_n hx hb dX13_init_50 rfl (lv_at hl 0 rfl) ?_
  refine lv_bipush (v := 10) hx hb dX13_init_51 (by decide) ?_
  refine lv_icmp_ge (tgt := 78) hx hb dX13_init_53 (by decide) (fun hc0 => absurd hc0 (show ¬ (10 : Int32) ≤ ((((0 + 1) + 1) + 1) + 1) by decide)) (fun _ => ?_)
  refine lv_aload_n hx hb dX13_init_56 rfl (lv_at hl 1 rfl) ?_
  refine g_get X dX13_init_57 f_X13_34 (hB.one (k := 7) hkq rfl) 0 (v := .ref (rS q 1)) rfl rfl ?_
  refine g_getN X dX13_init_60 f_X13_51 (hB.one (k := 4) hkw rfl) 0 (v := .ref (rS (rS q 1) 0)) rfl rfl ?_
  refine lv_iload_n hx hb dX13_init_63 rfl (lv_at hl 0 rfl) ?_
  refine lv_bipush (v := 100) hx hb dX13_init_64 (by decide) ?_
  refine lv_bipush (v := 20) hx hb dX13_init_66 (by decide) ?_
  refine lv_iload_n hx hb dX13_init_68 rfl (lv_at hl 0 rfl) ?_
  refine lv_imul hx hb dX13_init_69 ?_
  refine lv_iadd hx hb dX13_init_70 ?_
  refine g_iast X dX13_init_71 (hB.one (k := 1) hka rfl) hS 0 rfl (show vp_in ((((0 + 1) + 1) + 1) + 1) 10 by unfold vp_in; decide) (k := 4) (by decide) (fun H locs hb9 oq hS => ?_)
  have hB := hB.putB hka rfl hb9 oq
  refine lv_iinc (lv' := [(1, .int (((((0 + 1) + 1) + 1) + 1) + 1)), (0, .ref q)]) hx hb dX13_init_72 hl (k := 0) rfl (by rfl) (by decide) rfl (fun ls hl => ?_)
  refine lv_goto (tgt := 50) hx hb dX13_init_75 (by decide) ?_
  refine lv_iload_n hx hb dX13_init_50 rfl (lv_at hl 0 rfl) ?_
  refine lv_bipush (v := 10) hx hb dX13_init_51 (by decide) ?_
  refine lv_icmp_ge (tgt := 78) hx hb dX13_init_53 (by decide) (fun hc0 => absurd hc0 (show ¬ (10 : Int32) ≤ (((((0 + 1) + 1) + 1) + 1) + 1) by decide)) (fun _ => ?_)
  refine lv_aload_n hx hb dX13_init_56 rfl (lv_at hl 1 rfl) ?_
  refine g_get X dX13_init_57 f_X13_34 (hB.one (k := 7) hkq rfl) 0 (v := .ref (rS q 1)) rfl rfl ?_
  refine g_getN X dX13_init_60 f_X13_51 (hB.one (k := 4) hkw rfl) 0 (v := .ref (rS (rS q 1) 0)) rfl rfl ?_
  refine lv_iload_n hx hb dX13_init_63 rfl (lv_at hl 0 rfl) ?_
  refine lv_bipush (v := 100) hx hb dX13_init_64 (by decide) ?_
  refine lv_bipush (v := 20) hx hb dX13_init_66 (by decide) ?_
  refine lv_iload_n hx hb dX13_init_68 rfl (lv_at hl 0 rfl) ?_
  refine lv_imul hx hb dX13_init_69 ?_
  refine lv_iadd hx hb dX13_init_70 ?_
  refine g_iast X dX13_init_71 (hB.one (k := 1) hka rfl) hS 0 rfl (show vp_in (((((0 + 1) + 1) + 1) + 1) + 1) 10 by unfold vp_in; decide) (k := 5) (by decide) (fun H locs hb9 oq hS => ?_)
  have hB := hB.putB hka rfl hb9 oq
  refine lv_iinc (lv' := [(1, .int ((((((0 + 1) + 1) + 1) + 1) + 1) + 1)), (0, .ref q)]) hx hb dX13_init_72 hl (k := 0) rfl (by rfl) (by decide) rfl (fun ls hl => ?_)
  refine lv_goto (tgt := 50) hx hb dX13_init_75 (by decide) ?_
  refine lv_iload_n hx hb dX13_init_50 rfl (lv_at hl 0 rfl) ?_
  refine lv_bipush (v := 10) hx hb dX13_init_51 (by decide) ?_
  refine lv_icmp_ge (tgt := 78) hx hb dX13_init_53 (by decide) (fun hc0 => absurd hc0 (show ¬ (10 : Int32) ≤ ((((((0 + 1) + 1) + 1) + 1) + 1) + 1) by decide)) (fun _ => ?_)
  refine lv_aload_n hx hb dX13_init_56 rfl (lv_at hl 1 rfl) ?_
  refine g_get X dX13_init_57 f_X13_34 (hB.one (k := 7) hkq rfl) 0 (v := .ref (rS q 1)) rfl rfl ?_
  refine g_getN X dX13_init_60 f_X13_51 (hB.one (k := 4) hkw rfl) 0 (v := .ref (rS (rS q 1) 0)) rfl rfl ?_
  refine lv_iload_n hx hb dX13_init_63 rfl (lv_at hl 0 rfl) ?_
  refine lv_bipush (v := 100) hx hb dX13_init_64 (by decide) ?_
  refine lv_bipush (v := 20) hx hb dX13_init_66 (by decide) ?_
  refine lv_iload_n hx hb dX13_init_68 rfl (lv_at hl 0 rfl) ?_
  refine lv_imul hx hb dX13_init_69 ?_
  refine lv_iadd hx hb dX13_init_70 ?_
  refine g_iast X dX13_init_71 (hB.one (k := 1) hka rfl) hS 0 rfl (show vp_in ((((((0 + 1) + 1) + 1) + 1) + 1) + 1) 10 by unfold vp_in; decide) (k := 6) (by decide) (fun H locs hb9 oq hS => ?_)
  have hB := hB.putB hka rfl hb9 oq
  refine lv_iinc (lv' := [(1, .int (((((((0 + 1) + 1) + 1) + 1) + 1) + 1) + 1)), (0, .ref q)]) hx hb dX13_init_72 hl (k := 0) rfl (by rfl) (by decide) rfl (fun ls hl => ?_)
  refine lv_goto (tgt := 50) hx hb dX13_init_75 (by decide) ?_
  refine lv_iload_n hx hb dX13_init_50 rfl (lv_at hl 0 rfl) ?_
  refine lv_bipush (v := 10) hx hb dX13_init_51 (by decide) ?_
  refine lv_icmp_ge (tgt := 78) hx hb dX13_init_53 (by decide) (fun hc0 => absurd hc0 (show ¬ (10 : Int32) ≤ (((((((0 + 1) + 1) + 1) + 1) + 1) + 1) + 1) by decide)) (fun _ => ?_)
  refine lv_aload_n hx hb dX13_init_56 rfl (lv_at hl 1 rfl) ?_
  refine g_get X dX13_init_57 f_X13_34 (hB.one (k := 7) hkq rfl) 0 (v := .ref (rS q 1)) rfl rfl ?_
  refine g_getN X dX13_init_60 f_X13_51 (hB.one (k := 4) hkw rfl) 0 (v := .ref (rS (rS q 1) 0)) rfl rfl ?_
  refine lv_iload_n hx hb dX13_init_63 rfl (lv_at hl 0 rfl) ?_
  refine lv_bipush (v := 100) hx hb dX13_init_64 (by decide) ?_
  refine lv_bipush (v := 20) hx hb dX13_init_66 (by decide) ?_
  refine lv_iload_n hx hb dX13_init_68 rfl (lv_at hl 0 rfl) ?_
  refine lv_imul hx hb dX13_init_69 ?_
  refine lv_iadd hx hb dX13_init_70 ?_
  refine g_iast X dX13_init_71 (hB.one (k := 1) hka rfl) hS 0 rfl (show vp_in (((((((0 + 1) + 1) + 1) + 1) + 1) + 1) + 1) 10 by unfold vp_in; decide) (k := 7) (by decide) (fun H locs hb9 oq hS => ?_)
  have hB := hB.putB hka rfl hb9 oq
  refine lv_iinc (lv' := [(1, .int ((((((((0 + 1) + 1) + 1) + 1) + 1) + 1) + 1) + 1)), (0, .ref q)]) hx hb dX13_init_72 hl (k := 0) rfl (by rfl) (by decide) rfl (fun ls hl => ?_)
  refine lv_goto (tgt := 50) hx hb dX13_init_75 (by decide) ?_
  refine lv_iload_n hx hb dX13_init_50 rfl (lv_at hl 0 rfl) ?_
  refine lv_bipush (v := 10) hx hb dX13_init_51 (by decide) ?_
  refine lv_icmp_ge (tgt := 78) hx hb dX13_init_53 (by decide) (fun hc0 => absurd hc0 (show ¬ (10 : Int32) ≤ ((((((((0 + 1) + 1) + 1) + 1) + 1) + 1) + 1) + 1) by decide)) (fun _ => ?_)
  refine lv_aload_n hx hb dX13_init_56 rfl (lv_at hl 1 rfl) ?_
  refine g_get X dX13_init_57 f_X13_34 (hB.one (k := 7) hkq rfl) 0 (v := .ref (rS q 1)) rfl rfl ?_
  refine g_getN X dX13_init_60 f_X13_51 (hB.one (k := 4) hkw rfl) 0 (v := .ref (rS (rS q 1) 0)) rfl rfl ?_
  refine lv_iload_n hx hb dX13_init_63 rfl (lv_at hl 0 rfl) ?_
  refine lv_bipush (v := 100) hx hb dX13_init_64 (by decide) ?_
  refine lv_bipush (v := 20) hx hb dX13_init_66 (by decide) ?_
  refine lv_iload_n hx hb dX13_init_68 rfl (lv_at hl 0 rfl) ?_
  refine lv_imul hx hb dX13_init_69 ?_
  refine lv_iadd hx hb dX13_init_70 ?_
  refine g_iast X dX13_init_71 (hB.one (k := 1) hka rfl) hS 0 rfl (show vp_in ((((((((0 + 1) + 1) + 1) + 1) + 1) + 1) + 1) + 1) 10 by unfold vp_in; decide) (k := 8) (by decide) (fun H locs hb9 oq hS => ?_)
  have hB := hB.putB hka rfl hb9 oq
  refine lv_iinc (lv' := [(1, .int (((((((((0 + 1) + 1) + 1) + 1) + 1) + 1) + 1) + 1) + 1)), (0, .ref q)]) hx hb dX13_init_72 hl (k := 0) rfl (by rfl) (by decide) rfl (fun ls hl => ?_)
  refine lv_goto (tgt := 50) hx hb dX13_init_75 (by decide) ?_
  refine lv_iload_n hx hb dX13_init_50 rfl (lv_at hl 0 rfl) ?_
  refine lv_bipush (v := 10) hx hb dX13_init_51 (by decide) ?_
  refine lv_icmp_ge (tgt := 78) hx hb dX13_init_53 (by decide) (fun hc0 => absurd hc0 (show ¬ (10 : Int32) ≤ (((((((((0 + 1) + 1) + 1) + 1) + 1) + 1) + 1) + 1) + 1) by decide)) (fun _ => ?_)
  refine lv_aload_n hx hb dX13_init_56 rfl (lv_at hl 1 rfl) ?_
  refine g_get X dX13_init_57 f_X13_34 (hB.one (k := 7) hkq rfl) 0 (v := .ref (rS q 1)) rfl rfl ?_
  refine g_getN X dX13_init_60 f_X13_51 (hB.one (k := 4) hkw rfl) 0 (v := .ref (rS (rS q 1) 0)) rfl rfl ?_
  refine lv_iload_n hx hb dX13_init_63 rfl (lv_at hl 0 rfl) ?_
  refine lv_bipush (v := 100) hx hb dX13_init_64 (by decide) ?_
  refine lv_bipush (v := 20) hx hb dX13_init_66 (by decide) ?_
  refine lv_iload_n hx hb dX13_init_68 rfl (lv_at hl 0 rfl) ?_
  refine lv_imul hx hb dX13_init_69 ?_
  refine lv_iadd hx hb dX13_init_70 ?_
  refine g_iast X dX13_init_71 (hB.one (k := 1) hka rfl) hS 0 rfl (show vp_in (((((((((0 + 1) + 1) + 1) + 1) + 1) + 1) + 1) + 1) + 1) 10 by unfold vp_in; decide) (k := 9) (by decide) (fun H locs hb9 oq hS => ?_)
  have hB := hB.putB hka rfl hb9 oq
  refine lv_iinc (lv' := [(1, .int ((((((((((0 + 1) + 1) + 1) + 1) + 1) + 1) + 1) + 1) + 1) + 1)), (0, .ref q)]) hx hb dX13_init_72 hl (k := 0) rfl (by rfl) (by decide) rfl (fun ls hl => ?_)
  refine lv_goto (tgt := 50) hx hb dX13_init_75 (by decide) ?_
  refine lv_iload_n hx hb dX13_init_50 rfl (lv_at hl 0 rfl) ?_
  refine lv_bipush (v := 10) hx hb dX13_init_51 (by decide) ?_
  refine lv_icmp_ge (tgt := 78) hx hb dX13_init_53 (by decide) (fun _ => ?_) (fun hc0 => absurd (show (10 : Int32) ≤ ((((((((((0 + 1) + 1) + 1) + 1) + 1) + 1) + 1) + 1) + 1) + 1) by decide) hc0)
  refine e_v X hr dX13_init_78 hS (tS, nS, rS, warm0 w0 (rS (rS q 1) 0) 10) rfl trivial ⟨hB, hkq, ?_⟩ ⟨Nat.le_of_ble_eq_true rfl, Nat.le_of_ble_eq_true rfl⟩
  rw [hqw9]
  exact ⟨qw, qs, qp, qf, t4, n4, r4, w4, hN4, lqw, by omega, by omega, by omega, hfr, hk4, etS, enS, erS, by rw [ew0]⟩
