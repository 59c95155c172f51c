/-! STRINGS and the world's constructor -/
def NC4 (D : va_G) (tc : Nat → ClassId) (e0 q z : Nat) (H : Heap) : Prop := ∃ (q0 q1 q2 q5 q8 q9 q10 : Nat) (f1 f2 : Nat → Nat), z ≤ q0 ∧ q < q0 ∧ q0 < q1 ∧ (∀ j, j < 10 → q1 < f1 j ∧ f1 j < q2 ∧ q2 < f2 j ∧ f2 j < q5) ∧ q1 < q2 ∧ q2 < q5 ∧ q5 < q8 ∧ q8 < q9 ∧ q9 < q10 ∧ (∀ i j, i < 10 → j < 10 → f1 i = f1 j → i = j) ∧ (∀ i j, i < 10 → j < 10 → f2 i = f2 j → i = j) ∧
  va_at D vwCl (q, .inr (16, [.ref q0, .ref q1, .ref q2, .int 2, .int 0, .ref q5, .int 0, .int 0, .ref q8, .ref q9, .ref q10, .int 0])) H ∧ va_at D vwCl (q0, s_in tc (.inr (0, 10, none)) (fun _ => 0)) H ∧ va_at D vwCl (q1, .inl (tc 5, 10, .inr (.inr (.inr (.inr (fun j => if j < 10 then some (f1 j) else none)))))) H ∧ (∀ j, j < 10 → va_at D vwCl (f1 j, s_in tc (.inr (0, 3, none)) (fun _ => 0)) H) ∧
  va_at D vwCl (q2, .inl (tc 5, 10, .inr (.inr (.inr (.inr (fun j => if j < 10 then some (f2 j) else none)))))) H ∧ (∀ j, j < 10 → va_at D vwCl (f2 j, s_in tc (.inr (0, 3, none)) (fun _ => 0)) H) ∧ va_at D vwCl (q5, s_in tc (.inr (0, 12, none)) (fun _ => 0)) H ∧ cL D e0 q8 H ∧ cL D e0 q9 H ∧ cL D e0 q10 H
abbrev rm_in4  : Room := { frames := 4, cells := 27, slots := 111, locals := 80 }
set_option maxHeartbeats 4000000 in
theorem c_in4 (l : Launch) (D : va_G) (tc : Nat → ClassId) (h0 : Nat) (sa : Nat → Nat) (H0 : Heap) (q : Nat) (hat : va_at D vwCl (q, .inr (16, [.null, .null, .null, .int 0, .int 0, .null, .int 0, .int 0, .null, .null, .null, .int 0])) H0) (ha0 : h0 ≤ q) (hh0 : ∀ x, H0.size ≤ x → h0 ≤ x) : MB (S := Unit) l yX12_init cX12_init 1 (Option.none : Option FieldType) (rm_in4 ) (fun x : Nat => x = q ∨ H0.size ≤ x) [.ref q] D tc h0 sa H0 (fun _ => True) (fun _ H1 => NC4 D tc (sa 3) q H0.size H1) (fun _ => none) := by
  refine MB.ofF RX12 [(0, .ref q)] (by decide +kernel) rfl (Nat.le_of_ble_eq_true rfl) rfl ?_
  intro p e s m below meth c ls X hr hin hT hH hS hl
  subst hH
  have hx := X.1
  have hb := X.2.1
  have hown := X.2.2.2.1
  have hU := X.2.2.2.2.1.1
  have hA0 : ∀ x : Nat, (x = q ∨ s.heap.size ≤ x) → h0 ≤ x := fun x h => h.elim (fun e => e ▸ ha0) (hh0 x)
  have hS0 : s.heap.size ≤ s.heap.size := Nat.le_refl _
  have hql := hat.lt
  refine lv_aload_n hx hb dX12_init_0 rfl (lv_at hl 0 rfl) ?_
  refine W.objInit hx hb hown (hU.use mo_X12_3.1) (hU.use mo_X12_3.2.1) (hU.use mo_X12_3.2.2) rfl (hl.1.trans X.2.2.1.symm) rfl dX12_init_1 (Nat.le_of_ble_eq_true rfl) (Nat.le_of_ble_eq_true rfl) ?_
  refine W.eq (g2 := F0 m 4 ls []) rfl ?_
  refine lv_aload_n hx hb dX12_init_4 rfl (lv_at hl 0 rfl) ?_
  refine lv_bipush (v := 10) hx hb dX12_init_5 (by decide) ?_
  refine x_newa (A := (fun x : Nat => x = q ∨ s.heap.size ≤ x)) (n := 10) (N := 10) X (by decide) rfl (by decide) hS (fun x h => Or.inr h) ⟨Nat.le_of_ble_eq_true rfl, Nat.le_of_ble_eq_true rfl⟩ dX12_init_7 (fun q0 H hqq0 y0 hAq hz9 hqz o1 hS => ?_)
  have lq0 := Nat.lt_of_lt_of_le hat.lt hqq0
  have hat := hat.kept (o1 q hat.lt)
  have sq0 := Nat.le_trans hS0 hqq0
  have hS0 := hS.1
  refine x_putF (A := (fun x : Nat => x = q ∨ s.heap.size ≤ x)) X hin dX12_init_9 f_X12_9 rfl rfl hat (Or.inl rfl) hS (Nat.le_of_ble_eq_true rfl) rfl rfl (fun H locs hat oq hz hS => ?_)
  have y0 := y0.kept (oq q0 (fun e => by omega))
  have hS0 := hS.1
  refine lv_aload_n hx hb dX12_init_12 rfl (lv_at hl 0 rfl) ?_
  refine lv_bipush (v := 10) hx hb dX12_init_13 (by decide) ?_
  refine lv_iconst (v := 3) hx hb dX12_init_15 (by decide) ?_
  refine x_mna (A := (fun x : Nat => x = q ∨ s.heap.size ≤ x)) X w_1160 hS (fun x h => Or.inr h) ⟨Nat.le_of_ble_eq_true rfl, Nat.le_of_ble_eq_true rfl⟩ dX12_init_16 (fun q1 f1 H hqq1 lf1 if1 y1 r1 hAF9 hz9 hqz hfz o1 hS => ?_)
  have lq1 := Nat.lt_of_lt_of_le y0.lt hqq1
  have hat := hat.kept (o1 q hat.lt)
  have y0 := y0.kept (o1 q0 y0.lt)
  have hS0 := hS.1
  have mf1 := lf1
  have lf1 : ∀ j, j < 10 → q < f1 j := fun j hj => by have := mf1 j hj; omega
  refine x_putF (A := (fun x : Nat => x = q ∨ s.heap.size ≤ x)) X hin dX12_init_20 f_X12_17 rfl rfl hat (Or.inl rfl) hS (Nat.le_of_ble_eq_true rfl) rfl rfl (fun H locs hat oq hz hS => ?_)
  have y0 := y0.kept (oq q0 (fun e => by omega))
  have y1 := y1.kept (oq q1 (fun e => by omega))
  have r1 := fun j hj => (r1 j hj).kept (oq (f1 j) (fun e => by have := lf1 j hj; omega))
  have hS0 := hS.1
  refine lv_aload_n hx hb dX12_init_23 rfl (lv_at hl 0 rfl) ?_
  refine lv_bipush (v := 10) hx hb dX12_init_24 (by decide) ?_
  refine lv_iconst (v := 3) hx hb dX12_init_26 (by decide) ?_
  refine x_mna (A := (fun x : Nat => x = q ∨ s.heap.size ≤ x)) X w_1160 hS (fun x h => Or.inr h) ⟨Nat.le_of_ble_eq_true rfl, Nat.le_of_ble_eq_true rfl⟩ dX12_init_27 (fun q2 f2 H hqq2 lf2 if2 y2 r2 hAF9 hz9 hqz hfz o1 hS => ?_)
  have lf1q2 := fun j hj => Nat.lt_of_lt_of_le (r1 j hj).lt hqq2
  have lq2 := Nat.lt_of_lt_of_le y1.lt hqq2
  have hat := hat.kept (o1 q hat.lt)
  have y0 := y0.kept (o1 q0 y0.lt)
  have y1 := y1.kept (o1 q1 y1.lt)
  have r1 := fun j hj => (r1 j hj).kept (o1 (f1 j) (r1 j hj).lt)
  have hS0 := hS.1
  have mf2 := lf2
  have lf2 : ∀ j, j < 10 → q < f2 j := fun j hj => by have := mf2 j hj; omega
  refine x_putF (A := (fun x : Nat => x = q ∨ s.heap.size ≤ x)) X hin dX12_init_31 f_X12_20 rfl rfl hat (Or.inl rfl) hS (Nat.le_of_ble_eq_true rfl) rfl rfl (fun H locs hat oq hz hS => ?_)
  have y0 := y0.kept (oq q0 (fun e => by omega))
  have y1 := y1.kept (oq q1 (fun e => by omega))
  have y2 := y2.kept (oq q2 (fun e => by omega))
  have r1 := fun j hj => (r1 j hj).kept (oq (f1 j) (fun e => by have := lf1 j hj; omega))
  have r2 := fun j hj => (r2 j hj).kept (oq (f2 j) (fun e => by have := lf2 j hj; omega))
  have hS0 := hS.1
  refine lv_aload_n hx hb dX12_init_34 rfl (lv_at hl 0 rfl) ?_
  refine lv_iconst (v := 2) hx hb dX12_init_35 (by decide) ?_
  refine x_putv (A := (fun x : Nat => x = q ∨ s.heap.size ≤ x)) X dX12_init_36 f_X12_23 hat (Or.inl rfl) hS (Nat.le_of_ble_eq_true rfl) rfl rfl (fun H locs hat oq hz hS => ?_)
  have y0 := y0.kept (oq q0 (fun e => by omega))
  have y1 := y1.kept (oq q1 (fun e => by omega))
  have y2 := y2.kept (oq q2 (fun e => by omega))
  have r1 := fun j hj => (r1 j hj).kept (oq (f1 j) (fun e => by have := lf1 j hj; omega))
  have r2 := fun j hj => (r2 j hj).kept (oq (f2 j) (fun e => by have := lf2 j hj; omega))
  have hS0 := hS.1
  refine lv_aload_n hx hb dX12_init_39 rfl (lv_at hl 0 rfl) ?_
  refine lv_bipush (v := 12) hx hb dX12_init_40 (by decide) ?_
  refine x_newa (A := (fun x : Nat => x = q ∨ s.heap.size ≤ x)) (n := 12) (N := 12) X (by decide) rfl (by decide) hS (fun x h => Or.inr h) ⟨Nat.le_of_ble_eq_true rfl, Nat.le_of_ble_eq_true rfl⟩ dX12_init_42 (fun q5 H hqq5 y5 hAq hz9 hqz o1 hS => ?_)
  have lf2q5 := fun j hj => Nat.lt_of_lt_of_le (r2 j hj).lt hqq5
  have lq5 := Nat.lt_of_lt_of_le y2.lt hqq5
  have hat := hat.kept (o1 q hat.lt)
  have y0 := y0.kept (o1 q0 y0.lt)
  have y1 := y1.kept (o1 q1 y1.lt)
  have y2 := y2.kept (o1 q2 y2.lt)
  have r1 := fun j hj => (r1 j hj).kept (o1 (f1 j) (r1 j hj).lt)
  have r2 := fun j hj => (r2 j hj).kept (o1 (f2 j) (r2 j hj).lt)
  have sq5 := Nat.le_trans hS0 hqq5
  have hS0 := hS.1
  refine x_putF (A := (fun x : Nat => x = q ∨ s.heap.size ≤ x)) X hin dX12_init_44 f_X12_27 rfl rfl hat (Or.inl rfl) hS (Nat.le_of_ble_eq_true rfl) rfl rfl (fun H locs hat oq hz hS => ?_)
  have y0 := y0.kept (oq q0 (fun e => by omega))
  have y1 := y1.kept (oq q1 (fun e => by omega))
  have y2 := y2.kept (oq q2 (fun e => by omega))
  have y5 := y5.kept (oq q5 (fun e => by omega))
  have r1 := fun j hj => (r1 j hj).kept (oq (f1 j) (fun e => by have := lf1 j hj; omega))
  have r2 := fun j hj => (r2 j hj).kept (oq (f2 j) (fun e => by have := lf2 j hj; omega))
  have hS0 := hS.1
  refine lv_aload_n hx hb dX12_init_47 rfl (lv_at hl 0 rfl) ?_
  refine x_new (A := (fun x : Nat => x = q ∨ s.heap.size ≤ x)) X nw_X12_30 (fs := [.int 0, .null, .int 0]) (fun j hj => by rcases (show j = 0 ∨ j = 1 ∨ j = 2 by omega) with e | e | e <;> subst e <;> rfl) hS (fun x h => Or.inr h) ⟨Nat.le_of_ble_eq_true rfl, Nat.le_of_ble_eq_true rfl⟩ dX12_init_48 (fun q8 H hqq8 y8 hAq hz9 hqz o1 hS => ?_)
  have lq8 := Nat.lt_of_lt_of_le y5.lt hqq8
  have bf1q8 := fun j hj => Nat.lt_of_lt_of_le (r1 j hj).lt hqq8
  have bf2q8 := fun j hj => Nat.lt_of_lt_of_le (r2 j hj).lt hqq8
  have hat := hat.kept (o1 q hat.lt)
  have y0 := y0.kept (o1 q0 y0.lt)
  have y1 := y1.kept (o1 q1 y1.lt)
  have y2 := y2.kept (o1 q2 y2.lt)
  have y5 := y5.kept (o1 q5 y5.lt)
  have r1 := fun j hj => (r1 j hj).kept (o1 (f1 j) (r1 j hj).lt)
  have r2 := fun j hj => (r2 j hj).kept (o1 (f2 j) (r2 j hj).lt)
  have sq8 := Nat.le_trans (show s.heap.size ≤ _ from hS0) hqq8
  have hS0 := hS.1
  refine lv_dup hx hb dX12_init_51 rfl ?_
  refine g_after (st0 := .ref q8 :: [.ref q8, .ref q]) (rest := [.ref q8, .ref q]) (g_I X m_X12_32 (c_Lin l D tc h0 sa _ q8 y8 (hh0 _ sq8)) hT hS hA0 dX12_init_52 hl.1 rfl rfl ⟨Nat.le_of_ble_eq_true rfl, Nat.le_of_ble_eq_true rfl⟩ (Nat.le_of_ble_eq_true rfl) ⟨Nat.le_of_ble_eq_true rfl, Nat.le_of_ble_eq_true rfl⟩) hS (fun x h => Or.inr (h ▸ sq8)) (fun u => [.ref q8, .ref q]) (fun _ => rfl) (fun u H locs hu hP9 hz8 hk9 hS => ?_)
  have y8 := hP9
  have hat := hat.kept (hk9 q hat.lt (fun e => by omega))
  have y0 := y0.kept (hk9 q0 y0.lt (fun e => by omega))
  have y1 := y1.kept (hk9 q1 y1.lt (fun e => by omega))
  have y2 := y2.kept (hk9 q2 y2.lt (fun e => by omega))
  have y5 := y5.kept (hk9 q5 y5.lt (fun e => by omega))
  have r1 := fun j hj => (r1 j hj).kept (hk9 (f1 j) (r1 j hj).lt (fun e => Nat.ne_of_lt (bf1q8 j hj) e))
  have r2 := fun j hj => (r2 j hj).kept (hk9 (f2 j) (r2 j hj).lt (fun e => Nat.ne_of_lt (bf2q8 j hj) e))
  have hS0 := hS.1
  refine x_putF (A := (fun x : Nat => x = q ∨ s.heap.size ≤ x)) X hin dX12_init_55 f_X12_33 rfl rfl hat (Or.inl rfl) hS (Nat.le_of_ble_eq_true rfl) rfl rfl (fun H locs hat oq hz hS => ?_)
  have y0 := y0.kept (oq q0 (fun e => by omega))
  have y1 := y1.kept (oq q1 (fun e => by omega))
  have y2 := y2.kept (oq q2 (fun e => by omega))
  have y5 := y5.kept (oq q5 (fun e => by omega))
  have y8 := y8.kept (oq q8 (fun e => by omega))
  have r1 := fun j hj => (r1 j hj).kept (oq (f1 j) (fun e => by have := lf1 j hj; omega))
  have r2 := fun j hj => (r2 j hj).kept (oq (f2 j) (fun e => by have := lf2 j hj; omega))
  have hS0 := hS.1
  refine lv_aload_n hx hb dX12_init_58 rfl (lv_at hl 0 rfl) ?_
  refine x_new (A := (fun x : Nat => x = q ∨ s.heap.size ≤ x)) X nw_X12_30 (fs := [.int 0, .null, .int 0]) (fun j hj => by rcases (show j = 0 ∨ j = 1 ∨ j = 2 by omega) with e | e | e <;> subst e <;> rfl) hS (fun x h => Or.inr h) ⟨Nat.le_of_ble_eq_true rfl, Nat.le_of_ble_eq_true rfl⟩ dX12_init_59 (fun q9 H hqq9 y9 hAq hz9 hqz o1 hS => ?_)
  have lq9 := Nat.lt_of_lt_of_le y8.lt hqq9
  have bf1q9 := fun j hj => Nat.lt_of_lt_of_le (r1 j hj).lt hqq9
  have bf2q9 := fun j hj => Nat.lt_of_lt_of_le (r2 j hj).lt hqq9
  have hat := hat.kept (o1 q hat.lt)
  have y0 := y0.kept (o1 q0 y0.lt)
  have y1 := y1.kept (o1 q1 y1.lt)
  have y2 := y2.kept (o1 q2 y2.lt)
  have y5 := y5.kept (o1 q5 y5.lt)
  have y8 := y8.kept (o1 q8 y8.lt)
  have r1 := fun j hj => (r1 j hj).kept (o1 (f1 j) (r1 j hj).lt)
  have r2 := fun j hj => (r2 j hj).kept (o1 (f2 j) (r2 j hj).lt)
  have sq9 := Nat.le_trans (show s.heap.size ≤ _ from hS0) hqq9
  have hS0 := hS.1
  refine lv_dup hx hb dX12_init_62 rfl ?_
  refine g_after (st0 := .ref q9 :: [.ref q9, .ref q]) (rest := [.ref q9, .ref q]) (g_I X m_X12_32 (c_Lin l D tc h0 sa _ q9 y9 (hh0 _ sq9)) hT hS hA0 dX12_init_63 hl.1 rfl rfl ⟨Nat.le_of_ble_eq_true rfl, Nat.le_of_ble_eq_true rfl⟩ (Nat.le_of_ble_eq_true rfl) ⟨Nat.le_of_ble_eq_true rfl, Nat.le_of_ble_eq_true rfl⟩) hS (fun x h => Or.inr (h ▸ sq9)) (fun u => [.ref q9, .ref q]) (fun _ => rfl) (fun u H locs hu hP9 hz8 hk9 hS => ?_)
  have y9 := hP9
  have hat := hat.kept (hk9 q hat.lt (fun e => by omega))
  have y0 := y0.kept (hk9 q0 y0.lt (fun e => by omega))
  have y1 := y1.kept (hk9 q1 y1.lt (fun e => by omega))
  have y2 := y2.kept (hk9 q2 y2.lt (fun e => by omega))
  have y5 := y5.kept (hk9 q5 y5.lt (fun e => by omega))
  have y8 := y8.kept (hk9 q8 y8.lt (fun e => by omega))
  have r1 := fun j hj => (r1 j hj).kept (hk9 (f1 j) (r1 j hj).lt (fun e => Nat.ne_of_lt (bf1q9 j hj) e))
  have r2 := fun j hj => (r2 j hj).kept (hk9 (f2 j) (r2 j hj).lt (fun e => Nat.ne_of_lt (bf2q9 j hj) e))
  have hS0 := hS.1
  refine x_putF (A := (fun x : Nat => x = q ∨ s.heap.size ≤ x)) X hin dX12_init_66 f_X12_37 rfl rfl hat (Or.inl rfl) hS (Nat.le_of_ble_eq_true rfl) rfl rfl (fun H locs hat oq hz hS => ?_)
  have y0 := y0.kept (oq q0 (fun e => by omega))
  have y1 := y1.kept (oq q1 (fun e => by omega))
  have y2 := y2.kept (oq q2 (fun e => by omega))
  have y5 := y5.kept (oq q5 (fun e => by omega))
  have y8 := y8.kept (oq q8 (fun e => by omega))
  have y9 := y9.kept (oq q9 (fun e => by omega))
  have r1 := fun j hj => (r1 j hj).kept (oq (f1 j) (fun e => by have := lf1 j hj; omega))
  have r2 := fun j hj => (r2 j hj).kept (oq (f2 j) (fun e => by have := lf2 j hj; omega))
  have hS0 := hS.1
  refine lv_aload_n hx hb dX12_init_69 rfl (lv_at hl 0 rfl) ?_
  refine x_new (A := (fun x : Nat => x = q ∨ s.heap.size ≤ x)) X nw_X12_30 (fs := [.int 0, .null, .int 0]) (fun j hj => by rcases (show j = 0 ∨ j = 1 ∨ j = 2 by omega) with e | e | e <;> subst e <;> rfl) hS (fun x h => Or.inr h) ⟨Nat.le_of_ble_eq_true rfl, Nat.le_of_ble_eq_true rfl⟩ dX12_init_70 (fun q10 H hqq10 y10 hAq hz9 hqz o1 hS => ?_)
  have lq10 := Nat.lt_of_lt_of_le y9.lt hqq10
  have bf1q10 := fun j hj => Nat.lt_of_lt_of_le (r1 j hj).lt hqq10
  have bf2q10 := fun j hj => Nat.lt_of_lt_of_le (r2 j hj).lt hqq10
  have hat := hat.kept (o1 q hat.lt)
  have y0 := y0.kept (o1 q0 y0.lt)
  have y1 := y1.kept (o1 q1 y1.lt)
  have y2 := y2.kept (o1 q2 y2.lt)
  have y5 := y5.kept (o1 q5 y5.lt)
  have y8 := y8.kept (o1 q8 y8.lt)
  have y9 := y9.kept (o1 q9 y9.lt)
  have r1 := fun j hj => (r1 j hj).kept (o1 (f1 j) (r1 j hj).lt)
  have r2 := fun j hj => (r2 j hj).kept (o1 (f2 j) (r2 j hj).lt)
  have sq10 := Nat.le_trans (show s.heap.size ≤ _ from hS0) hqq10
  have hS0 := hS.1
  refine lv_dup hx hb dX12_init_73 rfl ?_
  refine g_after (st0 := .ref q10 :: [.ref q10, .ref q]) (rest := [.ref q10, .ref q]) (g_I X m_X12_32 (c_Lin l D tc h0 sa _ q10 y10 (hh0 _ sq10)) hT hS hA0 dX12_init_74 hl.1 rfl rfl ⟨Nat.le_of_ble_eq_true rfl, Nat.le_of_ble_eq_true rfl⟩ (Nat.le_of_ble_eq_true rfl) ⟨Nat.le_of_ble_eq_true rfl, Nat.le_of_ble_eq_true rfl⟩) hS (fun x h => Or.inr (h ▸ sq10)) (fun u => [.ref q10, .ref q]) (fun _ => rfl) (fun u H locs hu hP9 hz8 hk9 hS => ?_)
  have y10 := hP9
  have hat := hat.kept (hk9 q hat.lt (fun e => by omega))
  have y0 := y0.kept (hk9 q0 y0.lt (fun e => by omega))
  have y1 := y1.kept (hk9 q1 y1.lt (fun e => by omega))
  have y2 := y2.kept (hk9 q2 y2.lt (fun e => by omega))
  have y5 := y5.kept (hk9 q5 y5.lt (fun e => by omega))
  have y8 := y8.kept (hk9 q8 y8.lt (fun e => by omega))
  have y9 := y9.kept (hk9 q9 y9.lt (fun e => by omega))
  have r1 := fun j hj => (r1 j hj).kept (hk9 (f1 j) (r1 j hj).lt (fun e => Nat.ne_of_lt (bf1q10 j hj) e))
  have r2 := fun j hj => (r2 j hj).kept (hk9 (f2 j) (r2 j hj).lt (fun e => Nat.ne_of_lt (bf2q10 j hj) e))
  have hS0 := hS.1
  refine x_putF (A := (fun x : Nat => x = q ∨ s.heap.size ≤ x)) X hin dX12_init_77 f_X12_40 rfl rfl hat (Or.inl rfl) hS (Nat.le_of_ble_eq_true rfl) rfl rfl (fun H locs hat oq hz hS => ?_)
  have y0 := y0.kept (oq q0 (fun e => by omega))
  have y1 := y1.kept (oq q1 (fun e => by omega))
  have y2 := y2.kept (oq q2 (fun e => by omega))
  have y5 := y5.kept (oq q5 (fun e => by omega))
  have y8 := y8.kept (oq q8 (fun e => by omega))
  have y9 := y9.kept (oq q9 (fun e => by omega))
  have y10 := y10.kept (oq q10 (fun e => by omega))
  have r1 := fun j hj => (r1 j hj).kept (oq (f1 j) (fun e => by have := lf1 j hj; omega))
  have r2 := fun j hj => (r2 j hj).kept (oq (f2 j) (fun e => by have := lf2 j hj; omega))
  have hS0 := hS.1
  exact e_v X hr dX12_init_80 hS () rfl trivial ⟨q0, q1, q2, q5, q8, q9, q10, f1, f2, sq0, lq0, lq1, fun j hj => ⟨mf1 j hj, lf1q2 j hj, mf2 j hj, lf2q5 j hj⟩, lq2, lq5, lq8, lq9, lq10, if1, if2, hat, y0, y1, r1, y2, r2, y5, y8, y9, y10⟩ ⟨Nat.le_of_ble_eq_true rfl, Nat.le_of_ble_eq_true rfl⟩
section MK4
variable {D : va_G} {tc : Nat → ClassId} {e0 : Nat} {A B : Nat → Prop} {t n : Nat → Nat} {r : Nat → Nat → Nat} {w : Dt} {H H1 : Heap}
theorem SB.addI (h : SB D tc e0 A t n r w H) {q k : Nat} {W : Nat → Int32} {c : Sc} (hA : ¬ A q) (hc : kcel k 0 (r q) 0 = some c) (hat : va_at D vwCl (q, s_in tc c W) H) (hwt : kwt (va_up t q k) k 0 (r q)) (hl : isL k = false := by rfl) : t q = 0 ∧ SB D tc e0 (fun x => A x ∨ x = q) (va_up t q k) n r (va_up w q W) H ∧ Ext t (va_up t q k) := by
  have := h.add1 hA hc hat hwt hl
  rw [up_id] at this
  exact this
theorem ups_ne {α : Type} {f : Nat → Nat} {v : α} {x : Nat} : ∀ {m : Nat} {t : Nat → α}, (∀ j, j < m → f j ≠ x) → ups f v m t x = t x
  | 0, t, _ => rfl
  | m + 1, t, h => by
    show va_up (ups f v m t) (f m) v x = t x
    rw [va_up_ne _ _ (fun e => h m (by omega) e.symm)]
    exact ups_ne (fun j hj => h j (by omega))
theorem ups_at {α : Type} {f : Nat → Nat} {v : α} {j : Nat} : ∀ {m : Nat} {t : Nat → α}, j < m → ups f v m t (f j) = v
  | 0, t, h => by omega
  | m + 1, t, h => by
    show va_up (ups f v m t) (f m) v (f j) = v
    by_cases e : f j = f m
    · rw [e, va_up_self]
    · rw [va_up_ne _ _ e]
      exact ups_at (by
        by_cases e2 : j = m
        · exact absurd (by rw [e2]) e
        · omega)
theorem SB.addRows (h : SB D tc e0 A t n r w H) {f : Nat → Nat} (hf : ∀ j, j < 10 → ¬ A (f j)) (hi : ∀ i j, i < 10 → j < 10 → f i = f j → i = j) (hat : ∀ j, j < 10 → va_at D vwCl (f j, s_in tc (.inr (0, 3, none)) (fun _ => 0)) H) : ∀ m, m ≤ 10 → SB D tc e0 (fun x => A x ∨ ∃ j, j < m ∧ x = f j) (ups f 23 m t) n r (ups f (fun _ => 0) m w) H ∧ Ext t (ups f 23 m t)
  | 0, _ => ⟨h.regs (fun x z => Or.inl z), Ext.rf⟩
  | m + 1, hm => by
    obtain ⟨g1, g2⟩ := SB.addRows h hf hi hat m (by omega)
    obtain ⟨-, g4, g5⟩ := g1.addI (q := f m) (k := 23) (W := fun _ => 0) (fun z => z.elim (hf m (by omega)) (fun ⟨j, hj, e⟩ => by have := hi m j (by omega) (by omega) e; omega)) rfl (hat m (by omega)) trivial
    exact ⟨g4.regs (fun x z => z.elim (fun z => z.elim Or.inl (fun ⟨j, hj, e⟩ => Or.inr ⟨j, by omega, e⟩)) (fun z => Or.inr ⟨m, by omega, z⟩)), g2.trans g5⟩
def RC (A : Nat → Prop) (z q b : Nat) : Nat → Prop := fun x => (A x ∧ x < z) ∨ (q < x ∧ x < b)
theorem RC.no {z q b c : Nat} (h1 : z ≤ c) (h2 : b ≤ c ∨ c ≤ q) : ¬ RC A z q b c := fun h => h.elim (fun h => by omega) (fun h => by omega)
theorem RC.up {z q b b' : Nat} (h : b ≤ b') : ∀ x, RC A z q b x → RC A z q b' x := fun x h9 => h9.elim Or.inl (fun z => Or.inr ⟨z.1, by omega⟩)
theorem SB.make4 (h : SB D tc e0 A t n r w H) {q z : Nat} (hA : A q) (hAF : ∀ x, H.size ≤ x → A x) (hq : H.size ≤ q) (o1 : ∀ x, x < H.size → H1[x]? = H[x]?) (hc : NC4 D tc e0 q z H1) (hz : H.size ≤ z) : ∃ (t' n' : Nat → Nat) (r' : Nat → Nat → Nat) (w' : Dt), SB D tc e0 A t' n' r' w' H1 ∧ NEW4 t n r w q t' n' r' w' ∧ Ext t t' ∧ t' q = 4 := by
  obtain ⟨q0, q1, q2, q5, q8, q9, q10, f1, f2, hz0, p0, p1, pf, p2, p5, p8, p9, p10, i1, i2, a, a0, a1, b1, a2, b2, a5, a8, a9, a10⟩ := hc
  have h0 := (h.mono (B := RC A H.size q q0) (fun x hx hA => Or.inl ⟨hA, hx⟩)).kept (fun x hx _ => o1 x hx)
  have hfr : ∀ x, q ≤ x → t x = 0 := fun x hx => Classical.byContradiction fun e => by have := (h.lt e).1; omega
  -- warm
  obtain ⟨-, k0, x0⟩ := h0.addI (q := q0) (k := 1) (W := fun _ => 0) (RC.no (by omega) (Or.inl (Nat.le_refl _))) rfl a0 trivial
  have k0 := k0.regs (B := RC A H.size q q1) (fun x z => z.elim (RC.up (by omega) x) (fun e => Or.inr ⟨by omega, by omega⟩))
  -- vapour
  obtain ⟨k1, x1⟩ := k0.addRows (f := f1) (fun j hj => RC.no (by have := pf j hj; omega) (Or.inl (by have := pf j hj; omega))) i1 b1 10 (Nat.le_refl _)
  obtain ⟨-, k2, x2⟩ := k1.add1 (q := q1) (k := 2) (R := f1) (W := fun _ => 0) (fun z => z.elim (RC.no (by omega) (Or.inl (Nat.le_refl _))) (fun ⟨j, hj, e⟩ => by have := pf j hj; omega)) rfl a1 (fun j hj => by rw [va_up_ne _ _ (fun e => by have := pf j hj; omega)]; exact ups_at hj)
  have k2 := k2.regs (B := RC A H.size q q2) (fun x z => z.elim (fun z => z.elim (RC.up (by omega) x) (fun ⟨j, hj, e⟩ => Or.inr (by have := pf j hj; omega))) (fun e => Or.inr ⟨by omega, by omega⟩))
  -- ice
  obtain ⟨k3, x3⟩ := k2.addRows (f := f2) (fun j hj => RC.no (by have := pf j hj; omega) (Or.inl (by have := pf j hj; omega))) i2 b2 10 (Nat.le_refl _)
  obtain ⟨-, k4, x4⟩ := k3.add1 (q := q2) (k := 2) (R := f2) (W := fun _ => 0) (fun z => z.elim (RC.no (by omega) (Or.inl (Nat.le_refl _))) (fun ⟨j, hj, e⟩ => by have := pf j hj; omega)) rfl a2 (fun j hj => by rw [va_up_ne _ _ (fun e => by have := pf j hj; omega)]; exact ups_at hj)
  have k4 := k4.regs (B := RC A H.size q q5) (fun x z => z.elim (fun z => z.elim (RC.up (by omega) x) (fun ⟨j, hj, e⟩ => Or.inr (by have := pf j hj; omega))) (fun e => Or.inr ⟨by omega, by omega⟩))
  -- turning, lists
  obtain ⟨-, k5, x5⟩ := k4.addI (q := q5) (k := 22) (W := fun _ => 0) (RC.no (by omega) (Or.inl (Nat.le_refl _))) rfl a5 trivial
  have k5 := k5.regs (B := RC A H.size q q8) (fun x z => z.elim (RC.up (by omega) x) (fun e => Or.inr ⟨by omega, by omega⟩))
  obtain ⟨-, k8, x8⟩ := k5.addL (k := 8) rfl (q := q8) (RC.no (by omega) (Or.inl (Nat.le_refl _))) a8
  have k8 := k8.regs (B := RC A H.size q q9) (fun x z => z.elim (RC.up (by omega) x) (fun e => Or.inr ⟨by omega, by omega⟩))
  obtain ⟨-, k9, x9⟩ := k8.addL (k := 9) rfl (q := q9) (RC.no (by omega) (Or.inl (Nat.le_refl _))) a9
  have k9 := k9.regs (B := RC A H.size q q10) (fun x z => z.elim (RC.up (by omega) x) (fun e => Or.inr ⟨by omega, by omega⟩))
  obtain ⟨-, k10, x10⟩ := k9.addL (k := 15) rfl (q := q10) (RC.no (by omega) (Or.inl (Nat.le_refl _))) a10
  have k10 := k10.regs (B := RC A H.size q (q10 + 1)) (fun x z => z.elim (RC.up (by omega) x) (fun e => Or.inr ⟨by omega, by omega⟩))
  have hwt : ∀ {T : Nat → Nat} {x k : Nat}, T x = k → x ≠ q → va_up T q 4 x = k := fun e hx => by rw [va_up_ne _ _ hx]; exact e
  have u10 := va_up_self (va_up (va_up (va_up (ups f2 23 10 (va_up (ups f1 23 10 (va_up t q0 1)) q1 2)) q2 2) q5 22) q8 8) q9 9
  obtain ⟨-, k11, x11⟩ := k10.add1 (q := q) (k := 4) (R := wR q0 q1 q2 q5 q8 q9 q10) (W := wW) (RC.no (by omega) (Or.inr (Nat.le_refl _))) rfl a
    ⟨hwt (x10.to (x9.to (x8.to (x5.to (x4.to (x3.to (x2.to (x1.to (va_up_self _ _ _)))))))) ) (fun e => by change q0 = q at e; omega), hwt (x10.to (x9.to (x8.to (x5.to (x4.to (x3.to (va_up_self _ _ _))))))) (fun e => by change q1 = q at e; omega), hwt (x10.to (x9.to (x8.to (x5.to (va_up_self _ _ _))))) (fun e => by change q2 = q at e; omega), hwt (x10.to (x9.to (x8.to (va_up_self _ _ _)))) (fun e => by change q5 = q at e; omega), hwt (x10.to (x9.to (va_up_self _ _ _))) (fun e => by change q8 = q at e; omega), hwt (x10.to (va_up_self _ _ _)) (fun e => by change q9 = q at e; omega), hwt (va_up_self _ _ _) (fun e => by change q10 = q at e; omega)⟩
  exact ⟨_, _, _, _, k11.regs (fun x z => z.elim (fun z => z.elim (fun z => z.1) (fun z => hAF x (by omega))) (fun z => z ▸ hA)), ⟨q0, q1, q2, q5, q8, q9, q10, f1, f2, p0, p1, pf, p2, p5, p8, p9, p10, i1, i2, hfr, rfl, rfl, rfl, rfl⟩, ((((((((((x0.trans x1).trans x2).trans x3).trans x4).trans x5).trans x8).trans x9).trans x10)).trans x11), va_up_self _ _ _⟩
end MK4
