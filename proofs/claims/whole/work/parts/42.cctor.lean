/-! THE CLASS: constructors -/
section NEWT
variable {p : Program} {l : Launch} {e : Env} {R : Room} {s : State} {m : MethodId} {args : Array Value} {below : List Frame} {meth : Method} {c : Code} {H : Heap} {locs : List Loc} {cells slots : Nat} {Q : State → Prop}
variable {cc : ByteArray} {nL : Nat} {own : String} {D : va_G} {tc : Nat → ClassId} {pc : Nat} {ls : Array Slot} {rest : List Value} {A A1 : Nat → Prop} {H0 : Heap} {index ci k a b cap : Nat} {ty : FieldType} {fin : Bool} {fs : List Value} {F : Nat → Option Nat}
theorem x_newc (X : Cx p c s m meth cc nL own D tc) {n : Int32} {N : Nat} (hn : ¬ n < 0) (hN : n.toNatClampNeg = N) (hb4 : N * 8 ≤ 536870912) (hS : va_S A H0 H locs) (hA : ∀ q, H0.size ≤ q → A q) (hcs : cells + 1 ≤ R.cells ∧ slots + N ≤ R.slots) (hd : decode cc pc = .ok (.newarray .char, 2))
    (kk : ∀ (q : Nat) (H1 : Heap), H.size ≤ q → va_at D vwCl (q, s_in tc (.inr (2, N, none)) (fun _ => 0)) H1 → A q → H.size ≤ H1.size → q < H1.size → (∀ x, x < H.size → H1[x]? = H[x]?) → va_S A H0 H1 locs → W p l e R s m args below meth c H1 locs (cells + 1) (slots + N) Q (F0 m (pc + 2) ls (.ref q :: rest))) : W p l e R s m args below meth c H locs cells slots Q (F0 m pc ls (.int n :: rest)) := by
  obtain ⟨hx, hb, -, hown, hK, -⟩ := X
  have harr : (Cond.arrayClass (newarray.typeOf .char)).before args s = true := va_arr (hK.2.2.2.1 .char (by decide))
  refine va_newaK hx hb harr rfl hd rfl hn hN (Nat.le_trans (Nat.mul_le_mul_left N (show componentBytes (newarray.typeOf .char) ≤ 8 by decide)) hb4) hcs.1 hcs.2 rfl fun H1 cA e1 z1 o1 hAr hNm => ?_
  cases ((hK.2.1.2 2 _ rfl).2 : s.vm.findClass _ = some (tc 2)).symm.trans hNm
  exact kk H.size H1 (Nat.le_refl _) e1 (hA _ hS.1) (by omega) (by omega) o1 ⟨Nat.le_trans hS.1 (by omega), fun x h1 h2 => (o1 x (Nat.lt_of_lt_of_le h1 hS.1)).trans (hS.2.1 x h1 h2), hS.2.2⟩
theorem x_newz (X : Cx p c s m meth cc nL own D tc) {n : Int32} {N : Nat} (hn : ¬ n < 0) (hN : n.toNatClampNeg = N) (hb4 : N * 8 ≤ 536870912) (hS : va_S A H0 H locs) (hA : ∀ q, H0.size ≤ q → A q) (hcs : cells + 1 ≤ R.cells ∧ slots + N ≤ R.slots) (hd : decode cc pc = .ok (.newarray .boolean, 2))
    (kk : ∀ (q : Nat) (H1 : Heap), H.size ≤ q → va_at D vwCl (q, s_in tc (.inr (1, N, none)) (fun _ => 0)) H1 → A q → H.size ≤ H1.size → q < H1.size → (∀ x, x < H.size → H1[x]? = H[x]?) → va_S A H0 H1 locs → W p l e R s m args below meth c H1 locs (cells + 1) (slots + N) Q (F0 m (pc + 2) ls (.ref q :: rest))) : W p l e R s m args below meth c H locs cells slots Q (F0 m pc ls (.int n :: rest)) := by
  obtain ⟨hx, hb, -, hown, hK, -⟩ := X
  have harr : (Cond.arrayClass (newarray.typeOf .boolean)).before args s = true := va_arr (hK.2.2.2.1 .boolean (by decide))
  refine va_newaK hx hb harr rfl hd rfl hn hN (Nat.le_trans (Nat.mul_le_mul_left N (show componentBytes (newarray.typeOf .boolean) ≤ 8 by decide)) hb4) hcs.1 hcs.2 rfl fun H1 cA e1 z1 o1 hAr hNm => ?_
  cases ((hK.2.1.2 1 _ rfl).2 : s.vm.findClass _ = some (tc 1)).symm.trans hNm
  exact kk H.size H1 (Nat.le_refl _) e1 (hA _ hS.1) (by omega) (by omega) o1 ⟨Nat.le_trans hS.1 (by omega), fun x h1 h2 => (o1 x (Nat.lt_of_lt_of_le h1 hS.1)).trans (hS.2.1 x h1 h2), hS.2.2⟩
theorem x_newl (X : Cx p c s m meth cc nL own D tc) {n : Int32} {N : Nat} (hn : ¬ n < 0) (hN : n.toNatClampNeg = N) (hb4 : N * 8 ≤ 536870912) (hS : va_S A H0 H locs) (hA : ∀ q, H0.size ≤ q → A q) (hcs : cells + 1 ≤ R.cells ∧ slots + N ≤ R.slots) (hd : decode cc pc = .ok (.newarray .long, 2))
    (kk : ∀ (q : Nat) (H1 : Heap), H.size ≤ q → va_at D vwCl (q, .inl (tc 3, N, .inr (.inl (fun _ => 0)))) H1 → A q → H.size ≤ H1.size → q < H1.size → (∀ x, x < H.size → H1[x]? = H[x]?) → va_S A H0 H1 locs → W p l e R s m args below meth c H1 locs (cells + 1) (slots + N) Q (F0 m (pc + 2) ls (.ref q :: rest))) : W p l e R s m args below meth c H locs cells slots Q (F0 m pc ls (.int n :: rest)) := by
  obtain ⟨hx, hb, -, hown, hK, -⟩ := X
  have harr : (Cond.arrayClass (newarray.typeOf .long)).before args s = true := va_arr (hK.2.2.2.1 .long (by decide))
  refine va_newaK hx hb harr rfl hd rfl hn hN (Nat.le_trans (Nat.mul_le_mul_left N (show componentBytes (newarray.typeOf .long) ≤ 8 by decide)) hb4) hcs.1 hcs.2 rfl fun H1 cA e1 z1 o1 hAr hNm => ?_
  cases ((hK.2.1.2 3 _ rfl).2 : s.vm.findClass _ = some (tc 3)).symm.trans hNm
  exact kk H.size H1 (Nat.le_refl _) e1 (hA _ hS.1) (by omega) (by omega) o1 ⟨Nat.le_trans hS.1 (by omega), fun x h1 h2 => (o1 x (Nat.lt_of_lt_of_le h1 hS.1)).trans (hS.2.1 x h1 h2), hS.2.2⟩
end NEWT
def CBX0 (D : va_G) (tc : Nat → ClassId) (q z : Nat) (H : Heap) : Prop := ∃ a1 : Nat, z ≤ a1 ∧ q < a1 ∧ va_at D vwCl (q, .inr (4, [.ref a1, .int 0, .int 0, .int 0])) H ∧ va_at D vwCl (a1, s_in tc (.inr (0, 12, none)) (fun _ => 0)) H
abbrev rm_k0  : Room := { frames := 1, cells := 1, slots := 12, locals := 20 }
set_option maxHeartbeats 4000000 in
theorem c_k0 (l : Launch) (D : va_G) (tc : Nat → ClassId) (h0 : Nat) (sa : Nat → Nat) (H0 : Heap) (q : Nat) (hat : va_at D vwCl (q, .inr (4, [.null, .int 0, .int 0, .int 0])) H0) (ha0 : h0 ≤ q) (hh0 : ∀ x, H0.size ≤ x → h0 ≤ x) : MB (S := Unit) l yX0_init cX0_init 1 (Option.none : Option FieldType) (rm_k0 ) (fun x : Nat => x = q ∨ H0.size ≤ x) [.ref q] D tc h0 sa H0 (fun _ => True) (fun _ H1 => CBX0 D tc q H0.size H1) (fun _ => none) := by
  refine MB.of RX0 [(0, .ref q)] (by decide +kernel) rfl (Nat.le_of_ble_eq_true rfl) rfl ?_
  intro p e s m below meth c ls X hr hin hT hH hS hl
  subst hH
  have hx := X.1
  have hb := X.2.1
  have hown := X.2.2.2.1
  have hU := X.2.2.2.2.1.1
  have hA0 : ∀ x : Nat, (x = q ∨ s.heap.size ≤ x) → h0 ≤ x := fun x h => h.elim (fun e => e ▸ ha0) (hh0 x)
  have hS0 : s.heap.size ≤ s.heap.size := Nat.le_refl _
  have hql := hat.lt
  refine lv_aload_n hx hb dX0_init_0 rfl (lv_at hl 0 rfl) ?_
  refine W.objInit hx hb hown (hU.use mo_X0_3.1) (hU.use mo_X0_3.2.1) (hU.use mo_X0_3.2.2) rfl (hl.1.trans X.2.2.1.symm) rfl dX0_init_1 (Nat.le_of_ble_eq_true rfl) (Nat.le_of_ble_eq_true rfl) ?_
  refine W.eq (g2 := F0 m 4 ls []) rfl ?_
  refine lv_aload_n hx hb dX0_init_4 rfl (lv_at hl 0 rfl) ?_
  refine lv_bipush (v := 12) hx hb dX0_init_5 (by decide) ?_
  refine x_newa (A := (fun x : Nat => x = q ∨ s.heap.size ≤ x)) (n := 12) (N := 12) X (by decide) rfl (by decide) hS (fun x h => Or.inr h) ⟨Nat.le_of_ble_eq_true rfl, Nat.le_of_ble_eq_true rfl⟩ dX0_init_7 (fun a1 H hqa1 y1 hAq hz9 hqz o1 hS => ?_)
  have la1 := Nat.lt_of_lt_of_le hat.lt hqa1
  have hat := hat.kept (o1 q hat.lt)
  have sa1 := Nat.le_trans hS0 hqa1
  have hS0 := hS.1
  refine x_putF (A := (fun x : Nat => x = q ∨ s.heap.size ≤ x)) X hin dX0_init_9 f_X0_9 rfl rfl hat (Or.inl rfl) hS (Nat.le_of_ble_eq_true rfl) rfl rfl (fun H locs hat oq hz hS => ?_)
  have y1 := y1.kept (oq a1 (fun e => by omega))
  have hS0 := hS.1
  exact e_v X hr dX0_init_12 hS () rfl trivial ⟨a1, sa1, la1, hat, y1⟩ ⟨Nat.le_of_ble_eq_true rfl, Nat.le_of_ble_eq_true rfl⟩
def CBX3 (D : va_G) (tc : Nat → ClassId) (q z : Nat) (H : Heap) : Prop := ∃ a1 a2 : Nat, z ≤ a1 ∧ q < a1 ∧ a1 < a2 ∧ va_at D vwCl (q, .inr (7, [.int 0, .ref a1, .ref a2])) H ∧ va_at D vwCl (a1, s_in tc (.inr (2, 60, none)) (fun _ => 0)) H ∧ va_at D vwCl (a2, s_in tc (.inr (0, 60, none)) (fun _ => 0)) H
abbrev rm_k3  : Room := { frames := 1, cells := 2, slots := 120, locals := 20 }
set_option maxHeartbeats 4000000 in
theorem c_k3 (l : Launch) (D : va_G) (tc : Nat → ClassId) (h0 : Nat) (sa : Nat → Nat) (H0 : Heap) (q : Nat) (hat : va_at D vwCl (q, .inr (7, [.int 0, .null, .null])) H0) (ha0 : h0 ≤ q) (hh0 : ∀ x, H0.size ≤ x → h0 ≤ x) : MB (S := Unit) l yX3_init cX3_init 1 (Option.none : Option FieldType) (rm_k3 ) (fun x : Nat => x = q ∨ H0.size ≤ x) [.ref q] D tc h0 sa H0 (fun _ => True) (fun _ H1 => CBX3 D tc q H0.size H1) (fun _ => none) := by
  refine MB.of RX3 [(0, .ref q)] (by decide +kernel) rfl (Nat.le_of_ble_eq_true rfl) rfl ?_
  intro p e s m below meth c ls X hr hin hT hH hS hl
  subst hH
  have hx := X.1
  have hb := X.2.1
  have hown := X.2.2.2.1
  have hU := X.2.2.2.2.1.1
  have hA0 : ∀ x : Nat, (x = q ∨ s.heap.size ≤ x) → h0 ≤ x := fun x h => h.elim (fun e => e ▸ ha0) (hh0 x)
  have hS0 : s.heap.size ≤ s.heap.size := Nat.le_refl _
  have hql := hat.lt
  refine lv_aload_n hx hb dX3_init_0 rfl (lv_at hl 0 rfl) ?_
  refine W.objInit hx hb hown (hU.use mo_X3_3.1) (hU.use mo_X3_3.2.1) (hU.use mo_X3_3.2.2) rfl (hl.1.trans X.2.2.1.symm) rfl dX3_init_1 (Nat.le_of_ble_eq_true rfl) (Nat.le_of_ble_eq_true rfl) ?_
  refine W.eq (g2 := F0 m 4 ls []) rfl ?_
  refine lv_aload_n hx hb dX3_init_4 rfl (lv_at hl 0 rfl) ?_
  refine lv_bipush (v := 60) hx hb dX3_init_5 (by decide) ?_
  refine x_newc (A := (fun x : Nat => x = q ∨ s.heap.size ≤ x)) (n := 60) (N := 60) X (by decide) rfl (by decide) hS (fun x h => Or.inr h) ⟨Nat.le_of_ble_eq_true rfl, Nat.le_of_ble_eq_true rfl⟩ dX3_init_7 (fun a1 H hqa1 y1 hAq hz9 hqz o1 hS => ?_)
  have la1 := Nat.lt_of_lt_of_le hat.lt hqa1
  have hat := hat.kept (o1 q hat.lt)
  have sa1 := Nat.le_trans hS0 hqa1
  have hS0 := hS.1
  refine x_putF (A := (fun x : Nat => x = q ∨ s.heap.size ≤ x)) X hin dX3_init_9 f_X3_9 rfl rfl hat (Or.inl rfl) hS (Nat.le_of_ble_eq_true rfl) rfl rfl (fun H locs hat oq hz hS => ?_)
  have y1 := y1.kept (oq a1 (fun e => by omega))
  have hS0 := hS.1
  refine lv_aload_n hx hb dX3_init_12 rfl (lv_at hl 0 rfl) ?_
  refine lv_bipush (v := 60) hx hb dX3_init_13 (by decide) ?_
  refine x_newa (A := (fun x : Nat => x = q ∨ s.heap.size ≤ x)) (n := 60) (N := 60) X (by decide) rfl (by decide) hS (fun x h => Or.inr h) ⟨Nat.le_of_ble_eq_true rfl, Nat.le_of_ble_eq_true rfl⟩ dX3_init_15 (fun a2 H hqa2 y2 hAq hz9 hqz o1 hS => ?_)
  have la2 := Nat.lt_of_lt_of_le y1.lt hqa2
  have hat := hat.kept (o1 q hat.lt)
  have y1 := y1.kept (o1 a1 y1.lt)
  have sa2 := Nat.le_trans hS0 hqa2
  have hS0 := hS.1
  refine x_putF (A := (fun x : Nat => x = q ∨ s.heap.size ≤ x)) X hin dX3_init_17 f_X3_15 rfl rfl hat (Or.inl rfl) hS (Nat.le_of_ble_eq_true rfl) rfl rfl (fun H locs hat oq hz hS => ?_)
  have y1 := y1.kept (oq a1 (fun e => by omega))
  have y2 := y2.kept (oq a2 (fun e => by omega))
  have hS0 := hS.1
  exact e_v X hr dX3_init_20 hS () rfl trivial ⟨a1, a2, sa1, la1, la2, hat, y1, y2⟩ ⟨Nat.le_of_ble_eq_true rfl, Nat.le_of_ble_eq_true rfl⟩
def CBX5 (D : va_G) (tc : Nat → ClassId) (q z : Nat) (H : Heap) : Prop := ∃ a1 a2 a3 : Nat, z ≤ a1 ∧ q < a1 ∧ a1 < a2 ∧ a2 < a3 ∧ va_at D vwCl (q, .inr (9, [.int 0, .ref a1, .ref a2, .ref a3])) H ∧ va_at D vwCl (a1, s_in tc (.inr (0, 8, none)) (fun _ => 0)) H ∧ va_at D vwCl (a2, s_in tc (.inr (0, 8, none)) (fun _ => 0)) H ∧ va_at D vwCl (a3, s_in tc (.inr (0, 8, none)) (fun _ => 0)) H
abbrev rm_k5  : Room := { frames := 1, cells := 3, slots := 24, locals := 20 }
set_option maxHeartbeats 4000000 in
theorem c_k5 (l : Launch) (D : va_G) (tc : Nat → ClassId) (h0 : Nat) (sa : Nat → Nat) (H0 : Heap) (q : Nat) (hat : va_at D vwCl (q, .inr (9, [.int 0, .null, .null, .null])) H0) (ha0 : h0 ≤ q) (hh0 : ∀ x, H0.size ≤ x → h0 ≤ x) : MB (S := Unit) l yX5_init cX5_init 1 (Option.none : Option FieldType) (rm_k5 ) (fun x : Nat => x = q ∨ H0.size ≤ x) [.ref q] D tc h0 sa H0 (fun _ => True) (fun _ H1 => CBX5 D tc q H0.size H1) (fun _ => none) := by
  refine MB.of RX5 [(0, .ref q)] (by decide +kernel) rfl (Nat.le_of_ble_eq_true rfl) rfl ?_
  intro p e s m below meth c ls X hr hin hT hH hS hl
  subst hH
  have hx := X.1
  have hb := X.2.1
  have hown := X.2.2.2.1
  have hU := X.2.2.2.2.1.1
  have hA0 : ∀ x : Nat, (x = q ∨ s.heap.size ≤ x) → h0 ≤ x := fun x h => h.elim (fun e => e ▸ ha0) (hh0 x)
  have hS0 : s.heap.size ≤ s.heap.size := Nat.le_refl _
  have hql := hat.lt
  refine lv_aload_n hx hb dX5_init_0 rfl (lv_at hl 0 rfl) ?_
  refine W.objInit hx hb hown (hU.use mo_X5_3.1) (hU.use mo_X5_3.2.1) (hU.use mo_X5_3.2.2) rfl (hl.1.trans X.2.2.1.symm) rfl dX5_init_1 (Nat.le_of_ble_eq_true rfl) (Nat.le_of_ble_eq_true rfl) ?_
  refine W.eq (g2 := F0 m 4 ls []) rfl ?_
  refine lv_aload_n hx hb dX5_init_4 rfl (lv_at hl 0 rfl) ?_
  refine lv_bipush (v := 8) hx hb dX5_init_5 (by decide) ?_
  refine x_newa (A := (fun x : Nat => x = q ∨ s.heap.size ≤ x)) (n := 8) (N := 8) X (by decide) rfl (by decide) hS (fun x h => Or.inr h) ⟨Nat.le_of_ble_eq_true rfl, Nat.le_of_ble_eq_true rfl⟩ dX5_init_7 (fun a1 H hqa1 y1 hAq hz9 hqz o1 hS => ?_)
  have la1 := Nat.lt_of_lt_of_le hat.lt hqa1
  have hat := hat.kept (o1 q hat.lt)
  have sa1 := Nat.le_trans hS0 hqa1
  have hS0 := hS.1
  refine x_putF (A := (fun x : Nat => x = q ∨ s.heap.size ≤ x)) X hin dX5_init_9 f_X5_9 rfl rfl hat (Or.inl rfl) hS (Nat.le_of_ble_eq_true rfl) rfl rfl (fun H locs hat oq hz hS => ?_)
  have y1 := y1.kept (oq a1 (fun e => by omega))
  have hS0 := hS.1
  refine lv_aload_n hx hb dX5_init_12 rfl (lv_at hl 0 rfl) ?_
  refine lv_bipush (v := 8) hx hb dX5_init_13 (by decide) ?_
  refine x_newa (A := (fun x : Nat => x = q ∨ s.heap.size ≤ x)) (n := 8) (N := 8) X (by decide) rfl (by decide) hS (fun x h => Or.inr h) ⟨Nat.le_of_ble_eq_true rfl, Nat.le_of_ble_eq_true rfl⟩ dX5_init_15 (fun a2 H hqa2 y2 hAq hz9 hqz o1 hS => ?_)
  have la2 := Nat.lt_of_lt_of_le y1.lt hqa2
  have hat := hat.kept (o1 q hat.lt)
  have y1 := y1.kept (o1 a1 y1.lt)
  have sa2 := Nat.le_trans hS0 hqa2
  have hS0 := hS.1
  refine x_putF (A := (fun x : Nat => x = q ∨ s.heap.size ≤ x)) X hin dX5_init_17 f_X5_15 rfl rfl hat (Or.inl rfl) hS (Nat.le_of_ble_eq_true rfl) rfl rfl (fun H locs hat oq hz hS => ?_)
  have y1 := y1.kept (oq a1 (fun e => by omega))
  have y2 := y2.kept (oq a2 (fun e => by omega))
  have hS0 := hS.1
  refine lv_aload_n hx hb dX5_init_20 rfl (lv_at hl 0 rfl) ?_
  refine lv_bipush (v := 8) hx hb dX5_init_21 (by decide) ?_
  refine x_newa (A := (fun x : Nat => x = q ∨ s.heap.size ≤ x)) (n := 8) (N := 8) X (by decide) rfl (by decide) hS (fun x h => Or.inr h) ⟨Nat.le_of_ble_eq_true rfl, Nat.le_of_ble_eq_true rfl⟩ dX5_init_23 (fun a3 H hqa3 y3 hAq hz9 hqz o1 hS => ?_)
  have la3 := Nat.lt_of_lt_of_le y2.lt hqa3
  have hat := hat.kept (o1 q hat.lt)
  have y1 := y1.kept (o1 a1 y1.lt)
  have y2 := y2.kept (o1 a2 y2.lt)
  have sa3 := Nat.le_trans hS0 hqa3
  have hS0 := hS.1
  refine x_putF (A := (fun x : Nat => x = q ∨ s.heap.size ≤ x)) X hin dX5_init_25 f_X5_18 rfl rfl hat (Or.inl rfl) hS (Nat.le_of_ble_eq_true rfl) rfl rfl (fun H locs hat oq hz hS => ?_)
  have y1 := y1.kept (oq a1 (fun e => by omega))
  have y2 := y2.kept (oq a2 (fun e => by omega))
  have y3 := y3.kept (oq a3 (fun e => by omega))
  have hS0 := hS.1
  exact e_v X hr dX5_init_28 hS () rfl trivial ⟨a1, a2, a3, sa1, la1, la2, la3, hat, y1, y2, y3⟩ ⟨Nat.le_of_ble_eq_true rfl, Nat.le_of_ble_eq_true rfl⟩
def CBX6 (D : va_G) (tc : Nat → ClassId) (q z : Nat) (H : Heap) : Prop := ∃ a1 a2 a3 a4 a5 a6 a7 : Nat, z ≤ a1 ∧ q < a1 ∧ a1 < a2 ∧ a2 < a3 ∧ a3 < a4 ∧ a4 < a5 ∧ a5 < a6 ∧ a6 < a7 ∧ va_at D vwCl (q, .inr (10, [.int 0, .ref a1, .ref a2, .ref a3, .ref a4, .ref a5, .ref a6, .ref a7])) H ∧ va_at D vwCl (a1, s_in tc (.inr (0, 12, none)) (fun _ => 0)) H ∧ va_at D vwCl (a2, s_in tc (.inr (0, 12, none)) (fun _ => 0)) H ∧ va_at D vwCl (a3, s_in tc (.inr (0, 12, none)) (fun _ => 0)) H ∧ va_at D vwCl (a4, s_in tc (.inr (0, 12, none)) (fun _ => 0)) H ∧ va_at D vwCl (a5, s_in tc (.inr (2, 12, none)) (fun _ => 0)) H ∧ va_at D vwCl (a6, s_in tc (.inr (1, 12, none)) (fun _ => 0)) H ∧ va_at D vwCl (a7, s_in tc (.inr (0, 12, none)) (fun _ => 0)) H
abbrev rm_k6  : Room := { frames := 1, cells := 7, slots := 84, locals := 20 }
set_option maxHeartbeats 4000000 in
theorem c_k6 (l : Launch) (D : va_G) (tc : Nat → ClassId) (h0 : Nat) (sa : Nat → Nat) (H0 : Heap) (q : Nat) (hat : va_at D vwCl (q, .inr (10, [.int 0, .null, .null, .null, .null, .null, .null, .null])) H0) (ha0 : h0 ≤ q) (hh0 : ∀ x, H0.size ≤ x → h0 ≤ x) : MB (S := Unit) l yX6_init cX6_init 1 (Option.none : Option FieldType) (rm_k6 ) (fun x : Nat => x = q ∨ H0.size ≤ x) [.ref q] D tc h0 sa H0 (fun _ => True) (fun _ H1 => CBX6 D tc q H0.size H1) (fun _ => none) := by
  refine MB.of RX6 [(0, .ref q)] (by decide +kernel) rfl (Nat.le_of_ble_eq_true rfl) rfl ?_
  intro p e s m below meth c ls X hr hin hT hH hS hl
  subst hH
  have hx := X.1
  have hb := X.2.1
  have hown := X.2.2.2.1
  have hU := X.2.2.2.2.1.1
  have hA0 : ∀ x : Nat, (x = q ∨ s.heap.size ≤ x) → h0 ≤ x := fun x h => h.elim (fun e => e ▸ ha0) (hh0 x)
  have hS0 : s.heap.size ≤ s.heap.size := Nat.le_refl _
  have hql := hat.lt
  refine lv_aload_n hx hb dX6_init_0 rfl (lv_at hl 0 rfl) ?_
  refine W.objInit hx hb hown (hU.use mo_X6_3.1) (hU.use mo_X6_3.2.1) (hU.use mo_X6_3.2.2) rfl (hl.1.trans X.2.2.1.symm) rfl dX6_init_1 (Nat.le_of_ble_eq_true rfl) (Nat.le_of_ble_eq_true rfl) ?_
  refine W.eq (g2 := F0 m 4 ls []) rfl ?_
  refine lv_aload_n hx hb dX6_init_4 rfl (lv_at hl 0 rfl) ?_
  refine lv_bipush (v := 12) hx hb dX6_init_5 (by decide) ?_
  refine x_newa (A := (fun x : Nat => x = q ∨ s.heap.size ≤ x)) (n := 12) (N := 12) X (by decide) rfl (by decide) hS (fun x h => Or.inr h) ⟨Nat.le_of_ble_eq_true rfl, Nat.le_of_ble_eq_true rfl⟩ dX6_init_7 (fun a1 H hqa1 y1 hAq hz9 hqz o1 hS => ?_)
  have la1 := Nat.lt_of_lt_of_le hat.lt hqa1
  have hat := hat.kept (o1 q hat.lt)
  have sa1 := Nat.le_trans hS0 hqa1
  have hS0 := hS.1
  refine x_putF (A := (fun x : Nat => x = q ∨ s.heap.size ≤ x)) X hin dX6_init_9 f_X6_9 rfl rfl hat (Or.inl rfl) hS (Nat.le_of_ble_eq_true rfl) rfl rfl (fun H locs hat oq hz hS => ?_)
  have y1 := y1.kept (oq a1 (fun e => by omega))
  have hS0 := hS.1
  refine lv_aload_n hx hb dX6_init_12 rfl (lv_at hl 0 rfl) ?_
  refine lv_bipush (v := 12) hx hb dX6_init_13 (by decide) ?_
  refine x_newa (A := (fun x : Nat => x = q ∨ s.heap.size ≤ x)) (n := 12) (N := 12) X (by decide) rfl (by decide) hS (fun x h => Or.inr h) ⟨Nat.le_of_ble_eq_true rfl, Nat.le_of_ble_eq_true rfl⟩ dX6_init_15 (fun a2 H hqa2 y2 hAq hz9 hqz o1 hS => ?_)
  have la2 := Nat.lt_of_lt_of_le y1.lt hqa2
  have hat := hat.kept (o1 q hat.lt)
  have y1 := y1.kept (o1 a1 y1.lt)
  have sa2 := Nat.le_trans hS0 hqa2
  have hS0 := hS.1
  refine x_putF (A := (fun x : Nat => x = q ∨ s.heap.size ≤ x)) X hin dX6_init_17 f_X6_15 rfl rfl hat (Or.inl rfl) hS (Nat.le_of_ble_eq_true rfl) rfl rfl (fun H locs hat oq hz hS => ?_)
  have y1 := y1.kept (oq a1 (fun e => by omega))
  have y2 := y2.kept (oq a2 (fun e => by omega))
  have hS0 := hS.1
  refine lv_aload_n hx hb dX6_init_20 rfl (lv_at hl 0 rfl) ?_
  refine lv_bipush (v := 12) hx hb dX6_init_21 (by decide) ?_
  refine x_newa (A := (fun x : Nat => x = q ∨ s.heap.size ≤ x)) (n := 12) (N := 12) X (by decide) rfl (by decide) hS (fun x h => Or.inr h) ⟨Nat.le_of_ble_eq_true rfl, Nat.le_of_ble_eq_true rfl⟩ dX6_init_23 (fun a3 H hqa3 y3 hAq hz9 hqz o1 hS => ?_)
  have la3 := Nat.lt_of_lt_of_le y2.lt hqa3
  have hat := hat.kept (o1 q hat.lt)
  have y1 := y1.kept (o1 a1 y1.lt)
  have y2 := y2.kept (o1 a2 y2.lt)
  have sa3 := Nat.le_trans hS0 hqa3
  have hS0 := hS.1
  refine x_putF (A := (fun x : Nat => x = q ∨ s.heap.size ≤ x)) X hin dX6_init_25 f_X6_18 rfl rfl hat (Or.inl rfl) hS (Nat.le_of_ble_eq_true rfl) rfl rfl (fun H locs hat oq hz hS => ?_)
  have y1 := y1.kept (oq a1 (fun e => by omega))
  have y2 := y2.kept (oq a2 (fun e => by omega))
  have y3 := y3.kept (oq a3 (fun e => by omega))
  have hS0 := hS.1
  refine lv_aload_n hx hb dX6_init_28 rfl (lv_at hl 0 rfl) ?_
  refine lv_bipush (v := 12) hx hb dX6_init_29 (by decide) ?_
  refine x_newa (A := (fun x : Nat => x = q ∨ s.heap.size ≤ x)) (n := 12) (N := 12) X (by decide) rfl (by decide) hS (fun x h => Or.inr h) ⟨Nat.le_of_ble_eq_true rfl, Nat.le_of_ble_eq_true rfl⟩ dX6_init_31 (fun a4 H hqa4 y4 hAq hz9 hqz o1 hS => ?_)
  have la4 := Nat.lt_of_lt_of_le y3.lt hqa4
  have hat := hat.kept (o1 q hat.lt)
  have y1 := y1.kept (o1 a1 y1.lt)
  have y2 := y2.kept (o1 a2 y2.lt)
  have y3 := y3.kept (o1 a3 y3.lt)
  have sa4 := Nat.le_trans hS0 hqa4
  have hS0 := hS.1
  refine x_putF (A := (fun x : Nat => x = q ∨ s.heap.size ≤ x)) X hin dX6_init_33 f_X6_21 rfl rfl hat (Or.inl rfl) hS (Nat.le_of_ble_eq_true rfl) rfl rfl (fun H locs hat oq hz hS => ?_)
  have y1 := y1.kept (oq a1 (fun e => by omega))
  have y2 := y2.kept (oq a2 (fun e => by omega))
  have y3 := y3.kept (oq a3 (fun e => by omega))
  have y4 := y4.kept (oq a4 (fun e => by omega))
  have hS0 := hS.1
  refine lv_aload_n hx hb dX6_init_36 rfl (lv_at hl 0 rfl) ?_
  refine lv_bipush (v := 12) hx hb dX6_init_37 (by decide) ?_
  refine x_newc (A := (fun x : Nat => x = q ∨ s.heap.size ≤ x)) (n := 12) (N := 12) X (by decide) rfl (by decide) hS (fun x h => Or.inr h) ⟨Nat.le_of_ble_eq_true rfl, Nat.le_of_ble_eq_true rfl⟩ dX6_init_39 (fun a5 H hqa5 y5 hAq hz9 hqz o1 hS => ?_)
  have la5 := Nat.lt_of_lt_of_le y4.lt hqa5
  have hat := hat.kept (o1 q hat.lt)
  have y1 := y1.kept (o1 a1 y1.lt)
  have y2 := y2.kept (o1 a2 y2.lt)
  have y3 := y3.kept (o1 a3 y3.lt)
  have y4 := y4.kept (o1 a4 y4.lt)
  have sa5 := Nat.le_trans hS0 hqa5
  have hS0 := hS.1
  refine x_putF (A := (fun x : Nat => x = q ∨ s.heap.size ≤ x)) X hin dX6_init_41 f_X6_24 rfl rfl hat (Or.inl rfl) hS (Nat.le_of_ble_eq_true rfl) rfl rfl (fun H locs hat oq hz hS => ?_)
  have y1 := y1.kept (oq a1 (fun e => by omega))
  have y2 := y2.kept (oq a2 (fun e => by omega))
  have y3 := y3.kept (oq a3 (fun e => by omega))
  have y4 := y4.kept (oq a4 (fun e => by omega))
  have y5 := y5.kept (oq a5 (fun e => by omega))
  have hS0 := hS.1
  refine lv_aload_n hx hb dX6_init_44 rfl (lv_at hl 0 rfl) ?_
  refine lv_bipush (v := 12) hx hb dX6_init_45 (by decide) ?_
  refine x_newz (A := (fun x : Nat => x = q ∨ s.heap.size ≤ x)) (n := 12) (N := 12) X (by decide) rfl (by decide) hS (fun x h => Or.inr h) ⟨Nat.le_of_ble_eq_true rfl, Nat.le_of_ble_eq_true rfl⟩ dX6_init_47 (fun a6 H hqa6 y6 hAq hz9 hqz o1 hS => ?_)
  have la6 := Nat.lt_of_lt_of_le y5.lt hqa6
  have hat := hat.kept (o1 q hat.lt)
  have y1 := y1.kept (o1 a1 y1.lt)
  have y2 := y2.kept (o1 a2 y2.lt)
  have y3 := y3.kept (o1 a3 y3.lt)
  have y4 := y4.kept (o1 a4 y4.lt)
  have y5 := y5.kept (o1 a5 y5.lt)
  have sa6 := Nat.le_trans hS0 hqa6
  have hS0 := hS.1
  refine x_putF (A := (fun x : Nat => x = q ∨ s.heap.size ≤ x)) X hin dX6_init_49 f_X6_28 rfl rfl hat (Or.inl rfl) hS (Nat.le_of_ble_eq_true rfl) rfl rfl (fun H locs hat oq hz hS => ?_)
  have y1 := y1.kept (oq a1 (fun e => by omega))
  have y2 := y2.kept (oq a2 (fun e => by omega))
  have y3 := y3.kept (oq a3 (fun e => by omega))
  have y4 := y4.kept (oq a4 (fun e => by omega))
  have y5 := y5.kept (oq a5 (fun e => by omega))
  have y6 := y6.kept (oq a6 (fun e => by omega))
  have hS0 := hS.1
  refine lv_aload_n hx hb dX6_init_52 rfl (lv_at hl 0 rfl) ?_
  refine lv_bipush (v := 12) hx hb dX6_init_53 (by decide) ?_
  refine x_newa (A := (fun x : Nat => x = q ∨ s.heap.size ≤ x)) (n := 12) (N := 12) X (by decide) rfl (by decide) hS (fun x h => Or.inr h) ⟨Nat.le_of_ble_eq_true rfl, Nat.le_of_ble_eq_true rfl⟩ dX6_init_55 (fun a7 H hqa7 y7 hAq hz9 hqz o1 hS => ?_)
  have la7 := Nat.lt_of_lt_of_le y6.lt hqa7
  have hat := hat.kept (o1 q hat.lt)
  have y1 := y1.kept (o1 a1 y1.lt)
  have y2 := y2.kept (o1 a2 y2.lt)
  have y3 := y3.kept (o1 a3 y3.lt)
  have y4 := y4.kept (o1 a4 y4.lt)
  have y5 := y5.kept (o1 a5 y5.lt)
  have y6 := y6.kept (o1 a6 y6.lt)
  have sa7 := Nat.le_trans hS0 hqa7
  have hS0 := hS.1
  refine x_putF (A := (fun x : Nat => x = q ∨ s.heap.size ≤ x)) X hin dX6_init_57 f_X6_32 rfl rfl hat (Or.inl rfl) hS (Nat.le_of_ble_eq_true rfl) rfl rfl (fun H locs hat oq hz hS => ?_)
  have y1 := y1.kept (oq a1 (fun e => by omega))
  have y2 := y2.kept (oq a2 (fun e => by omega))
  have y3 := y3.kept (oq a3 (fun e => by omega))
  have y4 := y4.kept (oq a4 (fun e => by omega))
  have y5 := y5.kept (oq a5 (fun e => by omega))
  have y6 := y6.kept (oq a6 (fun e => by omega))
  have y7 := y7.kept (oq a7 (fun e => by omega))
  have hS0 := hS.1
  exact e_v X hr dX6_init_60 hS () rfl trivial ⟨a1, a2, a3, a4, a5, a6, a7, sa1, la1, la2, la3, la4, la5, la6, la7, hat, y1, y2, y3, y4, y5, y6, y7⟩ ⟨Nat.le_of_ble_eq_true rfl, Nat.le_of_ble_eq_true rfl⟩
def CBX2 (D : va_G) (tc : Nat → ClassId) (q z : Nat) (x1 : Int32) (H : Heap) : Prop := ∃ a1 a2 : Nat, z ≤ a1 ∧ q < a1 ∧ a1 < a2 ∧ va_at D vwCl (q, .inr (6, [.int x1, .int 0, .ref a1, .ref a2])) H ∧ va_at D vwCl (a1, s_in tc (.inr (2, 12, none)) (fun _ => 0)) H ∧ va_at D vwCl (a2, s_in tc (.inr (0, 12, none)) (fun _ => 0)) H
abbrev rm_k2  : Room := { frames := 1, cells := 2, slots := 24, locals := 20 }
set_option maxHeartbeats 4000000 in
theorem c_k2 (l : Launch) (D : va_G) (tc : Nat → ClassId) (h0 : Nat) (sa : Nat → Nat) (H0 : Heap) (q : Nat) (x1 : Int32) (hat : va_at D vwCl (q, .inr (6, [.int 0, .int 0, .null, .null])) H0) (ha0 : h0 ≤ q) (hh0 : ∀ x, H0.size ≤ x → h0 ≤ x) : MB (S := Unit) l yX2_init cX2_init 2 (Option.none : Option FieldType) (rm_k2 ) (fun x : Nat => x = q ∨ H0.size ≤ x) [.ref q, .int x1] D tc h0 sa H0 (fun _ => True) (fun _ H1 => CBX2 D tc q H0.size x1 H1) (fun _ => none) := by
  refine MB.of RX2 [(0, .ref q), (1, .int x1)] (by decide +kernel) rfl (Nat.le_of_ble_eq_true rfl) rfl ?_
  intro p e s m below meth c ls X hr hin hT hH hS hl
  subst hH
  have hx := X.1
  have hb := X.2.1
  have hown := X.2.2.2.1
  have hU := X.2.2.2.2.1.1
  have hA0 : ∀ x : Nat, (x = q ∨ s.heap.size ≤ x) → h0 ≤ x := fun x h => h.elim (fun e => e ▸ ha0) (hh0 x)
  have hS0 : s.heap.size ≤ s.heap.size := Nat.le_refl _
  have hql := hat.lt
  refine lv_aload_n hx hb dX2_init_0 rfl (lv_at hl 0 rfl) ?_
  refine W.objInit hx hb hown (hU.use mo_X2_3.1) (hU.use mo_X2_3.2.1) (hU.use mo_X2_3.2.2) rfl (hl.1.trans X.2.2.1.symm) rfl dX2_init_1 (Nat.le_of_ble_eq_true rfl) (Nat.le_of_ble_eq_true rfl) ?_
  refine W.eq (g2 := F0 m 4 ls []) rfl ?_
  refine lv_aload_n hx hb dX2_init_4 rfl (lv_at hl 0 rfl) ?_
  refine lv_bipush (v := 12) hx hb dX2_init_5 (by decide) ?_
  refine x_newc (A := (fun x : Nat => x = q ∨ s.heap.size ≤ x)) (n := 12) (N := 12) X (by decide) rfl (by decide) hS (fun x h => Or.inr h) ⟨Nat.le_of_ble_eq_true rfl, Nat.le_of_ble_eq_true rfl⟩ dX2_init_7 (fun a1 H hqa1 y1 hAq hz9 hqz o1 hS => ?_)
  have la1 := Nat.lt_of_lt_of_le hat.lt hqa1
  have hat := hat.kept (o1 q hat.lt)
  have sa1 := Nat.le_trans hS0 hqa1
  have hS0 := hS.1
  refine x_putF (A := (fun x : Nat => x = q ∨ s.heap.size ≤ x)) X hin dX2_init_9 f_X2_9 rfl rfl hat (Or.inl rfl) hS (Nat.le_of_ble_eq_true rfl) rfl rfl (fun H locs hat oq hz hS => ?_)
  have y1 := y1.kept (oq a1 (fun e => by omega))
  have hS0 := hS.1
  refine lv_aload_n hx hb dX2_init_12 rfl (lv_at hl 0 rfl) ?_
  refine lv_bipush (v := 12) hx hb dX2_init_13 (by decide) ?_
  refine x_newa (A := (fun x : Nat => x = q ∨ s.heap.size ≤ x)) (n := 12) (N := 12) X (by decide) rfl (by decide) hS (fun x h => Or.inr h) ⟨Nat.le_of_ble_eq_true rfl, Nat.le_of_ble_eq_true rfl⟩ dX2_init_15 (fun a2 H hqa2 y2 hAq hz9 hqz o1 hS => ?_)
  have la2 := Nat.lt_of_lt_of_le y1.lt hqa2
  have hat := hat.kept (o1 q hat.lt)
  have y1 := y1.kept (o1 a1 y1.lt)
  have sa2 := Nat.le_trans hS0 hqa2
  have hS0 := hS.1
  refine x_putF (A := (fun x : Nat => x = q ∨ s.heap.size ≤ x)) X hin dX2_init_17 f_X2_15 rfl rfl hat (Or.inl rfl) hS (Nat.le_of_ble_eq_true rfl) rfl rfl (fun H locs hat oq hz hS => ?_)
  have y1 := y1.kept (oq a1 (fun e => by omega))
  have y2 := y2.kept (oq a2 (fun e => by omega))
  have hS0 := hS.1
  refine lv_aload_n hx hb dX2_init_20 rfl (lv_at hl 0 rfl) ?_
  refine lv_iload_n hx hb dX2_init_21 rfl (lv_at hl 1 rfl) ?_
  refine x_putF (A := (fun x : Nat => x = q ∨ s.heap.size ≤ x)) X hin dX2_init_22 f_X2_19 rfl rfl hat (Or.inl rfl) hS (Nat.le_of_ble_eq_true rfl) rfl rfl (fun H locs hat oq hz hS => ?_)
  have y1 := y1.kept (oq a1 (fun e => by omega))
  have y2 := y2.kept (oq a2 (fun e => by omega))
  have hS0 := hS.1
  exact e_v X hr dX2_init_25 hS () rfl trivial ⟨a1, a2, sa1, la1, la2, hat, y1, y2⟩ ⟨Nat.le_of_ble_eq_true rfl, Nat.le_of_ble_eq_true rfl⟩
def CBX4 (D : va_G) (tc : Nat → ClassId) (q z : Nat) (x1 x2 x3 x4 : Int32) (H : Heap) : Prop := ∃ a1 a2 a3 a4 a5 : Nat, z ≤ a1 ∧ q < a1 ∧ a1 < a2 ∧ a2 < a3 ∧ a3 < a4 ∧ a4 < a5 ∧ va_at D vwCl (q, .inr (8, [.int x1, .int x2, .int x3, .int x4, .int 0, .int 0, .int 0, .ref a1, .ref a2, .ref a3, .ref a4, .int 0, .ref a5, .int 0, .int 0])) H ∧ va_at D vwCl (a1, s_in tc (.inr (0, 19, none)) (fun _ => 0)) H ∧ va_at D vwCl (a2, s_in tc (.inr (0, 19, none)) (fun _ => 0)) H ∧ va_at D vwCl (a3, s_in tc (.inr (0, 19, none)) (fun _ => 0)) H ∧ va_at D vwCl (a4, s_in tc (.inr (0, 6, none)) (fun _ => 0)) H ∧ va_at D vwCl (a5, s_in tc (.inr (0, 19, none)) (fun _ => 0)) H
abbrev rm_k4  : Room := { frames := 1, cells := 5, slots := 82, locals := 20 }
set_option maxHeartbeats 4000000 in
theorem c_k4 (l : Launch) (D : va_G) (tc : Nat → ClassId) (h0 : Nat) (sa : Nat → Nat) (H0 : Heap) (q : Nat) (x1 x2 x3 x4 : Int32) (hzn : narrow .boolean (.int x4) = .int x4) (hzf : fits .boolean (.int x4) = true) (hat : va_at D vwCl (q, .inr (8, [.int 0, .int 0, .int 0, .int 0, .int 0, .int 0, .int 0, .null, .null, .null, .null, .int 0, .null, .int 0, .int 0])) H0) (ha0 : h0 ≤ q) (hh0 : ∀ x, H0.size ≤ x → h0 ≤ x) : MB (S := Unit) l yX4_init cX4_init 5 (Option.none : Option FieldType) (rm_k4 ) (fun x : Nat => x = q ∨ H0.size ≤ x) [.ref q, .int x1, .int x2, .int x3, .int x4] D tc h0 sa H0 (fun _ => True) (fun _ H1 => CBX4 D tc q H0.size x1 x2 x3 x4 H1) (fun _ => none) := by
  refine MB.of RX4 [(0, .ref q), (1, .int x1), (2, .int x2), (3, .int x3), (4, .int x4)] (by decide +kernel) rfl (Nat.le_of_ble_eq_true rfl) rfl ?_
  intro p e s m below meth c ls X hr hin hT hH hS hl
  subst hH
  have hx := X.1
  have hb := X.2.1
  have hown := X.2.2.2.1
  have hU := X.2.2.2.2.1.1
  have hA0 : ∀ x : Nat, (x = q ∨ s.heap.size ≤ x) → h0 ≤ x := fun x h => h.elim (fun e => e ▸ ha0) (hh0 x)
  have hS0 : s.heap.size ≤ s.heap.size := Nat.le_refl _
  have hql := hat.lt
  refine lv_aload_n hx hb dX4_init_0 rfl (lv_at hl 0 rfl) ?_
  refine W.objInit hx hb hown (hU.use mo_X4_3.1) (hU.use mo_X4_3.2.1) (hU.use mo_X4_3.2.2) rfl (hl.1.trans X.2.2.1.symm) rfl dX4_init_1 (Nat.le_of_ble_eq_true rfl) (Nat.le_of_ble_eq_true rfl) ?_
  refine W.eq (g2 := F0 m 4 ls []) rfl ?_
  refine lv_aload_n hx hb dX4_init_4 rfl (lv_at hl 0 rfl) ?_
  refine lv_bipush (v := 19) hx hb dX4_init_5 (by decide) ?_
  refine x_newa (A := (fun x : Nat => x = q ∨ s.heap.size ≤ x)) (n := 19) (N := 19) X (by decide) rfl (by decide) hS (fun x h => Or.inr h) ⟨Nat.le_of_ble_eq_true rfl, Nat.le_of_ble_eq_true rfl⟩ dX4_init_7 (fun a1 H hqa1 y1 hAq hz9 hqz o1 hS => ?_)
  have la1 := Nat.lt_of_lt_of_le hat.lt hqa1
  have hat := hat.kept (o1 q hat.lt)
  have sa1 := Nat.le_trans hS0 hqa1
  have hS0 := hS.1
  refine x_putF (A := (fun x : Nat => x = q ∨ s.heap.size ≤ x)) X hin dX4_init_9 f_X4_11 rfl rfl hat (Or.inl rfl) hS (Nat.le_of_ble_eq_true rfl) rfl rfl (fun H locs hat oq hz hS => ?_)
  have y1 := y1.kept (oq a1 (fun e => by omega))
  have hS0 := hS.1
  refine lv_aload_n hx hb dX4_init_12 rfl (lv_at hl 0 rfl) ?_
  refine lv_bipush (v := 19) hx hb dX4_init_13 (by decide) ?_
  refine x_newa (A := (fun x : Nat => x = q ∨ s.heap.size ≤ x)) (n := 19) (N := 19) X (by decide) rfl (by decide) hS (fun x h => Or.inr h) ⟨Nat.le_of_ble_eq_true rfl, Nat.le_of_ble_eq_true rfl⟩ dX4_init_15 (fun a2 H hqa2 y2 hAq hz9 hqz o1 hS => ?_)
  have la2 := Nat.lt_of_lt_of_le y1.lt hqa2
  have hat := hat.kept (o1 q hat.lt)
  have y1 := y1.kept (o1 a1 y1.lt)
  have sa2 := Nat.le_trans hS0 hqa2
  have hS0 := hS.1
  refine x_putF (A := (fun x : Nat => x = q ∨ s.heap.size ≤ x)) X hin dX4_init_17 f_X4_15 rfl rfl hat (Or.inl rfl) hS (Nat.le_of_ble_eq_true rfl) rfl rfl (fun H locs hat oq hz hS => ?_)
  have y1 := y1.kept (oq a1 (fun e => by omega))
  have y2 := y2.kept (oq a2 (fun e => by omega))
  have hS0 := hS.1
  refine lv_aload_n hx hb dX4_init_20 rfl (lv_at hl 0 rfl) ?_
  refine lv_bipush (v := 19) hx hb dX4_init_21 (by decide) ?_
  refine x_newa (A := (fun x : Nat => x = q ∨ s.heap.size ≤ x)) (n := 19) (N := 19) X (by decide) rfl (by decide) hS (fun x h => Or.inr h) ⟨Nat.le_of_ble_eq_true rfl, Nat.le_of_ble_eq_true rfl⟩ dX4_init_23 (fun a3 H hqa3 y3 hAq hz9 hqz o1 hS => ?_)
  have la3 := Nat.lt_of_lt_of_le y2.lt hqa3
  have hat := hat.kept (o1 q hat.lt)
  have y1 := y1.kept (o1 a1 y1.lt)
  have y2 := y2.kept (o1 a2 y2.lt)
  have sa3 := Nat.le_trans hS0 hqa3
  have hS0 := hS.1
  refine x_putF (A := (fun x : Nat => x = q ∨ s.heap.size ≤ x)) X hin dX4_init_25 f_X4_18 rfl rfl hat (Or.inl rfl) hS (Nat.le_of_ble_eq_true rfl) rfl rfl (fun H locs hat oq hz hS => ?_)
  have y1 := y1.kept (oq a1 (fun e => by omega))
  have y2 := y2.kept (oq a2 (fun e => by omega))
  have y3 := y3.kept (oq a3 (fun e => by omega))
  have hS0 := hS.1
  refine lv_aload_n hx hb dX4_init_28 rfl (lv_at hl 0 rfl) ?_
  refine lv_bipush (v := 6) hx hb dX4_init_29 (by decide) ?_
  refine x_newa (A := (fun x : Nat => x = q ∨ s.heap.size ≤ x)) (n := 6) (N := 6) X (by decide) rfl (by decide) hS (fun x h => Or.inr h) ⟨Nat.le_of_ble_eq_true rfl, Nat.le_of_ble_eq_true rfl⟩ dX4_init_31 (fun a4 H hqa4 y4 hAq hz9 hqz o1 hS => ?_)
  have la4 := Nat.lt_of_lt_of_le y3.lt hqa4
  have hat := hat.kept (o1 q hat.lt)
  have y1 := y1.kept (o1 a1 y1.lt)
  have y2 := y2.kept (o1 a2 y2.lt)
  have y3 := y3.kept (o1 a3 y3.lt)
  have sa4 := Nat.le_trans hS0 hqa4
  have hS0 := hS.1
  refine x_putF (A := (fun x : Nat => x = q ∨ s.heap.size ≤ x)) X hin dX4_init_33 f_X4_21 rfl rfl hat (Or.inl rfl) hS (Nat.le_of_ble_eq_true rfl) rfl rfl (fun H locs hat oq hz hS => ?_)
  have y1 := y1.kept (oq a1 (fun e => by omega))
  have y2 := y2.kept (oq a2 (fun e => by omega))
  have y3 := y3.kept (oq a3 (fun e => by omega))
  have y4 := y4.kept (oq a4 (fun e => by omega))
  have hS0 := hS.1
  refine lv_aload_n hx hb dX4_init_36 rfl (lv_at hl 0 rfl) ?_
  refine lv_bipush (v := 19) hx hb dX4_init_37 (by decide) ?_
  refine x_newa (A := (fun x : Nat => x = q ∨ s.heap.size ≤ x)) (n := 19) (N := 19) X (by decide) rfl (by decide) hS (fun x h => Or.inr h) ⟨Nat.le_of_ble_eq_true rfl, Nat.le_of_ble_eq_true rfl⟩ dX4_init_39 (fun a5 H hqa5 y5 hAq hz9 hqz o1 hS => ?_)
  have la5 := Nat.lt_of_lt_of_le y4.lt hqa5
  have hat := hat.kept (o1 q hat.lt)
  have y1 := y1.kept (o1 a1 y1.lt)
  have y2 := y2.kept (o1 a2 y2.lt)
  have y3 := y3.kept (o1 a3 y3.lt)
  have y4 := y4.kept (o1 a4 y4.lt)
  have sa5 := Nat.le_trans hS0 hqa5
  have hS0 := hS.1
  refine x_putF (A := (fun x : Nat => x = q ∨ s.heap.size ≤ x)) X hin dX4_init_41 f_X4_24 rfl rfl hat (Or.inl rfl) hS (Nat.le_of_ble_eq_true rfl) rfl rfl (fun H locs hat oq hz hS => ?_)
  have y1 := y1.kept (oq a1 (fun e => by omega))
  have y2 := y2.kept (oq a2 (fun e => by omega))
  have y3 := y3.kept (oq a3 (fun e => by omega))
  have y4 := y4.kept (oq a4 (fun e => by omega))
  have y5 := y5.kept (oq a5 (fun e => by omega))
  have hS0 := hS.1
  refine lv_aload_n hx hb dX4_init_44 rfl (lv_at hl 0 rfl) ?_
  refine lv_iload_n hx hb dX4_init_45 rfl (lv_at hl 1 rfl) ?_
  refine x_putF (A := (fun x : Nat => x = q ∨ s.heap.size ≤ x)) X hin dX4_init_46 f_X4_27 rfl rfl hat (Or.inl rfl) hS (Nat.le_of_ble_eq_true rfl) rfl rfl (fun H locs hat oq hz hS => ?_)
  have y1 := y1.kept (oq a1 (fun e => by omega))
  have y2 := y2.kept (oq a2 (fun e => by omega))
  have y3 := y3.kept (oq a3 (fun e => by omega))
  have y4 := y4.kept (oq a4 (fun e => by omega))
  have y5 := y5.kept (oq a5 (fun e => by omega))
  have hS0 := hS.1
  refine lv_aload_n hx hb dX4_init_49 rfl (lv_at hl 0 rfl) ?_
  refine lv_iload_n hx hb dX4_init_50 rfl (lv_at hl 2 rfl) ?_
  refine x_putF (A := (fun x : Nat => x = q ∨ s.heap.size ≤ x)) X hin dX4_init_51 f_X4_31 rfl rfl hat (Or.inl rfl) hS (Nat.le_of_ble_eq_true rfl) rfl rfl (fun H locs hat oq hz hS => ?_)
  have y1 := y1.kept (oq a1 (fun e => by omega))
  have y2 := y2.kept (oq a2 (fun e => by omega))
  have y3 := y3.kept (oq a3 (fun e => by omega))
  have y4 := y4.kept (oq a4 (fun e => by omega))
  have y5 := y5.kept (oq a5 (fun e => by omega))
  have hS0 := hS.1
  refine lv_aload_n hx hb dX4_init_54 rfl (lv_at hl 0 rfl) ?_
  refine lv_iload_n hx hb dX4_init_55 rfl (lv_at hl 3 rfl) ?_
  refine x_putF (A := (fun x : Nat => x = q ∨ s.heap.size ≤ x)) X hin dX4_init_56 f_X4_34 rfl rfl hat (Or.inl rfl) hS (Nat.le_of_ble_eq_true rfl) rfl rfl (fun H locs hat oq hz hS => ?_)
  have y1 := y1.kept (oq a1 (fun e => by omega))
  have y2 := y2.kept (oq a2 (fun e => by omega))
  have y3 := y3.kept (oq a3 (fun e => by omega))
  have y4 := y4.kept (oq a4 (fun e => by omega))
  have y5 := y5.kept (oq a5 (fun e => by omega))
  have hS0 := hS.1
  refine lv_aload_n hx hb dX4_init_59 rfl (lv_at hl 0 rfl) ?_
  refine lv_iload hx hb dX4_init_60 (lv_at hl 4 rfl) ?_
  refine x_putF (A := (fun x : Nat => x = q ∨ s.heap.size ≤ x)) X hin dX4_init_62 f_X4_37 rfl rfl hat (Or.inl rfl) hS (Nat.le_of_ble_eq_true rfl) hzn hzf (fun H locs hat oq hz hS => ?_)
  have y1 := y1.kept (oq a1 (fun e => by omega))
  have y2 := y2.kept (oq a2 (fun e => by omega))
  have y3 := y3.kept (oq a3 (fun e => by omega))
  have y4 := y4.kept (oq a4 (fun e => by omega))
  have y5 := y5.kept (oq a5 (fun e => by omega))
  have hS0 := hS.1
  exact e_v X hr dX4_init_65 hS () rfl trivial ⟨a1, a2, a3, a4, a5, sa1, la1, la2, la3, la4, la5, hat, y1, y2, y3, y4, y5⟩ ⟨Nat.le_of_ble_eq_true rfl, Nat.le_of_ble_eq_true rfl⟩
def tW : Nat → Nat → Int32
  | 0 => fun _ => 0
  | k + 1 => upd (tW k) k (100 + 20 * nI k)
def CBX1 (D : va_G) (tc : Nat → ClassId) (q z : Nat) (H : Heap) : Prop := ∃ (a1 a2 a3 : Nat) (f1 f2 : Nat → Nat), z ≤ a1 ∧ q < a1 ∧ a1 < a2 ∧ a2 < a3 ∧ (∀ j, j < 10 → a2 < f1 j ∧ f1 j < a3 ∧ a3 < f2 j) ∧ (∀ i j, i < 10 → j < 10 → f1 i = f1 j → i = j) ∧ (∀ i j, i < 10 → j < 10 → f2 i = f2 j → i = j) ∧ va_at D vwCl (q, .inr (5, [.ref a1, .ref a2, .ref a3, .int 2, .int 0, .int 1900, .int 0, .int 0])) H ∧ va_at D vwCl (a1, s_in tc (.inr (0, 10, none)) (tW 10)) H ∧ va_at D vwCl (a2, .inl (tc 5, 10, .inr (.inr (.inr (.inr (fun j => if j < 10 then some (f1 j) else none)))))) H ∧ va_at D vwCl (a3, .inl (tc 5, 10, .inr (.inr (.inr (.inr (fun j => if j < 10 then some (f2 j) else none)))))) H ∧ (∀ j, j < 10 → va_at D vwCl (f1 j, s_in tc (.inr (0, 3, none)) (fun _ => 0)) H) ∧ (∀ j, j < 10 → va_at D vwCl (f2 j, s_in tc (.inr (0, 3, none)) (fun _ => 0)) H)
abbrev rm_k1  : Room := { frames := 1, cells := 23, slots := 90, locals := 20 }
set_option maxHeartbeats 4000000 in
theorem c_k1 (l : Launch) (D : va_G) (tc : Nat → ClassId) (h0 : Nat) (sa : Nat → Nat) (H0 : Heap) (q : Nat) (hat : va_at D vwCl (q, .inr (5, [.null, .null, .null, .int 0, .int 0, .int 0, .int 0, .int 0])) H0) (ha0 : h0 ≤ q) (hh0 : ∀ x, H0.size ≤ x → h0 ≤ x) : MB (S := Unit) l yX1_init cX1_init 2 (Option.none : Option FieldType) (rm_k1 ) (fun x : Nat => x = q ∨ H0.size ≤ x) [.ref q] D tc h0 sa H0 (fun _ => True) (fun _ H1 => CBX1 D tc q H0.size H1) (fun _ => none) := by
  refine MB.of RX1 [(0, .ref q)] (by decide +kernel) rfl (Nat.le_of_ble_eq_true rfl) rfl ?_
  intro p e s m below meth c ls X hr hin hT hH hS hl
  subst hH
  have hx := X.1
  have hb := X.2.1
  have hown := X.2.2.2.1
  have hU := X.2.2.2.2.1.1
  have hA0 : ∀ x : Nat, (x = q ∨ s.heap.size ≤ x) → h0 ≤ x := fun x h => h.elim (fun e => e ▸ ha0) (hh0 x)
  have hS0 : s.heap.size ≤ s.heap.size := Nat.le_refl _
  have hql := hat.lt
  refine lv_aload_n hx hb dX1_init_0 rfl (lv_at hl 0 rfl) ?_
  refine W.objInit hx hb hown (hU.use mo_X1_3.1) (hU.use mo_X1_3.2.1) (hU.use mo_X1_3.2.2) rfl (hl.1.trans X.2.2.1.symm) rfl dX1_init_1 (Nat.le_of_ble_eq_true rfl) (Nat.le_of_ble_eq_true rfl) ?_
  refine W.eq (g2 := F0 m 4 ls []) rfl ?_
  refine lv_aload_n hx hb dX1_init_4 rfl (lv_at hl 0 rfl) ?_
  refine lv_bipush (v := 10) hx hb dX1_init_5 (by decide) ?_
  refine x_newa (A := (fun x : Nat => x = q ∨ s.heap.size ≤ x)) (n := 10) (N := 10) X (by decide) rfl (by decide) hS (fun x h => Or.inr h) ⟨Nat.le_of_ble_eq_true rfl, Nat.le_of_ble_eq_true rfl⟩ dX1_init_7 (fun a1 H hqa1 y1 hAq hz9 hqz o1 hS => ?_)
  have la1 := Nat.lt_of_lt_of_le hat.lt hqa1
  have hat := hat.kept (o1 q hat.lt)
  have sa1 := Nat.le_trans hS0 hqa1
  have hS0 := hS.1
  refine x_putF (A := (fun x : Nat => x = q ∨ s.heap.size ≤ x)) X hin dX1_init_9 f_X1_9 rfl rfl hat (Or.inl rfl) hS (Nat.le_of_ble_eq_true rfl) rfl rfl (fun H locs hat oq hz hS => ?_)
  have y1 := y1.kept (oq a1 (fun e => by omega))
  have hS0 := hS.1
  refine lv_aload_n hx hb dX1_init_12 rfl (lv_at hl 0 rfl) ?_
  refine lv_bipush (v := 10) hx hb dX1_init_13 (by decide) ?_
  refine lv_iconst (v := 3) hx hb dX1_init_15 (by decide) ?_
  refine x_mna (A := (fun x : Nat => x = q ∨ s.heap.size ≤ x)) X w_59 hS (fun x h => Or.inr h) ⟨Nat.le_of_ble_eq_true rfl, Nat.le_of_ble_eq_true rfl⟩ dX1_init_16 (fun a2 f1 H hqa2 lf1 if1 y2 r1 hAF9 hz9 hqz hfz o1 hS => ?_)
  have la2 := Nat.lt_of_lt_of_le y1.lt hqa2
  have hat := hat.kept (o1 q hat.lt)
  have y1 := y1.kept (o1 a1 y1.lt)
  have hS0 := hS.1
  have mf1 := lf1
  have lf1 : ∀ j, j < 10 → q < f1 j := fun j hj => by have := mf1 j hj; omega
  refine x_putF (A := (fun x : Nat => x = q ∨ s.heap.size ≤ x)) X hin dX1_init_20 f_X1_17 rfl rfl hat (Or.inl rfl) hS (Nat.le_of_ble_eq_true rfl) rfl rfl (fun H locs hat oq hz hS => ?_)
  have y1 := y1.kept (oq a1 (fun e => by omega))
  have y2 := y2.kept (oq a2 (fun e => by omega))
  have r1 := fun j hj => (r1 j hj).kept (oq (f1 j) (fun e => by have := lf1 j hj; omega))
  have hS0 := hS.1
  refine lv_aload_n hx hb dX1_init_23 rfl (lv_at hl 0 rfl) ?_
  refine lv_bipush (v := 10) hx hb dX1_init_24 (by decide) ?_
  refine lv_iconst (v := 3) hx hb dX1_init_26 (by decide) ?_
  refine x_mna (A := (fun x : Nat => x = q ∨ s.heap.size ≤ x)) X w_59 hS (fun x h => Or.inr h) ⟨Nat.le_of_ble_eq_true rfl, Nat.le_of_ble_eq_true rfl⟩ dX1_init_27 (fun a3 f2 H hqa3 lf2 if2 y3 r2 hAF9 hz9 hqz hfz o1 hS => ?_)
  have bf1a3 := fun j hj => Nat.lt_of_lt_of_le (r1 j hj).lt hqa3
  have la3 := Nat.lt_of_lt_of_le y2.lt hqa3
  have hat := hat.kept (o1 q hat.lt)
  have y1 := y1.kept (o1 a1 y1.lt)
  have y2 := y2.kept (o1 a2 y2.lt)
  have r1 := fun j hj => (r1 j hj).kept (o1 (f1 j) (r1 j hj).lt)
  have hS0 := hS.1
  have mf2 := lf2
  have lf2 : ∀ j, j < 10 → q < f2 j := fun j hj => by have := mf2 j hj; omega
  refine x_putF (A := (fun x : Nat => x = q ∨ s.heap.size ≤ x)) X hin dX1_init_31 f_X1_20 rfl rfl hat (Or.inl rfl) hS (Nat.le_of_ble_eq_true rfl) rfl rfl (fun H locs hat oq hz hS => ?_)
  have y1 := y1.kept (oq a1 (fun e => by omega))
  have y2 := y2.kept (oq a2 (fun e => by omega))
  have y3 := y3.kept (oq a3 (fun e => by omega))
  have r1 := fun j hj => (r1 j hj).kept (oq (f1 j) (fun e => by have := lf1 j hj; omega))
  have r2 := fun j hj => (r2 j hj).kept (oq (f2 j) (fun e => by have := lf2 j hj; omega))
  have hS0 := hS.1
  refine lv_aload_n hx hb dX1_init_34 rfl (lv_at hl 0 rfl) ?_
  refine lv_iconst (v := 2) hx hb dX1_init_35 (by decide) ?_
  refine x_putv (A := (fun x : Nat => x = q ∨ s.heap.size ≤ x)) X dX1_init_36 f_X1_23 hat (Or.inl rfl) hS (Nat.le_of_ble_eq_true rfl) rfl rfl (fun H locs hat oq hz hS => ?_)
  have y1 := y1.kept (oq a1 (fun e => by omega))
  have y2 := y2.kept (oq a2 (fun e => by omega))
  have y3 := y3.kept (oq a3 (fun e => by omega))
  have r1 := fun j hj => (r1 j hj).kept (oq (f1 j) (fun e => by have := lf1 j hj; omega))
  have r2 := fun j hj => (r2 j hj).kept (oq (f2 j) (fun e => by have := lf2 j hj; omega))
  have hS0 := hS.1
  refine lv_iconst (v := 0) hx hb dX1_init_39 (by decide) ?_
  refine lv_istore_n (lv' := [(1, .int 0), (0, .ref q)]) hx hb dX1_init_40 rfl hl (by decide) rfl (fun ls hl => ?_)
  refine lv_iload_n hx hb dX1_init_41 rfl (lv_at hl 0 rfl) ?_
  refine lv_bipush (v := 10) hx hb dX1_init_42 (by decide) ?_
  have lf2z : ∀ j, j < 10 → f2 j ≠ a1 := fun j hj e => by have := lf2 j hj; have := mf2 j hj; omega
  have lf1z : ∀ j, j < 10 → f1 j ≠ a1 := fun j hj e => by have := mf1 j hj; omega
  refine lv_icmp_ge (tgt := 81) hx hb dX1_init_44 (by decide) (fun hc0 => absurd hc0 (show ¬ (10 : Int32) ≤ 0 by decide)) (fun _ => ?_)
  refine lv_aload_n hx hb dX1_init_47 rfl (lv_at hl 1 rfl) ?_
  refine x_getv X dX1_init_48 f_X1_9 hat (v := .ref a1) rfl ?_
  refine lv_iload_n hx hb dX1_init_51 rfl (lv_at hl 0 rfl) ?_
  refine lv_bipush (v := 100) hx hb dX1_init_52 (by decide) ?_
  refine lv_bipush (v := 20) hx hb dX1_init_54 (by decide) ?_
  refine lv_iload_n hx hb dX1_init_56 rfl (lv_at hl 0 rfl) ?_
  refine lv_imul hx hb dX1_init_57 ?_
  refine lv_iadd hx hb dX1_init_58 ?_
  refine g_iast X dX1_init_59 (blk1 y1 (A := (fun x : Nat => x = q ∨ s.heap.size ≤ x)) (Or.inr sa1)) hS 0 rfl (show vp_in 0 10 by unfold vp_in; decide) (k := 0) (by decide) (fun H locs hb9 oq hS => ?_)
  have y1 : va_at D vwCl (a1, s_in tc (.inr (0, 10, none)) (tW 1)) H := by have := (hb9.1 0 _ rfl).1; rw [up2_row] at this; exact this
  have hat := hat.kept (oq q (fun e => by omega))
  have y2 := y2.kept (oq a2 (fun e => by omega))
  have y3 := y3.kept (oq a3 (fun e => by omega))
  have r1 := fun j hj => (r1 j hj).kept (oq (f1 j) (lf1z j hj))
  have r2 := fun j hj => (r2 j hj).kept (oq (f2 j) (lf2z j hj))
  have hS0 := hS.1
  refine lv_aload_n hx hb dX1_init_60 rfl (lv_at hl 1 rfl) ?_
  refine lv_dup hx hb dX1_init_61 rfl ?_
  refine x_getv X dX1_init_62 f_X1_27 hat (v := .int 0) rfl ?_
  refine lv_aload_n hx hb dX1_init_65 rfl (lv_at hl 1 rfl) ?_
  refine x_getv X dX1_init_66 f_X1_9 hat (v := .ref a1) rfl ?_
  refine lv_iload_n hx hb dX1_init_69 rfl (lv_at hl 0 rfl) ?_
  refine g_iald X dX1_init_70 (blk1 y1 (A := (fun x : Nat => x = q ∨ s.heap.size ≤ x)) (Or.inr sa1)) 0 rfl (show vp_in 0 10 by unfold vp_in; decide) (k := 0) (by decide) ?_
  refine lv_iadd hx hb dX1_init_71 ?_
  refine x_putv (A := (fun x : Nat => x = q ∨ s.heap.size ≤ x)) X dX1_init_72 f_X1_27 hat (Or.inl rfl) hS (Nat.le_of_ble_eq_true rfl) rfl rfl (fun H locs hat oq hz hS => ?_)
  have y1 := y1.kept (oq a1 (fun e => by omega))
  have y2 := y2.kept (oq a2 (fun e => by omega))
  have y3 := y3.kept (oq a3 (fun e => by omega))
  have r1 := fun j hj => (r1 j hj).kept (oq (f1 j) (fun e => by have := lf1 j hj; omega))
  have r2 := fun j hj => (r2 j hj).kept (oq (f2 j) (fun e => by have := lf2 j hj; omega))
  have hS0 := hS.1
  refine lv_iinc (lv' := [(1, .int (0 + 1)), (0, .ref q)]) hx hb dX1_init_75 hl (k := 0) rfl (by rfl) (by decide) rfl (fun ls hl => ?_)
  refine lv_goto (tgt := 41) hx hb dX1_init_78 (by decide) ?_
  refine lv_iload_n hx hb dX1_init_41 rfl (lv_at hl 0 rfl) ?_
  refine lv_bipush (v := 10) hx hb dX1_init_42 (by decide) ?_
  refine lv_icmp_ge (tgt := 81) hx hb dX1_init_44 (by decide) (fun hc0 => absurd hc0 (show ¬ (10 : Int32) ≤ (0 + 1) by decide)) (fun _ => ?_)
  refine lv_aload_n hx hb dX1_init_47 rfl (lv_at hl 1 rfl) ?_
  refine x_getv X dX1_init_48 f_X1_9 hat (v := .ref a1) rfl ?_
  refine lv_iload_n hx hb dX1_init_51 rfl (lv_at hl 0 rfl) ?_
  refine lv_bipush (v := 100) hx hb dX1_init_52 (by decide) ?_
  refine lv_bipush (v := 20) hx hb dX1_init_54 (by decide) ?_
  refine lv_iload_n hx hb dX1_init_56 rfl (lv_at hl 0 rfl) ?_
  refine lv_imul hx hb dX1_init_57 ?_
  refine lv_iadd hx hb dX1_init_58 ?_
  refine g_iast X dX1_init_59 (blk1 y1 (A := (fun x : Nat => x = q ∨ s.heap.size ≤ x)) (Or.inr sa1)) hS 0 rfl (show vp_in (0 + 1) 10 by unfold vp_in; decide) (k := 1) (by decide) (fun H locs hb9 oq hS => ?_)
  have y1 : va_at D vwCl (a1, s_in tc (.inr (0, 10, none)) (tW 2)) H := by have := (hb9.1 0 _ rfl).1; rw [up2_row] at this; exact this
  have hat := hat.kept (oq q (fun e => by omega))
  have y2 := y2.kept (oq a2 (fun e => by omega))
  have y3 := y3.kept (oq a3 (fun e => by omega))
  have r1 := fun j hj => (r1 j hj).kept (oq (f1 j) (lf1z j hj))
  have r2 := fun j hj => (r2 j hj).kept (oq (f2 j) (lf2z j hj))
  have hS0 := hS.1
  refine lv_aload_n hx hb dX1_init_60 rfl (lv_at hl 1 rfl) ?_
  refine lv_dup hx hb dX1_init_61 rfl ?_
  refine x_getv X dX1_init_62 f_X1_27 hat (v := .int (0 + (tW 1 0))) rfl ?_
  refine lv_aload_n hx hb dX1_init_65 rfl (lv_at hl 1 rfl) ?_
  refine x_getv X dX1_init_66 f_X1_9 hat (v := .ref a1) rfl ?_
  refine lv_iload_n hx hb dX1_init_69 rfl (lv_at hl 0 rfl) ?_
  refine g_iald X dX1_init_70 (blk1 y1 (A := (fun x : Nat => x = q ∨ s.heap.size ≤ x)) (Or.inr sa1)) 0 rfl (show vp_in (0 + 1) 10 by unfold vp_in; decide) (k := 1) (by decide) ?_
  refine lv_iadd hx hb dX1_init_71 ?_
  refine x_putv (A := (fun x : Nat => x = q ∨ s.heap.size ≤ x)) X dX1_init_72 f_X1_27 hat (Or.inl rfl) hS (Nat.le_of_ble_eq_true rfl) rfl rfl (fun H locs hat oq hz hS => ?_)
  have y1 := y1.kept (oq a1 (fun e => by omega))
  have y2 := y2.kept (oq a2 (fun e => by omega))
  have y3 := y3.kept (oq a3 (fun e => by omega))
  have r1 := fun j hj => (r1 j hj).kept (oq (f1 j) (fun e => by have := lf1 j hj; omega))
  have r2 := fun j hj => (r2 j hj).kept (oq (f2 j) (fun e => by have := lf2 j hj; omega))
  have hS0 := hS.1
  refine lv_iinc (lv' := [(1, .int ((0 + 1) + 1)), (0, .ref q)]) hx hb dX1_init_75 hl (k := 0) rfl (by rfl) (by decide) rfl (fun ls hl => ?_)
  refine lv_goto (tgt := 41) hx hb dX1_init_78 (by decide) ?_
  refine lv_iload_n hx hb dX1_init_41 rfl (lv_at hl 0 rfl) ?_
  refine lv_bipush (v := 10) hx hb dX1_init_42 (by decide) ?_
  refine lv_icmp_ge (tgt := 81) hx hb dX1_init_44 (by decide) (fun hc0 => absurd hc0 (show ¬ (10 : Int32) ≤ ((0 + 1) + 1) by decide)) (fun _ => ?_)
  refine lv_aload_n hx hb dX1_init_47 rfl (lv_at hl 1 rfl) ?_
  refine x_getv X dX1_init_48 f_X1_9 hat (v := .ref a1) rfl ?_
  refine lv_iload_n hx hb dX1_init_51 rfl (lv_at hl 0 rfl) ?_
  refine lv_bipush (v := 100) hx hb dX1_init_52 (by decide) ?_
  refine lv_bipush (v := 20) hx hb dX1_init_54 (by decide) ?_
  refine lv_iload_n hx hb dX1_init_56 rfl (lv_at hl 0 rfl) ?_
  refine lv_imul hx hb dX1_init_57 ?_
  refine lv_iadd hx hb dX1_init_58 ?_
  refine g_iast X dX1_init_59 (blk1 y1 (A := (fun x : Nat => x = q ∨ s.heap.size ≤ x)) (Or.inr sa1)) hS 0 rfl (show vp_in ((0 + 1) + 1) 10 by unfold vp_in; decide) (k := 2) (by decide) (fun H locs hb9 oq hS => ?_)
  have y1 : va_at D vwCl (a1, s_in tc (.inr (0, 10, none)) (tW 3)) H := by have := (hb9.1 0 _ rfl).1; rw [up2_row] at this; exact this
  have hat := hat.kept (oq q (fun e => by omega))
  have y2 := y2.kept (oq a2 (fun e => by omega))
  have y3 := y3.kept (oq a3 (fun e => by omega))
  have r1 := fun j hj => (r1 j hj).kept (oq (f1 j) (lf1z j hj))
  have r2 := fun j hj => (r2 j hj).kept (oq (f2 j) (lf2z j hj))
  have hS0 := hS.1
  refine lv_aload_n hx hb dX1_init_60 rfl (lv_at hl 1 rfl) ?_
  refine lv_dup hx hb dX1_init_61 rfl ?_
  refine x_getv X dX1_init_62 f_X1_27 hat (v := .int ((0 + (tW 1 0)) + (tW 2 1))) rfl ?_
  refine lv_aload_n hx hb dX1_init_65 rfl (lv_at hl 1 rfl) ?_
  refine x_getv X dX1_init_66 f_X1_9 hat (v := .ref a1) rfl ?_
  refine lv_iload_n hx hb dX1_init_69 rfl (lv_at hl 0 rfl) ?_
  refine g_iald X dX1_init_70 (blk1 y1 (A := (fun x : Nat => x = q ∨ s.heap.size ≤ x)) (Or.inr sa1)) 0 rfl (show vp_in ((0 + 1) + 1) 10 by unfold vp_in; decide) (k := 2) (by decide) ?_
  refine lv_iadd hx hb dX1_init_71 ?_
  refine x_putv (A := (fun x : Nat => x = q ∨ s.heap.size ≤ x)) X dX1_init_72 f_X1_27 hat (Or.inl rfl) hS (Nat.le_of_ble_eq_true rfl) rfl rfl (fun H locs hat oq hz hS => ?_)
  have y1 := y1.kept (oq a1 (fun e => by omega))
  have y2 := y2.kept (oq a2 (fun e => by omega))
  have y3 := y3.kept (oq a3 (fun e => by omega))
  have r1 := fun j hj => (r1 j hj).kept (oq (f1 j) (fun e => by have := lf1 j hj; omega))
  have r2 := fun j hj => (r2 j hj).kept (oq (f2 j) (fun e => by have := lf2 j hj; omega))
  have hS0 := hS.1
  refine lv_iinc (lv' := [(1, .int (((0 + 1) + 1) + 1)), (0, .ref q)]) hx hb dX1_init_75 hl (k := 0) rfl (by rfl) (by decide) rfl (fun ls hl => ?_)
  refine lv_goto (tgt := 41) hx hb dX1_init_78 (by decide) ?_
  refine lv_iload_n hx hb dX1_init_41 rfl (lv_at hl 0 rfl) ?_
  refine lv_bipush (v := 10) hx hb dX1_init_42 (by decide) ?_
  refine lv_icmp_ge (tgt := 81) hx hb dX1_init_44 (by decide) (fun hc0 => absurd hc0 (show ¬ (10 : Int32) ≤ (((0 + 1) + 1) + 1) by decide)) (fun _ => ?_)
  refine lv_aload_n hx hb dX1_init_47 rfl (lv_at hl 1 rfl) ?_
  refine x_getv X dX1_init_48 f_X1_9 hat (v := .ref a1) rfl ?_
  refine lv_iload_n hx hb dX1_init_51 rfl (lv_at hl 0 rfl) ?_
  refine lv_bipush (v := 100) hx hb dX1_init_52 (by decide) ?_
  refine lv_bipush (v := 20) hx hb dX1_init_54 (by decide) ?_
  refine lv_iload_n hx hb dX1_init_56 rfl (lv_at hl 0 rfl) ?_
  refine lv_imul hx hb dX1_init_57 ?_
  refine lv_iadd hx hb dX1_init_58 ?_
  refine g_iast X dX1_init_59 (blk1 y1 (A := (fun x : Nat => x = q ∨ s.heap.size ≤ x)) (Or.inr sa1)) hS 0 rfl (show vp_in (((0 + 1) + 1) + 1) 10 by unfold vp_in; decide) (k := 3) (by decide) (fun H locs hb9 oq hS => ?_)
  have y1 : va_at D vwCl (a1, s_in tc (.inr (0, 10, none)) (tW 4)) H := by have := (hb9.1 0 _ rfl).1; rw [up2_row] at this; exact this
  have hat := hat.kept (oq q (fun e => by omega))
  have y2 := y2.kept (oq a2 (fun e => by omega))
  have y3 := y3.kept (oq a3 (fun e => by omega))
  have r1 := fun j hj => (r1 j hj).kept (oq (f1 j) (lf1z j hj))
  have r2 := fun j hj => (r2 j hj).kept (oq (f2 j) (lf2z j hj))
  have hS0 := hS.1
  refine lv_aload_n hx hb dX1_init_60 rfl (lv_at hl 1 rfl) ?_
  refine lv_dup hx hb dX1_init_61 rfl ?_
  refine x_getv X dX1_init_62 f_X1_27 hat (v := .int (((0 + (tW 1 0)) + (tW 2 1)) + (tW 3 2))) rfl ?_
  refine lv_aload_n hx hb dX1_init_65 rfl (lv_at hl 1 rfl) ?_
  refine x_getv X dX1_init_66 f_X1_9 hat (v := .ref a1) rfl ?_
  refine lv_iload_n hx hb dX1_init_69 rfl (lv_at hl 0 rfl) ?_
  refine g_iald X dX1_init_70 (blk1 y1 (A := (fun x : Nat => x = q ∨ s.heap.size ≤ x)) (Or.inr sa1)) 0 rfl (show vp_in (((0 + 1) + 1) + 1) 10 by unfold vp_in; decide) (k := 3) (by decide) ?_
  refine lv_iadd hx hb dX1_init_71 ?_
  refine x_putv (A := (fun x : Nat => x = q ∨ s.heap.size ≤ x)) X dX1_init_72 f_X1_27 hat (Or.inl rfl) hS (Nat.le_of_ble_eq_true rfl) rfl rfl (fun H locs hat oq hz hS => ?_)
  have y1 := y1.kept (oq a1 (fun e => by omega))
  have y2 := y2.kept (oq a2 (fun e => by omega))
  have y3 := y3.kept (oq a3 (fun e => by omega))
  have r1 := fun j hj => (r1 j hj).kept (oq (f1 j) (fun e => by have := lf1 j hj; omega))
  have r2 := fun j hj => (r2 j hj).kept (oq (f2 j) (fun e => by have := lf2 j hj; omega))
  have hS0 := hS.1
  refine lv_iinc (lv' := [(1, .int ((((0 + 1) + 1) + 1) + 1)), (0, .ref q)]) hx hb dX1_init_75 hl (k := 0) rfl (by rfl) (by decide) rfl (fun ls hl => ?_)
  refine lv_goto (tgt := 41) hx hb dX1_init_78 (by decide) ?_
  refine lv_iload_n hx hb dX1_init_41 rfl (lv_at hl 0 rfl) ?_
  refine lv_bipush (v := 10) hx hb dX1_init_42 (by decide) ?_
  refine lv_icmp_ge (tgt := 81) hx hb dX1_init_44 (by decide) (fun hc0 => absurd hc0 (show ¬ (10 : Int32) ≤ ((((0 + 1) + 1) + 1) + 1) by decide)) (fun _ => ?_)
  refine lv_aload_n hx hb dX1_init_47 rfl (lv_at hl 1 rfl) ?_
  refine x_getv X dX1_init_48 f_X1_9 hat (v := .ref a1) rfl ?_
  refine lv_iload_n hx hb dX1_init_51 rfl (lv_at hl 0 rfl) ?_
  refine lv_bipush (v := 100) hx hb dX1_init_52 (by decide) ?_
  refine lv_bipush (v := 20) hx hb dX1_init_54 (by decide) ?_
  refine lv_iload_n hx hb dX1_init_56 rfl (lv_at hl 0 rfl) ?_
  refine lv_imul hx hb dX1_init_57 ?_
  refine lv_iadd hx hb dX1_init_58 ?_
  refine g_iast X dX1_init_59 (blk1 y1 (A := (fun x : Nat => x = q ∨ s.heap.size ≤ x)) (Or.inr sa1)) hS 0 rfl (show vp_in ((((0 + 1) + 1) + 1) + 1) 10 by unfold vp_in; decide) (k := 4) (by decide) (fun H locs hb9 oq hS => ?_)
  have y1 : va_at D vwCl (a1, s_in tc (.inr (0, 10, none)) (tW 5)) H := by have := (hb9.1 0 _ rfl).1; rw [up2_row] at this; exact this
  have hat := hat.kept (oq q (fun e => by omega))
  have y2 := y2.kept (oq a2 (fun e => by omega))
  have y3 := y3.kept (oq a3 (fun e => by omega))
  have r1 := fun j hj => (r1 j hj).kept (oq (f1 j) (lf1z j hj))
  have r2 := fun j hj => (r2 j hj).kept (oq (f2 j) (lf2z j hj))
  have hS0 := hS.1
  refine lv_aload_n hx hb dX1_init_60 rfl (lv_at hl 1 rfl) ?_
  refine lv_dup hx hb dX1_init_61 rfl ?_
  refine x_getv X dX1_init_62 f_X1_27 hat (v := .int ((((0 + (tW 1 0)) + (tW 2 1)) + (tW 3 2)) + (tW 4 3))) rfl ?_
  refine lv_aload_n hx hb dX1_init_65 rfl (lv_at hl 1 rfl) ?_
  refine x_getv X dX1_init_66 f_X1_9 hat (v := .ref a1) rfl ?_
  refine lv_iload_n hx hb dX1_init_69 rfl (lv_at hl 0 rfl) ?_
  refine g_iald X dX1_init_70 (blk1 y1 (A := (fun x : Nat => x = q ∨ s.heap.size ≤ x)) (Or.inr sa1)) 0 rfl (show vp_in ((((0 + 1) + 1) + 1) + 1) 10 by unfold vp_in; decide) (k := 4) (by decide) ?_
  refine lv_iadd hx hb dX1_init_71 ?_
  refine x_putv (A := (fun x : Nat => x = q ∨ s.heap.size ≤ x)) X dX1_init_72 f_X1_27 hat (Or.inl rfl) hS (Nat.le_of_ble_eq_true rfl) rfl rfl (fun H locs hat oq hz hS => ?_)
  have y1 := y1.kept (oq a1 (fun e => by omega))
  have y2 := y2.kept (oq a2 (fun e => by omega))
  have y3 := y3.kept (oq a3 (fun e => by omega))
  have r1 := fun j hj => (r1 j hj).kept (oq (f1 j) (fun e => by have := lf1 j hj; omega))
  have r2 := fun j hj => (r2 j hj).kept (oq (f2 j) (fun e => by have := lf2 j hj; omega))
  have hS0 := hS.1
  refine lv_iinc (lv' := [(1, .int (((((0 + 1) + 1) + 1) + 1) + 1)), (0, .ref q)]) hx hb dX1_init_75 hl (k := 0) rfl (by rfl) (by decide) rfl (fun ls hl => ?_)
  refine lv_goto (tgt := 41) hx hb dX1_init_78 (by decide) ?_
  refine lv_iload_n hx hb dX1_init_41 rfl (lv_at hl 0 rfl) ?_
  refine lv_bipush (v := 10) hx hb dX1_init_42 (by decide) ?_
  refine lv_icmp_ge (tgt := 81) hx hb dX1_init_44 (by decide) (fun hc0 => absurd hc0 (show ¬ (10 : Int32) ≤ (((((0 + 1) + 1) + 1) + 1) + 1) by decide)) (fun _ => ?_)
  refine lv_aload_n hx hb dX1_init_47 rfl (lv_at hl 1 rfl) ?_
  refine x_getv X dX1_init_48 f_X1_9 hat (v := .ref a1) rfl ?_
  refine lv_iload_n hx hb dX1_init_51 rfl (lv_at hl 0 rfl) ?_
  refine lv_bipush (v := 100) hx hb dX1_init_52 (by decide) ?_
  refine lv_bipush (v := 20) hx hb dX1_init_54 (by decide) ?_
  refine lv_iload_n hx hb dX1_init_56 rfl (lv_at hl 0 rfl) ?_
  refine lv_imul hx hb dX1_init_57 ?_
  refine lv_iadd hx hb dX1_init_58 ?_
  refine g_iast X dX1_init_59 (blk1 y1 (A := (fun x : Nat => x = q ∨ s.heap.size ≤ x)) (Or.inr sa1)) hS 0 rfl (show vp_in (((((0 + 1) + 1) + 1) + 1) + 1) 10 by unfold vp_in; decide) (k := 5) (by decide) (fun H locs hb9 oq hS => ?_)
  have y1 : va_at D vwCl (a1, s_in tc (.inr (0, 10, none)) (tW 6)) H := by have := (hb9.1 0 _ rfl).1; rw [up2_row] at this; exact this
  have hat := hat.kept (oq q (fun e => by omega))
  have y2 := y2.kept (oq a2 (fun e => by omega))
  have y3 := y3.kept (oq a3 (fun e => by omega))
  have r1 := fun j hj => (r1 j hj).kept (oq (f1 j) (lf1z j hj))
  have r2 := fun j hj => (r2 j hj).kept (oq (f2 j) (lf2z j hj))
  have hS0 := hS.1
  refine lv_aload_n hx hb dX1_init_60 rfl (lv_at hl 1 rfl) ?_
  refine lv_dup hx hb dX1_init_61 rfl ?_
  refine x_getv X dX1_init_62 f_X1_27 hat (v := .int (((((0 + (tW 1 0)) + (tW 2 1)) + (tW 3 2)) + (tW 4 3)) + (tW 5 4))) rfl ?_
  refine lv_aload_n hx hb dX1_init_65 rfl (lv_at hl 1 rfl) ?_
  refine x_getv X dX1_init_66 f_X1_9 hat (v := .ref a1) rfl ?_
  refine lv_iload_n hx hb dX1_init_69 rfl (lv_at hl 0 rfl) ?_
  refine g_iald X dX1_init_70 (blk1 y1 (A := (fun x : Nat => x = q ∨ s.heap.size ≤ x)) (Or.inr sa1)) 0 rfl (show vp_in (((((0 + 1) + 1) + 1) + 1) + 1) 10 by unfold vp_in; decide) (k := 5) (by decide) ?_
  refine lv_iadd hx hb dX1_init_71 ?_
  refine x_putv (A := (fun x : Nat => x = q ∨ s.heap.size ≤ x)) X dX1_init_72 f_X1_27 hat (Or.inl rfl) hS (Nat.le_of_ble_eq_true rfl) rfl rfl (fun H locs hat oq hz hS => ?_)
  have y1 := y1.kept (oq a1 (fun e => by omega))
  have y2 := y2.kept (oq a2 (fun e => by omega))
  have y3 := y3.kept (oq a3 (fun e => by omega))
  have r1 := fun j hj => (r1 j hj).kept (oq (f1 j) (fun e => by have := lf1 j hj; omega))
  have r2 := fun j hj => (r2 j hj).kept (oq (f2 j) (fun e => by have := lf2 j hj; omega))
  have hS0 := hS.1
  refine lv_iinc (lv' := [(1, .int ((((((0 + 1) + 1) + 1) + 1) + 1) + 1)), (0, .ref q)]) hx hb dX1_init_75 hl (k := 0) rfl (by rfl) (by decide) rfl (fun ls hl => ?_)
  refine lv_goto (tgt := 41) hx hb dX1_init_78 (by decide) ?_
  refine lv_iload_n hx hb dX1_init_41 rfl (lv_at hl 0 rfl) ?_
  refine lv_bipush (v := 10) hx hb dX1_init_42 (by decide) ?_
  refine lv_icmp_ge (tgt := 81) hx hb dX1_init_44 (by decide) (fun hc0 => absurd hc0 (show ¬ (10 : Int32) ≤ ((((((0 + 1) + 1) + 1) + 1) + 1) + 1) by decide)) (fun _ => ?_)
  refine lv_aload_n hx hb dX1_init_47 rfl (lv_at hl 1 rfl) ?_
  refine x_getv X dX1_init_48 f_X1_9 hat (v := .ref a1) rfl ?_
  refine lv_iload_n hx hb dX1_init_51 rfl (lv_at hl 0 rfl) ?_
  refine lv_bipush (v := 100) hx hb dX1_init_52 (by decide) ?_
  refine lv_bipush (v := 20) hx hb dX1_init_54 (by decide) ?_
  refine lv_iload_n hx hb dX1_init_56 rfl (lv_at hl 0 rfl) ?_
  refine lv_imul hx hb dX1_init_57 ?_
  refine lv_iadd hx hb dX1_init_58 ?_
  refine g_iast X dX1_init_59 (blk1 y1 (A := (fun x : Nat => x = q ∨ s.heap.size ≤ x)) (Or.inr sa1)) hS 0 rfl (show vp_in ((((((0 + 1) + 1) + 1) + 1) + 1) + 1) 10 by unfold vp_in; decide) (k := 6) (by decide) (fun H locs hb9 oq hS => ?_)
  have y1 : va_at D vwCl (a1, s_in tc (.inr (0, 10, none)) (tW 7)) H := by have := (hb9.1 0 _ rfl).1; rw [up2_row] at this; exact this
  have hat := hat.kept (oq q (fun e => by omega))
  have y2 := y2.kept (oq a2 (fun e => by omega))
  have y3 := y3.kept (oq a3 (fun e => by omega))
  have r1 := fun j hj => (r1 j hj).kept (oq (f1 j) (lf1z j hj))
  have r2 := fun j hj => (r2 j hj).kept (oq (f2 j) (lf2z j hj))
  have hS0 := hS.1
  refine lv_aload_n hx hb dX1_init_60 rfl (lv_at hl 1 rfl) ?_
  refine lv_dup hx hb dX1_init_61 rfl ?_
  refine x_getv X dX1_init_62 f_X1_27 hat (v := .int ((((((0 + (tW 1 0)) + (tW 2 1)) + (tW 3 2)) + (tW 4 3)) + (tW 5 4)) + (tW 6 5))) rfl ?_
  refine lv_aload_n hx hb dX1_init_65 rfl (lv_at hl 1 rfl) ?_
  refine x_getv X dX1_init_66 f_X1_9 hat (v := .ref a1) rfl ?_
  refine lv_iload_n hx hb dX1_init_69 rfl (lv_at hl 0 rfl) ?_
  refine g_iald X dX1_init_70 (blk1 y1 (A := (fun x : Nat => x = q ∨ s.heap.size ≤ x)) (Or.inr sa1)) 0 rfl (show vp_in ((((((0 + 1) + 1) + 1) + 1) + 1) + 1) 10 by unfold vp_in; decide) (k := 6) (by decide) ?_
  refine lv_iadd hx hb dX1_init_71 ?_
  refine x_putv (A := (fun x : Nat => x = q ∨ s.heap.size ≤ x)) X dX1_init_72 f_X1_27 hat (Or.inl rfl) hS (Nat.le_of_ble_eq_true rfl) rfl rfl (fun H locs hat oq hz hS => ?_)
  have y1 := y1.kept (oq a1 (fun e => by omega))
  have y2 := y2.kept (oq a2 (fun e => by omega))
  have y3 := y3.kept (oq a3 (fun e => by omega))
  have r1 := fun j hj => (r1 j hj).kept (oq (f1 j) (fun e => by have := lf1 j hj; omega))
  have r2 := fun j hj => (r2 j hj).kept (oq (f2 j) (fun e => by have := lf2 j hj; omega))
  have hS0 := hS.1
  refine lv_iinc (lv' := [(1, .int (((((((0 + 1) + 1) + 1) + 1) + 1) + 1) + 1)), (0, .ref q)]) hx hb dX1_init_75 hl (k := 0) rfl (by rfl) (by decide) rfl (fun ls hl => ?_)
  refine lv_goto (tgt := 41) hx hb dX1_init_78 (by decide) ?_
  refine lv_iload_n hx hb dX1_init_41 rfl (lv_at hl 0 rfl) ?_
  refine lv_bipush (v := 10) hx hb dX1_init_42 (by decide) ?_
  refine lv_icmp_ge (tgt := 81) hx hb dX1_init_44 (by decide) (fun hc0 => absurd hc0 (show ¬ (10 : Int32) ≤ (((((((0 + 1) + 1) + 1) + 1) + 1) + 1) + 1) by decide)) (fun _ => ?_)
  refine lv_aload_n hx hb dX1_init_47 rfl (lv_at hl 1 rfl) ?_
  refine x_getv X dX1_init_48 f_X1_9 hat (v := .ref a1) rfl ?_
  refine lv_iload_n hx hb dX1_init_51 rfl (lv_at hl 0 rfl) ?_
  refine lv_bipush (v := 100) hx hb dX1_init_52 (by decide) ?_
  refine lv_bipush (v := 20) hx hb dX1_init_54 (by decide) ?_
  refine lv_iload_n hx hb dX1_init_56 rfl (lv_at hl 0 rfl) ?_
  refine lv_imul hx hb dX1_init_57 ?_
  refine lv_iadd hx hb dX1_init_58 ?_
  refine g_iast X dX1_init_59 (blk1 y1 (A := (fun x : Nat => x = q ∨ s.heap.size ≤ x)) (Or.inr sa1)) hS 0 rfl (show vp_in (((((((0 + 1) + 1) + 1) + 1) + 1) + 1) + 1) 10 by unfold vp_in; decide) (k := 7) (by decide) (fun H locs hb9 oq hS => ?_)
  have y1 : va_at D vwCl (a1, s_in tc (.inr (0, 10, none)) (tW 8)) H := by have := (hb9.1 0 _ rfl).1; rw [up2_row] at this; exact this
  have hat := hat.kept (oq q (fun e => by omega))
  have y2 := y2.kept (oq a2 (fun e => by omega))
  have y3 := y3.kept (oq a3 (fun e => by omega))
  have r1 := fun j hj => (r1 j hj).kept (oq (f1 j) (lf1z j hj))
  have r2 := fun j hj => (r2 j hj).kept (oq (f2 j) (lf2z j hj))
  have hS0 := hS.1
  refine lv_aload_n hx hb dX1_init_60 rfl (lv_at hl 1 rfl) ?_
  refine lv_dup hx hb dX1_init_61 rfl ?_
  refine x_getv X dX1_init_62 f_X1_27 hat (v := .int (((((((0 + (tW 1 0)) + (tW 2 1)) + (tW 3 2)) + (tW 4 3)) + (tW 5 4)) + (tW 6 5)) + (tW 7 6))) rfl ?_
  refine lv_aload_n hx hb dX1_init_65 rfl (lv_at hl 1 rfl) ?_
  refine x_getv X dX1_init_66 f_X1_9 hat (v := .ref a1) rfl ?_
  refine lv_iload_n hx hb dX1_init_69 rfl (lv_at hl 0 rfl) ?_
  refine g_iald X dX1_init_70 (blk1 y1 (A := (fun x : Nat => x = q ∨ s.heap.size ≤ x)) (Or.inr sa1)) 0 rfl (show vp_in (((((((0 + 1) + 1) + 1) + 1) + 1) + 1) + 1) 10 by unfold vp_in; decide) (k := 7) (by decide) ?_
  refine lv_iadd hx hb dX1_init_71 ?_
  refine x_putv (A := (fun x : Nat => x = q ∨ s.heap.size ≤ x)) X dX1_init_72 f_X1_27 hat (Or.inl rfl) hS (Nat.le_of_ble_eq_true rfl) rfl rfl (fun H locs hat oq hz hS => ?_)
  have y1 := y1.kept (oq a1 (fun e => by omega))
  have y2 := y2.kept (oq a2 (fun e => by omega))
  have y3 := y3.kept (oq a3 (fun e => by omega))
  have r1 := fun j hj => (r1 j hj).kept (oq (f1 j) (fun e => by have := lf1 j hj; omega))
  have r2 := fun j hj => (r2 j hj).kept (oq (f2 j) (fun e => by have := lf2 j hj; omega))
  have hS0 := hS.1
  refine lv_iinc (lv' := [(1, .int ((((((((0 + 1) + 1) + 1) + 1) + 1) + 1) + 1) + 1)), (0, .ref q)]) hx hb dX1_init_75 hl (k := 0) rfl (by rfl) (by decide) rfl (fun ls hl => ?_)
  refine lv_goto (tgt := 41) hx hb dX1_init_78 (by decide) ?_
  refine lv_iload_n hx hb dX1_init_41 rfl (lv_at hl 0 rfl) ?_
  refine lv_bipush (v := 10) hx hb dX1_init_42 (by decide) ?_
  refine lv_icmp_ge (tgt := 81) hx hb dX1_init_44 (by decide) (fun hc0 => absurd hc0 (show ¬ (10 : Int32) ≤ ((((((((0 + 1) + 1) + 1) + 1) + 1) + 1) + 1) + 1) by decide)) (fun _ => ?_)
  refine lv_aload_n hx hb dX1_init_47 rfl (lv_at hl 1 rfl) ?_
  refine x_getv X dX1_init_48 f_X1_9 hat (v := .ref a1) rfl ?_
  refine lv_iload_n hx hb dX1_init_51 rfl (lv_at hl 0 rfl) ?_
  refine lv_bipush (v := 100) hx hb dX1_init_52 (by decide) ?_
  refine lv_bipush (v := 20) hx hb dX1_init_54 (by decide) ?_
  refine lv_iload_n hx hb dX1_init_56 rfl (lv_at hl 0 rfl) ?_
  refine lv_imul hx hb dX1_init_57 ?_
  refine lv_iadd hx hb dX1_init_58 ?_
  refine g_iast X dX1_init_59 (blk1 y1 (A := (fun x : Nat => x = q ∨ s.heap.size ≤ x)) (Or.inr sa1)) hS 0 rfl (show vp_in ((((((((0 + 1) + 1) + 1) + 1) + 1) + 1) + 1) + 1) 10 by unfold vp_in; decide) (k := 8) (by decide) (fun H locs hb9 oq hS => ?_)
  have y1 : va_at D vwCl (a1, s_in tc (.inr (0, 10, none)) (tW 9)) H := by have := (hb9.1 0 _ rfl).1; rw [up2_row] at this; exact this
  have hat := hat.kept (oq q (fun e => by omega))
  have y2 := y2.kept (oq a2 (fun e => by omega))
  have y3 := y3.kept (oq a3 (fun e => by omega))
  have r1 := fun j hj => (r1 j hj).kept (oq (f1 j) (lf1z j hj))
  have r2 := fun j hj => (r2 j hj).kept (oq (f2 j) (lf2z j hj))
  have hS0 := hS.1
  refine lv_aload_n hx hb dX1_init_60 rfl (lv_at hl 1 rfl) ?_
  refine lv_dup hx hb dX1_init_61 rfl ?_
  refine x_getv X dX1_init_62 f_X1_27 hat (v := .int ((((((((0 + (tW 1 0)) + (tW 2 1)) + (tW 3 2)) + (tW 4 3)) + (tW 5 4)) + (tW 6 5)) + (tW 7 6)) + (tW 8 7))) rfl ?_
  refine lv_aload_n hx hb dX1_init_65 rfl (lv_at hl 1 rfl) ?_
  refine x_getv X dX1_init_66 f_X1_9 hat (v := .ref a1) rfl ?_
  refine lv_iload_n hx hb dX1_init_69 rfl (lv_at hl 0 rfl) ?_
  refine g_iald X dX1_init_70 (blk1 y1 (A := (fun x : Nat => x = q ∨ s.heap.size ≤ x)) (Or.inr sa1)) 0 rfl (show vp_in ((((((((0 + 1) + 1) + 1) + 1) + 1) + 1) + 1) + 1) 10 by unfold vp_in; decide) (k := 8) (by decide) ?_
  refine lv_iadd hx hb dX1_init_71 ?_
  refine x_putv (A := (fun x : Nat => x = q ∨ s.heap.size ≤ x)) X dX1_init_72 f_X1_27 hat (Or.inl rfl) hS (Nat.le_of_ble_eq_true rfl) rfl rfl (fun H locs hat oq hz hS => ?_)
  have y1 := y1.kept (oq a1 (fun e => by omega))
  have y2 := y2.kept (oq a2 (fun e => by omega))
  have y3 := y3.kept (oq a3 (fun e => by omega))
  have r1 := fun j hj => (r1 j hj).kept (oq (f1 j) (fun e => by have := lf1 j hj; omega))
  have r2 := fun j hj => (r2 j hj).kept (oq (f2 j) (fun e => by have := lf2 j hj; omega))
  have hS0 := hS.1
  refine lv_iinc (lv' := [(1, .int (((((((((0 + 1) + 1) + 1) + 1) + 1) + 1) + 1) + 1) + 1)), (0, .ref q)]) hx hb dX1_init_75 hl (k := 0) rfl (by rfl) (by decide) rfl (fun ls hl => ?_)
  refine lv_goto (tgt := 41) hx hb dX1_init_78 (by decide) ?_
  refine lv_iload_n hx hb dX1_init_41 rfl (lv_at hl 0 rfl) ?_
  refine lv_bipush (v := 10) hx hb dX1_init_42 (by decide) ?_
  refine lv_icmp_ge (tgt := 81) hx hb dX1_init_44 (by decide) (fun hc0 => absurd hc0 (show ¬ (10 : Int32) ≤ (((((((((0 + 1) + 1) + 1) + 1) + 1) + 1) + 1) + 1) + 1) by decide)) (fun _ => ?_)
  refine lv_aload_n hx hb dX1_init_47 rfl (lv_at hl 1 rfl) ?_
  refine x_getv X dX1_init_48 f_X1_9 hat (v := .ref a1) rfl ?_
  refine lv_iload_n hx hb dX1_init_51 rfl (lv_at hl 0 rfl) ?_
  refine lv_bipush (v := 100) hx hb dX1_init_52 (by decide) ?_
  refine lv_bipush (v := 20) hx hb dX1_init_54 (by decide) ?_
  refine lv_iload_n hx hb dX1_init_56 rfl (lv_at hl 0 rfl) ?_
  refine lv_imul hx hb dX1_init_57 ?_
  refine lv_iadd hx hb dX1_init_58 ?_
  refine g_iast X dX1_init_59 (blk1 y1 (A := (fun x : Nat => x = q ∨ s.heap.size ≤ x)) (Or.inr sa1)) hS 0 rfl (show vp_in (((((((((0 + 1) + 1) + 1) + 1) + 1) + 1) + 1) + 1) + 1) 10 by unfold vp_in; decide) (k := 9) (by decide) (fun H locs hb9 oq hS => ?_)
  have y1 : va_at D vwCl (a1, s_in tc (.inr (0, 10, none)) (tW 10)) H := by have := (hb9.1 0 _ rfl).1; rw [up2_row] at this; exact this
  have hat := hat.kept (oq q (fun e => by omega))
  have y2 := y2.kept (oq a2 (fun e => by omega))
  have y3 := y3.kept (oq a3 (fun e => by omega))
  have r1 := fun j hj => (r1 j hj).kept (oq (f1 j) (lf1z j hj))
  have r2 := fun j hj => (r2 j hj).kept (oq (f2 j) (lf2z j hj))
  have hS0 := hS.1
  refine lv_aload_n hx hb dX1_init_60 rfl (lv_at hl 1 rfl) ?_
  refine lv_dup hx hb dX1_init_61 rfl ?_
  refine x_getv X dX1_init_62 f_X1_27 hat (v := .int (((((((((0 + (tW 1 0)) + (tW 2 1)) + (tW 3 2)) + (tW 4 3)) + (tW 5 4)) + (tW 6 5)) + (tW 7 6)) + (tW 8 7)) + (tW 9 8))) rfl ?_
  refine lv_aload_n hx hb dX1_init_65 rfl (lv_at hl 1 rfl) ?_
  refine x_getv X dX1_init_66 f_X1_9 hat (v := .ref a1) rfl ?_
  refine lv_iload_n hx hb dX1_init_69 rfl (lv_at hl 0 rfl) ?_
  refine g_iald X dX1_init_70 (blk1 y1 (A := (fun x : Nat => x = q ∨ s.heap.size ≤ x)) (Or.inr sa1)) 0 rfl (show vp_in (((((((((0 + 1) + 1) + 1) + 1) + 1) + 1) + 1) + 1) + 1) 10 by unfold vp_in; decide) (k := 9) (by decide) ?_
  refine lv_iadd hx hb dX1_init_71 ?_
  refine x_putv (A := (fun x : Nat => x = q ∨ s.heap.size ≤ x)) X dX1_init_72 f_X1_27 hat (Or.inl rfl) hS (Nat.le_of_ble_eq_true rfl) rfl rfl (fun H locs hat oq hz hS => ?_)
  have y1 := y1.kept (oq a1 (fun e => by omega))
  have y2 := y2.kept (oq a2 (fun e => by omega))
  have y3 := y3.kept (oq a3 (fun e => by omega))
  have r1 := fun j hj => (r1 j hj).kept (oq (f1 j) (fun e => by have := lf1 j hj; omega))
  have r2 := fun j hj => (r2 j hj).kept (oq (f2 j) (fun e => by have := lf2 j hj; omega))
  have hS0 := hS.1
  refine lv_iinc (lv' := [(1, .int ((((((((((0 + 1) + 1) + 1) + 1) + 1) + 1) + 1) + 1) + 1) + 1)), (0, .ref q)]) hx hb dX1_init_75 hl (k := 0) rfl (by rfl) (by decide) rfl (fun ls hl => ?_)
  refine lv_goto (tgt := 41) hx hb dX1_init_78 (by decide) ?_
  refine lv_iload_n hx hb dX1_init_41 rfl (lv_at hl 0 rfl) ?_
  refine lv_bipush (v := 10) hx hb dX1_init_42 (by decide) ?_
  refine lv_icmp_ge (tgt := 81) hx hb dX1_init_44 (by decide) (fun _ => ?_) (fun hc0 => absurd (show (10 : Int32) ≤ ((((((((((0 + 1) + 1) + 1) + 1) + 1) + 1) + 1) + 1) + 1) + 1) by decide) hc0)
  have hsum : (((((((((((0 + (tW 1 0)) + (tW 2 1)) + (tW 3 2)) + (tW 4 3)) + (tW 5 4)) + (tW 6 5)) + (tW 7 6)) + (tW 8 7)) + (tW 9 8)) + (tW 10 9)) : Int32) = 1900 := by decide +kernel
  have hat : va_at D vwCl (q, .inr (5, [.ref a1, .ref a2, .ref a3, .int 2, .int 0, .int 1900, .int 0, .int 0])) H := by rw [← hsum]; exact hat
  exact e_v X hr dX1_init_81 hS () rfl trivial ⟨a1, a2, a3, f1, f2, sa1, la1, la2, la3, fun j hj => ⟨mf1 j hj, bf1a3 j hj, mf2 j hj⟩, if1, if2, hat, y1, y2, y3, r1, r2⟩ ⟨Nat.le_of_ble_eq_true rfl, Nat.le_of_ble_eq_true rfl⟩
