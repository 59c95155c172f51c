/-! THE JDK's lists: iterators, growth -/
theorem SB.off {D : va_G} {tc : Nat → ClassId} {e0 : Nat} {A : Nat → Prop} {t n : Nat → Nat} {r : Nat → Nat → Nat} {w : Dt} {H H1 : Heap} (h : SB D tc e0 A t n r w H) {q : Nat} (hq : H.size ≤ q) (o1 : ∀ x, x < H.size → H1[x]? = H[x]?) : SB D tc e0 (fun x => A x ∧ x ≠ q) t n r w H1 :=
  (h.mono (B := fun x => A x ∧ x ≠ q) (fun x hx hA => ⟨hA, fun e => by omega⟩)).kept (fun x hx _ => o1 x hx)
/-- an iterator q over the list a: at c, made when the list's count was m -/
def IT (D : va_G) (q a : Nat) (c m : Int32) (H : Heap) : Prop := ∃ lr : Int32, va_at D vwCl (q, .inr (2, [.int c, .int lr, .int m, .ref a])) H
theorem IT.kept {D : va_G} {q a : Nat} {c m : Int32} {H H1 : Heap} (h : IT D q a c m H) (hq : ∀ x, x < H.size → x = q → H1[x]? = H[x]?) : IT D q a c m H1 := by
  obtain ⟨lr, h⟩ := h
  exact ⟨lr, h.kept (hq _ h.lt rfl)⟩

abbrev rm_ini  : Room := { frames := 1, cells := 0, slots := 0, locals := 20 }
set_option maxHeartbeats 4000000 in
theorem c_ini (l : Launch) (D : va_G) (tc : Nat → ClassId) (h0 : Nat) (sa : Nat → Nat) {e0 : Nat} {A : Nat → Prop} {t n : Nat → Nat} {r : Nat → Nat → Nat} {w : Dt} (H0 : Heap) (q a : Nat) (hB : SB D tc e0 A t n r w H0) (hk : isL (t a) = true) (hqA : ¬ A q) (ha0 : h0 ≤ q) (hat : va_at D vwCl (q, .inr (2, [.int 0, .int 0, .int 0, .null])) H0) : MB (S := Unit) l yJx35411_init_45d68 cJx35411_init_45d68 2 (Option.none : Option FieldType) (rm_ini ) (fun x : Nat => x = q) [.ref q, .ref a] D tc h0 sa H0 (fun _ => True) (fun _ H1 => IT D q a 0 (w a 0) H1) (fun _ => none) := by
  refine MB.ofF RJx35411 [(0, .ref q), (1, .ref a)] (by decide +kernel) rfl (Nat.le_of_ble_eq_true rfl) rfl ?_
  intro p e s m below meth c ls X hr hin hT hH hS hl
  subst hH
  have hx := X.1
  have hb := X.2.1
  have hown := X.2.2.2.1
  have hU := X.2.2.2.2.1.1
  have hA0 : ∀ x : Nat, x = q → h0 ≤ x := fun x h => h ▸ ha0
  obtain ⟨E, cap, hO⟩ := hB
  have hatL := (hO.1 a _ (isL_cel hk)).1
  have hlt := hO.2.1 a hk
  have haq : a ≠ q := fun e => hqA (e ▸ (hO.1 a _ (isL_cel hk)).2)
  refine lv_aload_n hx hb dJx35411_init_45d68_0 rfl (lv_at hl 0 rfl) ?_
  refine lv_aload_n hx hb dJx35411_init_45d68_1 rfl (lv_at hl 1 rfl) ?_
  refine x_putF (A := fun x : Nat => x = q) X hin dJx35411_init_45d68_2 f_Jx35411_1 rfl rfl hat rfl hS (Nat.le_of_ble_eq_true rfl) rfl rfl (fun H locs hat oq hz hS => ?_)
  have hatL := hatL.kept (oq a haq)
  refine lv_aload_n hx hb dJx35411_init_45d68_5 rfl (lv_at hl 0 rfl) ?_
  refine W.objInit hx hb hown (hU.use mo_Jx35411_7.1) (hU.use mo_Jx35411_7.2.1) (hU.use mo_Jx35411_7.2.2) rfl (hl.1.trans X.2.2.1.symm) rfl dJx35411_init_45d68_6 (Nat.le_of_ble_eq_true rfl) (Nat.le_of_ble_eq_true rfl) ?_
  refine W.eq (g2 := F0 m 9 ls []) rfl ?_
  refine lv_aload_n hx hb dJx35411_init_45d68_9 rfl (lv_at hl 0 rfl) ?_
  refine lv_iconst (v := (-1)) hx hb dJx35411_init_45d68_10 (by decide) ?_
  refine x_putv (A := fun x : Nat => x = q) X dJx35411_init_45d68_11 f_Jx35411_13 hat rfl hS (Nat.le_of_ble_eq_true rfl) rfl rfl (fun H locs hat oq hz hS => ?_)
  have hatL := hatL.kept (oq a haq)
  refine lv_aload_n hx hb dJx35411_init_45d68_14 rfl (lv_at hl 0 rfl) ?_
  refine lv_aload_n hx hb dJx35411_init_45d68_15 rfl (lv_at hl 0 rfl) ?_
  refine x_getv X dJx35411_init_45d68_16 f_Jx35411_1 hat (v := .ref a) rfl ?_
  refine x_getv X dJx35411_init_45d68_19 f_Jx35411_17 hatL (v := .int (w a 0)) rfl ?_
  refine x_putv (A := fun x : Nat => x = q) X dJx35411_init_45d68_22 f_Jx35411_22 hat rfl hS (Nat.le_of_ble_eq_true rfl) rfl rfl (fun H locs hat oq hz hS => ?_)
  have hatL := hatL.kept (oq a haq)
  exact e_v X hr dJx35411_init_45d68_25 hS () rfl trivial ⟨_, hat⟩ ⟨Nat.le_of_ble_eq_true rfl, Nat.le_of_ble_eq_true rfl⟩
abbrev rm_itr  : Room := { frames := 2, cells := 1, slots := 4, locals := 41 }
set_option maxHeartbeats 4000000 in
theorem c_itr (l : Launch) (D : va_G) (tc : Nat → ClassId) (h0 : Nat) (sa : Nat → Nat) {e0 : Nat} {A : Nat → Prop} {t n : Nat → Nat} {r : Nat → Nat → Nat} {w : Dt} (H0 : Heap) (a : Nat) (hB : SB D tc e0 A t n r w H0) (hk : isL (t a) = true) (hh0 : ∀ x, H0.size ≤ x → h0 ≤ x) : MB (S := Nat) l yJx4a65c_iterator_32c93 cJx4a65c_iterator_32c93 1 (Option.some (FieldType.object "java/util/Iterator")) (rm_itr ) (fun x : Nat => H0.size ≤ x) [.ref a] D tc h0 sa H0 (fun _ => True) (fun q H1 => H0.size ≤ q ∧ q < H1.size ∧ IT D q a 0 (w a 0) H1) (fun q => some (.ref q)) := by
  refine MB.ofF RJx4a65c [(0, .ref a)] (by decide +kernel) rfl (Nat.le_of_ble_eq_true rfl) rfl ?_
  intro p e s m below meth c ls X hr hin hT hH hS hl
  subst hH
  have hx := X.1
  have hb := X.2.1
  have hown := X.2.2.2.1
  have hU := X.2.2.2.2.1.1
  have hA0 : ∀ x : Nat, s.heap.size ≤ x → h0 ≤ x := fun x h => hh0 x h
  refine x_new (A := fun x : Nat => s.heap.size ≤ x) X nw_Jx4a65c_267 (fs := [.int 0, .int 0, .int 0, .null]) (fun j hj => by rcases (show j = 0 ∨ j = 1 ∨ j = 2 ∨ j = 3 by omega) with e | e | e | e <;> subst e <;> rfl) hS (fun _ h => h) ⟨Nat.le_of_ble_eq_true rfl, Nat.le_of_ble_eq_true rfl⟩ dJx4a65c_iterator_32c93_0 (fun q H hq hat hAq hz hqz o1 hS => ?_)
  have hB := hB.off hq o1
  refine lv_dup hx hb dJx4a65c_iterator_32c93_3 rfl ?_
  refine lv_aload_n hx hb dJx4a65c_iterator_32c93_4 rfl (lv_at hl 0 rfl) ?_
  refine g_after (st0 := [.ref a, .ref q, .ref q]) (rest := [.ref q]) (g_I X m_Jx4a65c_269 (c_ini l D tc h0 sa H q a hB hk (fun h => h.2 rfl) (hh0 q hAq) hat) hT hS hA0 dJx4a65c_iterator_32c93_5 hl.1 rfl rfl ⟨Nat.le_of_ble_eq_true rfl, Nat.le_of_ble_eq_true rfl⟩ (Nat.le_of_ble_eq_true rfl) ⟨Nat.le_of_ble_eq_true rfl, Nat.le_of_ble_eq_true rfl⟩) hS (fun x h => h ▸ hAq) (fun u => [.ref q]) (fun _ => rfl) (fun u H9 locs hw hP9 hz9 hk9 hS => ?_)
  exact e_a X hr (Or.inl ⟨_, rfl⟩) (Or.inr ⟨_, rfl⟩) dJx4a65c_iterator_32c93_8 hS q rfl trivial ⟨hAq, Nat.lt_of_lt_of_le hqz hz9, hP9⟩ ⟨Nat.le_of_ble_eq_true rfl, Nat.le_of_ble_eq_true rfl⟩
abbrev rm_hn  : Room := { frames := 0, cells := 0, slots := 0, locals := 0 }
set_option maxHeartbeats 4000000 in
theorem c_hn (l : Launch) (D : va_G) (tc : Nat → ClassId) (h0 : Nat) (sa : Nat → Nat) {e0 : Nat} {A : Nat → Prop} {t n : Nat → Nat} {r : Nat → Nat → Nat} {w : Dt} (H0 : Heap) (q a : Nat) (hB : SB D tc e0 A t n r w H0) (hk : isL (t a) = true) {c9 m9 : Int32} (hI : IT D q a c9 m9 H0) : MB (S := Unit) l yJx35411_hasNext_aae02 cJx35411_hasNext_aae02 1 (Option.some FieldType.boolean) (rm_hn ) (fun _ : Nat => False) [.ref q] D tc h0 sa H0 (fun _ => True) (fun _ (H1 : Heap) => H1 = H0) (fun _ => some (.int (if c9 = nI (n a) then 0 else 1))) := by
  refine MB.ofF RJx35411 [(0, .ref q)] (by decide +kernel) rfl (Nat.le_of_ble_eq_true rfl) rfl ?_
  intro p e s m below meth c ls X hr hin hT hH hS hl
  subst hH
  have hx := X.1
  have hb := X.2.1
  have hown := X.2.2.2.1
  have hU := X.2.2.2.2.1.1
  have hA0 : ∀ q : Nat, (fun _ : Nat => False) q → h0 ≤ q := fun _ h => h.elim
  obtain ⟨lr, hat⟩ := hI
  obtain ⟨E, cap, hO⟩ := hB
  have hatL := (hO.1 a _ (isL_cel hk)).1
  have hlt := hO.2.1 a hk
  refine lv_aload_n hx hb dJx35411_hasNext_aae02_0 rfl (lv_at hl 0 rfl) ?_
  refine x_getv X dJx35411_hasNext_aae02_1 f_Jx35411_25 hat (v := .int c9) rfl ?_
  refine lv_aload_n hx hb dJx35411_hasNext_aae02_4 rfl (lv_at hl 0 rfl) ?_
  refine x_getv X dJx35411_hasNext_aae02_5 f_Jx35411_1 hat (v := .ref a) rfl ?_
  refine x_getvN X dJx35411_hasNext_aae02_8 f_Jx35411_28 hatL (v := .int (nI (n a))) rfl ?_
  by_cases hc : c9 = nI (n a)
  · rw [if_pos hc]
    refine lv_icmp_eq (tgt := 18) hx hb dJx35411_hasNext_aae02_11 (by decide) (fun _ => ?_) (fun hc0 => absurd hc hc0)
    refine lv_iconst (v := 0) hx hb dJx35411_hasNext_aae02_18 (by decide) ?_
    exact e_z X hr rfl dJx35411_hasNext_aae02_19 hS () rfl trivial rfl ⟨Nat.le_of_ble_eq_true rfl, Nat.le_of_ble_eq_true rfl⟩
  · rw [if_neg hc]
    refine lv_icmp_eq (tgt := 18) hx hb dJx35411_hasNext_aae02_11 (by decide) (fun hc0 => absurd hc0 hc) (fun _ => ?_)
    refine lv_iconst (v := 1) hx hb dJx35411_hasNext_aae02_14 (by decide) ?_
    refine lv_goto (tgt := 19) hx hb dJx35411_hasNext_aae02_15 (by decide) ?_
    exact e_z X hr rfl dJx35411_hasNext_aae02_19 hS () rfl trivial rfl ⟨Nat.le_of_ble_eq_true rfl, Nat.le_of_ble_eq_true rfl⟩
abbrev rm_cfc  : Room := { frames := 0, cells := 0, slots := 0, locals := 0 }
set_option maxHeartbeats 4000000 in
theorem c_cfc (l : Launch) (D : va_G) (tc : Nat → ClassId) (h0 : Nat) (sa : Nat → Nat) {e0 : Nat} {A : Nat → Prop} {t n : Nat → Nat} {r : Nat → Nat → Nat} {w : Dt} (H0 : Heap) (q a : Nat) (hB : SB D tc e0 A t n r w H0) (hk : isL (t a) = true) {c9 m9 : Int32} (hI : IT D q a c9 m9 H0) (hm : w a 0 = m9) : MB (S := Unit) l yJx35411_checkForComodification_da8c8 cJx35411_checkForComodification_da8c8 1 (Option.none : Option FieldType) (rm_cfc ) (fun _ : Nat => False) [.ref q] D tc h0 sa H0 (fun _ => True) (fun _ (H1 : Heap) => H1 = H0) (fun _ => none) := by
  refine MB.ofF RJx35411 [(0, .ref q)] (by decide +kernel) rfl (Nat.le_of_ble_eq_true rfl) rfl ?_
  intro p e s m below meth c ls X hr hin hT hH hS hl
  subst hH
  have hx := X.1
  have hb := X.2.1
  have hown := X.2.2.2.1
  have hU := X.2.2.2.2.1.1
  have hA0 : ∀ q : Nat, (fun _ : Nat => False) q → h0 ≤ q := fun _ h => h.elim
  obtain ⟨lr, hat⟩ := hI
  obtain ⟨E, cap, hO⟩ := hB
  have hatL := (hO.1 a _ (isL_cel hk)).1
  have hlt := hO.2.1 a hk
  refine lv_aload_n hx hb dJx35411_checkForComodification_da8c8_0 rfl (lv_at hl 0 rfl) ?_
  refine x_getv X dJx35411_checkForComodification_da8c8_1 f_Jx35411_1 hat (v := .ref a) rfl ?_
  refine x_getv X dJx35411_checkForComodification_da8c8_4 f_Jx35411_17 hatL (v := .int (w a 0)) rfl ?_
  refine lv_aload_n hx hb dJx35411_checkForComodification_da8c8_7 rfl (lv_at hl 0 rfl) ?_
  refine x_getv X dJx35411_checkForComodification_da8c8_8 f_Jx35411_22 hat (v := .int m9) rfl ?_
  refine lv_icmp_eq (tgt := 22) hx hb dJx35411_checkForComodification_da8c8_11 (by decide) (fun _ => ?_) (fun hc0 => absurd hm hc0)
  exact e_v X hr dJx35411_checkForComodification_da8c8_22 hS () rfl trivial rfl ⟨Nat.le_of_ble_eq_true rfl, Nat.le_of_ble_eq_true rfl⟩
abbrev rm_nx  : Room := { frames := 1, cells := 0, slots := 0, locals := 20 }
set_option maxHeartbeats 4000000 in
theorem c_nx (l : Launch) (D : va_G) (tc : Nat → ClassId) (h0 : Nat) (sa : Nat → Nat) {e0 : Nat} {A : Nat → Prop} {t n : Nat → Nat} {r : Nat → Nat → Nat} {w : Dt} (H0 : Heap) (q a : Nat) (hB : SB D tc e0 A t n r w H0) (hk : isL (t a) = true) {c9 m9 : Int32} (hI : IT D q a c9 m9 H0) (hm : w a 0 = m9) (hix : vp_in c9 (n a)) (hqA : ¬ A q) (ha0 : h0 ≤ q) : MB (S := Unit) l yJx35411_next_0502b cJx35411_next_0502b 3 (Option.some (FieldType.object "java/lang/Object")) (rm_nx ) (fun x : Nat => x = q) [.ref q] D tc h0 sa H0 (fun _ => True) (fun _ H1 => IT D q a (c9 + 1) m9 H1) (fun _ => some (.ref (r a c9.toNatClampNeg))) := by
  refine MB.ofF RJx35411 [(0, .ref q)] (by decide +kernel) rfl (Nat.le_of_ble_eq_true rfl) rfl ?_
  intro p e s m below meth c ls X hr hin hT hH hS hl
  subst hH
  have hx := X.1
  have hb := X.2.1
  have hown := X.2.2.2.1
  have hU := X.2.2.2.2.1.1
  have hA0 : ∀ x : Nat, x = q → h0 ≤ x := fun x h => h ▸ ha0
  have hB0 := hB
  have hI0 := hI
  obtain ⟨lr, hat⟩ := hI
  obtain ⟨E, cap, hO⟩ := hB
  have hatL := (hO.1 a _ (isL_cel hk)).1
  have hlt := hO.2.1 a hk
  have haq : a ≠ q := fun e => hqA (e ▸ (hO.1 a _ (isL_cel hk)).2)
  have hn := in_lt hix (Nat.le_trans hlt.1 hlt.2.1)
  have hcp : 0 < cap a := by omega
  have hrw := (hlt.2.2.2 hcp).1
  have hbq : E a ≠ q := fun e => hqA (e ▸ (hlt.2.2.2 hcp).2.1)
  have hic : vp_in c9 (cap a) := fun q => hix (q.imp id (fun q => Nat.le_trans hlt.1 q))
  have hcc := in_lt hic hlt.2.1
  refine lv_aload_n hx hb dJx35411_next_0502b_0 rfl (lv_at hl 0 rfl) ?_
  refine g_after (st0 := [.ref q]) (rest := []) (g_V X m_Jx35411_31 (c_cfc l D tc h0 sa s.heap q a hB0 hk hI0 hm) (recv1 X.2.2.2.2.1 rfl hat) hT hS hA0 dJx35411_next_0502b_1 hl.1 rfl rfl ⟨Nat.le_of_ble_eq_true rfl, Nat.le_of_ble_eq_true rfl⟩ (Nat.le_of_ble_eq_true rfl) ⟨Nat.le_of_ble_eq_true rfl, Nat.le_of_ble_eq_true rfl⟩) hS (fun _ h => h.elim) (fun u => []) (fun _ => rfl) (fun u H9 locs hw hP9 hz9 hk9 hS => ?_)
  have e9 : H9 = _ := hP9
  rw [e9] at hS ⊢
  refine lv_aload_n hx hb dJx35411_next_0502b_4 rfl (lv_at hl 0 rfl) ?_
  refine x_getv X dJx35411_next_0502b_5 f_Jx35411_25 hat (v := .int c9) rfl ?_
  refine lv_istore_n (lv' := [(1, .int c9), (0, .ref q)]) hx hb dJx35411_next_0502b_8 rfl hl (by decide) rfl (fun ls hl => ?_)
  refine lv_iload_n hx hb dJx35411_next_0502b_9 rfl (lv_at hl 0 rfl) ?_
  refine lv_aload_n hx hb dJx35411_next_0502b_10 rfl (lv_at hl 1 rfl) ?_
  refine x_getv X dJx35411_next_0502b_11 f_Jx35411_1 hat (v := .ref a) rfl ?_
  refine x_getvN X dJx35411_next_0502b_14 f_Jx35411_28 hatL (v := .int (nI (n a))) rfl ?_
  refine lv_icmp_lt (tgt := 28) hx hb dJx35411_next_0502b_17 (by decide) (fun _ => ?_) (fun hc0 => absurd hn.2.1 hc0)
  refine lv_aload_n hx hb dJx35411_next_0502b_28 rfl (lv_at hl 1 rfl) ?_
  refine x_getv X dJx35411_next_0502b_29 f_Jx35411_1 hat (v := .ref a) rfl ?_
  refine x_getv X dJx35411_next_0502b_32 f_Jx35411_37 hatL (v := .ref (E a)) rfl ?_
  refine lv_astore_n (lv' := [(2, .ref (E a)), (1, .int c9), (0, .ref q)]) hx hb dJx35411_next_0502b_35 rfl hl (by decide) rfl (fun ls hl => ?_)
  refine lv_iload_n hx hb dJx35411_next_0502b_36 rfl (lv_at hl 1 rfl) ?_
  refine lv_aload_n hx hb dJx35411_next_0502b_37 rfl (lv_at hl 0 rfl) ?_
  refine x_len X dJx35411_next_0502b_38 hrw ?_
  refine lv_icmp_lt (tgt := 50) hx hb dJx35411_next_0502b_39 (by decide) (fun _ => ?_) (fun hc0 => absurd hcc.2.1 hc0)
  refine lv_aload_n hx hb dJx35411_next_0502b_50 rfl (lv_at hl 2 rfl) ?_
  refine lv_iload_n hx hb dJx35411_next_0502b_51 rfl (lv_at hl 1 rfl) ?_
  refine lv_iconst (v := 1) hx hb dJx35411_next_0502b_52 (by decide) ?_
  refine lv_iadd hx hb dJx35411_next_0502b_53 ?_
  refine x_putv (A := fun x : Nat => x = q) X dJx35411_next_0502b_54 f_Jx35411_25 hat rfl hS (Nat.le_of_ble_eq_true rfl) rfl rfl (fun H locs hat oq hz hS => ?_)
  have hrw := hrw.kept (oq (E a) hbq)
  refine lv_aload_n hx hb dJx35411_next_0502b_57 rfl (lv_at hl 0 rfl) ?_
  refine lv_aload_n hx hb dJx35411_next_0502b_58 rfl (lv_at hl 2 rfl) ?_
  refine lv_iload_n hx hb dJx35411_next_0502b_59 rfl (lv_at hl 1 rfl) ?_
  refine lv_dup_x1 hx hb dJx35411_next_0502b_60 rfl rfl ?_
  refine x_putv (A := fun x : Nat => x = q) X dJx35411_next_0502b_61 f_Jx35411_13 hat rfl hS (Nat.le_of_ble_eq_true rfl) rfl rfl (fun H locs hat oq hz hS => ?_)
  have hrw := hrw.kept (oq (E a) hbq)
  refine x_ald X dJx35411_next_0502b_64 hrw hic (row_at hn.2.2) ?_
  exact e_a X hr (Or.inl ⟨_, rfl⟩) (Or.inr ⟨_, rfl⟩) dJx35411_next_0502b_65 hS () rfl trivial ⟨_, hat⟩ ⟨Nat.le_of_ble_eq_true rfl, Nat.le_of_ble_eq_true rfl⟩
abbrev rm_nl  : Room := { frames := 1, cells := 0, slots := 0, locals := 21 }
set_option maxHeartbeats 4000000 in
theorem c_nl (l : Launch) (D : va_G) (tc : Nat → ClassId) (h0 : Nat) (sa : Nat → Nat) (H0 : Heap) {o9 g9 p9 : Int32} (h1 : ¬ (o9 + (if g9 < p9 then p9 else g9)) ≤ 0) (h2 : ¬ 2147483639 < (o9 + (if g9 < p9 then p9 else g9))) : MB (S := Unit) l yJ8_newLength_cabcc cJ8_newLength_cabcc 4 (Option.some FieldType.int) (rm_nl ) (fun _ : Nat => False) [.int o9, .int g9, .int p9] D tc h0 sa H0 (fun _ => True) (fun _ (H1 : Heap) => H1 = H0) (fun _ => some (.int (o9 + (if g9 < p9 then p9 else g9)))) := by
  refine MB.ofF RJ8 [(0, .int o9), (1, .int g9), (2, .int p9)] (by decide +kernel) rfl (Nat.le_of_ble_eq_true rfl) rfl ?_
  intro p e s m below meth c ls X hr hin hT hH hS hl
  subst hH
  have hx := X.1
  have hb := X.2.1
  have hown := X.2.2.2.1
  have hU := X.2.2.2.2.1.1
  have hA0 : ∀ q : Nat, (fun _ : Nat => False) q → h0 ≤ q := fun _ h => h.elim
  refine lv_iload_n hx hb dJ8_newLength_cabcc_0 rfl (lv_at hl 0 rfl) ?_
  refine lv_iload_n hx hb dJ8_newLength_cabcc_1 rfl (lv_at hl 1 rfl) ?_
  refine lv_iload_n hx hb dJ8_newLength_cabcc_2 rfl (lv_at hl 2 rfl) ?_
  refine g_max X hl.1 dJ8_newLength_cabcc_3 w_1502 w_604 w_21 w_605 ⟨Nat.le_of_ble_eq_true rfl, Nat.le_of_ble_eq_true rfl, Nat.le_of_ble_eq_true rfl, Nat.le_of_ble_eq_true rfl⟩ ?_
  refine lv_iadd hx hb dJ8_newLength_cabcc_6 ?_
  refine lv_istore_n (lv' := [(3, .int (o9 + (if g9 < p9 then p9 else g9))), (0, .int o9), (1, .int g9), (2, .int p9)]) hx hb dJ8_newLength_cabcc_7 rfl hl (by decide) rfl (fun ls hl => ?_)
  refine lv_iconst (v := 0) hx hb dJ8_newLength_cabcc_8 (by decide) ?_
  refine lv_iload_n hx hb dJ8_newLength_cabcc_9 rfl (lv_at hl 0 rfl) ?_
  refine lv_icmp_ge (tgt := 21) hx hb dJ8_newLength_cabcc_10 (by decide) (fun hc0 => absurd hc0 h1) (fun _ => ?_)
  refine lv_iload_n hx hb dJ8_newLength_cabcc_13 rfl (lv_at hl 0 rfl) ?_
  refine lv_ldc (v := 2147483639) hx hb hown (hU.use w_1503) dJ8_newLength_cabcc_14 ?_
  refine lv_icmp_gt (tgt := 21) hx hb dJ8_newLength_cabcc_16 (by decide) (fun hc0 => absurd hc0 h2) (fun _ => ?_)
  refine lv_iload_n hx hb dJ8_newLength_cabcc_19 rfl (lv_at hl 0 rfl) ?_
  exact e_i X hr dJ8_newLength_cabcc_20 hS () rfl trivial rfl ⟨Nat.le_of_ble_eq_true rfl, Nat.le_of_ble_eq_true rfl⟩
