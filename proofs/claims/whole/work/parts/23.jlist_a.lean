/-! THE JDK's lists: contracts, first half -/
theorem f_Jxc12de_7 : FK RJxc12de 7 3 0 .int false := fk_of ck3 (by decide) w_1179 rfl rfl
abbrev rm_AC  : Room := { frames := 1, cells := 0, slots := 0, locals := 20 }
set_option maxHeartbeats 4000000 in
theorem c_AC (l : Launch) (D : va_G) (tc : Nat → ClassId) (h0 : Nat) (sa : Nat → Nat) (H0 : Heap) (a : Nat) : MB (S := Unit) l yJxa1e45_init_da8c8 cJxa1e45_init_da8c8 1 (Option.none : Option FieldType) (rm_AC ) (fun _ : Nat => False) [.ref a] D tc h0 sa H0 (fun _ => True) (fun _ (H1 : Heap) => H1 = H0) (fun _ => none) := by
  refine MB.ofF RJxa1e45 [(0, .ref a)] (by decide +kernel) rfl (Nat.le_of_ble_eq_true rfl) rfl ?_
  intro p e s m below meth c ls X hr hin hT hH hS hl
  subst hH
  have hx := X.1
  have hb := X.2.1
  have hown := X.2.2.2.1
  have hU := X.2.2.2.2.1.1
  have hA0 : ∀ q : Nat, (fun _ : Nat => False) q → h0 ≤ q := fun _ h => h.elim
  refine lv_aload_n hx hb dJxa1e45_init_da8c8_0 rfl (lv_at hl 0 rfl) ?_
  refine W.objInit hx hb hown (hU.use mo_Jxa1e45_1.1) (hU.use mo_Jxa1e45_1.2.1) (hU.use mo_Jxa1e45_1.2.2) rfl (hl.1.trans X.2.2.1.symm) rfl dJxa1e45_init_da8c8_1 (Nat.le_of_ble_eq_true rfl) (Nat.le_of_ble_eq_true rfl) ?_
  refine W.eq (g2 := F0 m 4 ls []) rfl ?_
  exact e_v X hr dJxa1e45_init_da8c8_4 hS () rfl trivial rfl ⟨Nat.le_of_ble_eq_true rfl, Nat.le_of_ble_eq_true rfl⟩
abbrev rm_ALi  : Room := { frames := 2, cells := 0, slots := 0, locals := 40 }
set_option maxHeartbeats 4000000 in
theorem c_ALi (l : Launch) (D : va_G) (tc : Nat → ClassId) (h0 : Nat) (sa : Nat → Nat) (H0 : Heap) (a : Nat) {v0 v1 v2 : Value} (hat : va_at D vwCl (a, .inr (3, [v0, v1, v2])) H0) (ha0 : h0 ≤ a) : MB (S := Unit) l yJxc12de_init_da8c8 cJxc12de_init_da8c8 1 (Option.none : Option FieldType) (rm_ALi ) (fun x : Nat => x = a) [.ref a] D tc h0 sa H0 (fun _ => True) (fun _ H1 => va_at D vwCl (a, .inr (3, [.int 0, v1, v2])) H1) (fun _ => none) := by
  refine MB.ofF RJxc12de [(0, .ref a)] (by decide +kernel) rfl (Nat.le_of_ble_eq_true rfl) rfl ?_
  intro p e s m below meth c ls X hr hin hT hH hS hl
  subst hH
  have hx := X.1
  have hb := X.2.1
  have hown := X.2.2.2.1
  have hU := X.2.2.2.2.1.1
  have hA0 : ∀ q : Nat, q = a → h0 ≤ q := fun q h => h ▸ ha0
  refine lv_aload_n hx hb dJxc12de_init_da8c8_0 rfl (lv_at hl 0 rfl) ?_
  refine g_after (st0 := [.ref a]) (rest := []) (g_I X m_Jxc12de_1 (c_AC l D tc h0 sa s.heap a) hT hS hA0 dJxc12de_init_da8c8_1 hl.1 rfl rfl ⟨Nat.le_of_ble_eq_true rfl, Nat.le_of_ble_eq_true rfl⟩ (Nat.le_of_ble_eq_true rfl) ⟨Nat.le_of_ble_eq_true rfl, Nat.le_of_ble_eq_true rfl⟩) hS (fun _ h => h.elim) (fun u => []) (fun _ => rfl) (fun u H9 locs hw hP9 hz9 hk9 hS => ?_)
  have e9 : H9 = _ := hP9
  rw [e9] at hS ⊢
  refine lv_aload_n hx hb dJxc12de_init_da8c8_4 rfl (lv_at hl 0 rfl) ?_
  refine lv_iconst (v := 0) hx hb dJxc12de_init_da8c8_5 (by decide) ?_
  refine x_putv (A := fun x : Nat => x = a) X dJxc12de_init_da8c8_6 f_Jxc12de_7 hat rfl hS (Nat.le_of_ble_eq_true rfl) rfl rfl (fun H locs hat oq hz hS => ?_)
  exact e_v X hr dJxc12de_init_da8c8_9 hS () rfl trivial hat ⟨Nat.le_of_ble_eq_true rfl, Nat.le_of_ble_eq_true rfl⟩
abbrev rm_Lin  : Room := { frames := 3, cells := 0, slots := 0, locals := 60 }
set_option maxHeartbeats 4000000 in
theorem c_Lin (l : Launch) (D : va_G) (tc : Nat → ClassId) (h0 : Nat) (sa : Nat → Nat) (H0 : Heap) (a : Nat) {v0 v1 v2 : Value} (hat : va_at D vwCl (a, .inr (3, [v0, v1, v2])) H0) (ha0 : h0 ≤ a) : MB (S := Unit) l yJx4a65c_init_da8c8 cJx4a65c_init_da8c8 1 (Option.none : Option FieldType) (rm_Lin ) (fun x : Nat => x = a) [.ref a] D tc h0 sa H0 (fun _ => True) (fun _ H1 => va_at D vwCl (a, .inr (3, [.int 0, .ref (sa 3), v2])) H1) (fun _ => none) := by
  refine MB.ofF RJx4a65c [(0, .ref a)] (by decide +kernel) rfl (Nat.le_of_ble_eq_true rfl) rfl ?_
  intro p e s m below meth c ls X hr hin hT hH hS hl
  subst hH
  have hx := X.1
  have hb := X.2.1
  have hown := X.2.2.2.1
  have hU := X.2.2.2.2.1.1
  have hA0 : ∀ q : Nat, q = a → h0 ≤ q := fun q h => h ▸ ha0
  refine lv_aload_n hx hb dJx4a65c_init_da8c8_0 rfl (lv_at hl 0 rfl) ?_
  refine g_after (st0 := [.ref a]) (rest := []) (g_I X m_Jx4a65c_1 (c_ALi l D tc h0 sa s.heap a hat ha0) hT hS hA0 dJx4a65c_init_da8c8_1 hl.1 rfl rfl ⟨Nat.le_of_ble_eq_true rfl, Nat.le_of_ble_eq_true rfl⟩ (Nat.le_of_ble_eq_true rfl) ⟨Nat.le_of_ble_eq_true rfl, Nat.le_of_ble_eq_true rfl⟩) hS (fun _ h => h) (fun u => []) (fun _ => rfl) (fun u H9 locs hw hP9 hz9 hk9 hS => ?_)
  have hat : va_at D vwCl (a, .inr (3, [.int 0, v1, v2])) H9 := hP9
  refine lv_aload_n hx hb dJx4a65c_init_da8c8_4 rfl (lv_at hl 0 rfl) ?_
  refine g_gets X dJx4a65c_init_da8c8_5 w_1173 hT.2.2.2.2.2.2.2.2.1 hS hA0 ?_
  refine x_putv (A := fun x : Nat => x = a) X dJx4a65c_init_da8c8_8 f_Jx4a65c_9 hat rfl hS (Nat.le_of_ble_eq_true rfl) rfl rfl (fun H locs hat oq hz hS => ?_)
  exact e_v X hr dJx4a65c_init_da8c8_11 hS () rfl trivial hat ⟨Nat.le_of_ble_eq_true rfl, Nat.le_of_ble_eq_true rfl⟩
abbrev rm_size  : Room := { frames := 0, cells := 0, slots := 0, locals := 0 }
set_option maxHeartbeats 4000000 in
theorem c_size (l : Launch) (D : va_G) (tc : Nat → ClassId) (h0 : Nat) (sa : Nat → Nat) {e0 : Nat} {A : Nat → Prop} {t n : Nat → Nat} {r : Nat → Nat → Nat} {w : Dt} (H0 : Heap) (a : Nat) (hB : SB D tc e0 A t n r w H0) (hk : isL (t a) = true) : MB (S := Unit) l yJx4a65c_size_8abf5 cJx4a65c_size_8abf5 1 (Option.some FieldType.int) (rm_size ) (fun _ : Nat => False) [.ref a] D tc h0 sa H0 (fun _ => True) (fun _ (H1 : Heap) => H1 = H0) (fun _ => some (.int (nI (n a)))) := by
  refine MB.ofF RJx4a65c [(0, .ref a)] (by decide +kernel) rfl (Nat.le_of_ble_eq_true rfl) rfl ?_
  intro p e s m below meth c ls X hr hin hT hH hS hl
  subst hH
  have hx := X.1
  have hb := X.2.1
  have hown := X.2.2.2.1
  have hU := X.2.2.2.2.1.1
  have hA0 : ∀ q : Nat, (fun _ : Nat => False) q → h0 ≤ q := fun _ h => h.elim
  obtain ⟨E, cap, hO⟩ := hB
  have hat := (hO.1 a _ (isL_cel hk)).1
  have hlt := hO.2.1 a hk
  refine lv_aload_n hx hb dJx4a65c_size_8abf5_0 rfl (lv_at hl 0 rfl) ?_
  refine x_getv X dJx4a65c_size_8abf5_1 f_Jx4a65c_48 hat (v := .int (nI (n a))) rfl ?_
  exact e_i X hr dJx4a65c_size_8abf5_4 hS () rfl trivial rfl ⟨Nat.le_of_ble_eq_true rfl, Nat.le_of_ble_eq_true rfl⟩
theorem nIz_ne {n : Nat} (h : ¬ n = 0) (hb : n ≤ 1000) : ¬ nI n = 0 := fun z => h (by
  have := congrArg Int32.toInt z
  rw [nI_toInt (by omega)] at this
  have h2 : (n : Int) = 0 := this
  omega)
abbrev rm_emp  : Room := { frames := 0, cells := 0, slots := 0, locals := 0 }
set_option maxHeartbeats 4000000 in
theorem c_emp (l : Launch) (D : va_G) (tc : Nat → ClassId) (h0 : Nat) (sa : Nat → Nat) {e0 : Nat} {A : Nat → Prop} {t n : Nat → Nat} {r : Nat → Nat → Nat} {w : Dt} (H0 : Heap) (a : Nat) (hB : SB D tc e0 A t n r w H0) (hk : isL (t a) = true) : MB (S := Unit) l yJx4a65c_isEmpty_aae02 cJx4a65c_isEmpty_aae02 1 (Option.some FieldType.boolean) (rm_emp ) (fun _ : Nat => False) [.ref a] D tc h0 sa H0 (fun _ => True) (fun _ (H1 : Heap) => H1 = H0) (fun _ => some (.int (if n a = 0 then 1 else 0))) := by
  refine MB.ofF RJx4a65c [(0, .ref a)] (by decide +kernel) rfl (Nat.le_of_ble_eq_true rfl) rfl ?_
  intro p e s m below meth c ls X hr hin hT hH hS hl
  subst hH
  have hx := X.1
  have hb := X.2.1
  have hown := X.2.2.2.1
  have hU := X.2.2.2.2.1.1
  have hA0 : ∀ q : Nat, (fun _ : Nat => False) q → h0 ≤ q := fun _ h => h.elim
  obtain ⟨E, cap, hO⟩ := hB
  have hat := (hO.1 a _ (isL_cel hk)).1
  have hlt := hO.2.1 a hk
  refine lv_aload_n hx hb dJx4a65c_isEmpty_aae02_0 rfl (lv_at hl 0 rfl) ?_
  refine x_getv X dJx4a65c_isEmpty_aae02_1 f_Jx4a65c_48 hat (v := .int (nI (n a))) rfl ?_
  by_cases hn0 : n a = 0
  · have hnI : nI (n a) = 0 := by rw [hn0]; rfl
    rw [if_pos hn0]
    refine lv_if_ne (tgt := 11) hx hb dJx4a65c_isEmpty_aae02_4 (by decide) (fun hc0 => absurd hnI hc0) (fun _ => ?_)
    refine lv_iconst (v := 1) hx hb dJx4a65c_isEmpty_aae02_7 (by decide) ?_
    refine lv_goto (tgt := 12) hx hb dJx4a65c_isEmpty_aae02_8 (by decide) ?_
    exact e_z X hr rfl dJx4a65c_isEmpty_aae02_12 hS () rfl trivial rfl ⟨Nat.le_of_ble_eq_true rfl, Nat.le_of_ble_eq_true rfl⟩
  · have hnI : ¬ nI (n a) = 0 := nIz_ne hn0 (Nat.le_trans hlt.1 hlt.2.1)
    rw [if_neg hn0]
    refine lv_if_ne (tgt := 11) hx hb dJx4a65c_isEmpty_aae02_4 (by decide) (fun _ => ?_) (fun hc0 => absurd hc0 hnI)
    refine lv_iconst (v := 0) hx hb dJx4a65c_isEmpty_aae02_11 (by decide) ?_
    exact e_z X hr rfl dJx4a65c_isEmpty_aae02_12 hS () rfl trivial rfl ⟨Nat.le_of_ble_eq_true rfl, Nat.le_of_ble_eq_true rfl⟩
abbrev rm_pci  : Room := { frames := 0, cells := 0, slots := 0, locals := 0 }
set_option maxHeartbeats 4000000 in
theorem c_pci (l : Launch) (D : va_G) (tc : Nat → ClassId) (h0 : Nat) (sa : Nat → Nat) (H0 : Heap) {i k : Int32} (h1 : ¬ i < 0) (h2 : i < k) : MB (S := Unit) l yJ3_checkIndex_8e157 cJ3_checkIndex_8e157 3 (Option.some FieldType.int) (rm_pci ) (fun _ : Nat => False) [.int i, .int k, .null] D tc h0 sa H0 (fun _ => True) (fun _ (H1 : Heap) => H1 = H0) (fun _ => some (.int i)) := by
  refine MB.ofF RJ3 [(0, .int i), (1, .int k), (2, .null)] (by decide +kernel) rfl (Nat.le_of_ble_eq_true rfl) rfl ?_
  intro p e s m below meth c ls X hr hin hT hH hS hl
  subst hH
  have hx := X.1
  have hb := X.2.1
  have hown := X.2.2.2.1
  have hU := X.2.2.2.2.1.1
  have hA0 : ∀ q : Nat, (fun _ : Nat => False) q → h0 ≤ q := fun _ h => h.elim
  refine lv_iload_n hx hb dJ3_checkIndex_8e157_0 rfl (lv_at hl 0 rfl) ?_
  refine lv_if_lt (tgt := 9) hx hb dJ3_checkIndex_8e157_1 (by decide) (fun hc0 => absurd hc0 h1) (fun _ => ?_)
  refine lv_iload_n hx hb dJ3_checkIndex_8e157_4 rfl (lv_at hl 0 rfl) ?_
  refine lv_iload_n hx hb dJ3_checkIndex_8e157_5 rfl (lv_at hl 1 rfl) ?_
  refine lv_icmp_lt (tgt := 16) hx hb dJ3_checkIndex_8e157_6 (by decide) (fun _ => ?_) (fun hc0 => absurd h2 hc0)
  refine lv_iload_n hx hb dJ3_checkIndex_8e157_16 rfl (lv_at hl 0 rfl) ?_
  exact e_i X hr dJ3_checkIndex_8e157_17 hS () rfl trivial rfl ⟨Nat.le_of_ble_eq_true rfl, Nat.le_of_ble_eq_true rfl⟩
abbrev rm_oci  : Room := { frames := 1, cells := 0, slots := 0, locals := 22 }
set_option maxHeartbeats 4000000 in
theorem c_oci (l : Launch) (D : va_G) (tc : Nat → ClassId) (h0 : Nat) (sa : Nat → Nat) (H0 : Heap) {i k : Int32} (h1 : ¬ i < 0) (h2 : i < k) : MB (S := Unit) l yJ15_checkIndex_7cf53 cJ15_checkIndex_7cf53 2 (Option.some FieldType.int) (rm_oci ) (fun _ : Nat => False) [.int i, .int k] D tc h0 sa H0 (fun _ => True) (fun _ (H1 : Heap) => H1 = H0) (fun _ => some (.int i)) := by
  refine MB.ofF RJ15 [(0, .int i), (1, .int k)] (by decide +kernel) rfl (Nat.le_of_ble_eq_true rfl) rfl ?_
  intro p e s m below meth c ls X hr hin hT hH hS hl
  subst hH
  have hx := X.1
  have hb := X.2.1
  have hown := X.2.2.2.1
  have hU := X.2.2.2.2.1.1
  have hA0 : ∀ q : Nat, (fun _ : Nat => False) q → h0 ≤ q := fun _ h => h.elim
  refine lv_iload_n hx hb dJ15_checkIndex_7cf53_0 rfl (lv_at hl 0 rfl) ?_
  refine lv_iload_n hx hb dJ15_checkIndex_7cf53_1 rfl (lv_at hl 1 rfl) ?_
  refine lv_null hx hb dJ15_checkIndex_7cf53_2 ?_
  refine g_after (st0 := [.null, .int k, .int i]) (rest := []) (g_S X m_J15_105 (c_pci l D tc h0 sa s.heap h1 h2) hT hS hA0 dJ15_checkIndex_7cf53_3 hl.1 rfl rfl ⟨Nat.le_of_ble_eq_true rfl, Nat.le_of_ble_eq_true rfl⟩ (Nat.le_of_ble_eq_true rfl) ⟨Nat.le_of_ble_eq_true rfl, Nat.le_of_ble_eq_true rfl⟩) hS (fun _ h => h.elim) (fun u => .int i :: []) (fun _ => rfl) (fun u H9 locs hw hP9 hz9 hk9 hS => ?_)
  have e9 : H9 = _ := hP9
  rw [e9] at hS ⊢
  exact e_i X hr dJ15_checkIndex_7cf53_6 hS () rfl trivial rfl ⟨Nat.le_of_ble_eq_true rfl, Nat.le_of_ble_eq_true rfl⟩
theorem in_lt {x : Int32} {n : Nat} (h : vp_in x n) (hb : n ≤ 1000) : ¬ x < 0 ∧ x < nI n ∧ x.toNatClampNeg < n := by
  have h1 : ¬ x < 0 := fun q => h (Or.inl q)
  have h2 : x.toNatClampNeg < n := Nat.not_le.mp fun q => h (Or.inr q)
  refine ⟨h1, ?_, h2⟩
  rw [Int32.lt_iff_toInt_lt, nI_toInt (by omega), cl_nn h1]
  omega
theorem row_at {r : Nat → Nat} {n k : Nat} (h : k < n) : va_rf (if k < n then some (r k) else none) = .ref (r k) := by rw [if_pos h]; rfl
abbrev rm_eld  : Room := { frames := 0, cells := 0, slots := 0, locals := 0 }
set_option maxHeartbeats 4000000 in
theorem c_eld (l : Launch) (D : va_G) (tc : Nat → ClassId) (h0 : Nat) (sa : Nat → Nat) {e0 : Nat} {A : Nat → Prop} {t n : Nat → Nat} {r : Nat → Nat → Nat} {w : Dt} (H0 : Heap) (a : Nat) (hB : SB D tc e0 A t n r w H0) (hk : isL (t a) = true) {x : Int32} (hix : vp_in x (n a)) : MB (S := Unit) l yJx4a65c_elementData_915e3 cJx4a65c_elementData_915e3 2 (Option.some (FieldType.object "java/lang/Object")) (rm_eld ) (fun _ : Nat => False) [.ref a, .int x] D tc h0 sa H0 (fun _ => True) (fun _ (H1 : Heap) => H1 = H0) (fun _ => some (.ref (r a x.toNatClampNeg))) := by
  refine MB.ofF RJx4a65c [(0, .ref a), (1, .int x)] (by decide +kernel) rfl (Nat.le_of_ble_eq_true rfl) rfl ?_
  intro p e s m below meth c ls X hr hin hT hH hS hl
  subst hH
  have hx := X.1
  have hb := X.2.1
  have hown := X.2.2.2.1
  have hU := X.2.2.2.2.1.1
  have hA0 : ∀ q : Nat, (fun _ : Nat => False) q → h0 ≤ q := fun _ h => h.elim
  obtain ⟨E, cap, hO⟩ := hB
  have hat := (hO.1 a _ (isL_cel hk)).1
  have hlt := hO.2.1 a hk
  have hn := in_lt hix (Nat.le_trans hlt.1 hlt.2.1)
  have hcp : 0 < cap a := by omega
  have hrw := (hlt.2.2.2 hcp).1
  have hic : vp_in x (cap a) := fun q => hix (q.imp id (fun q => Nat.le_trans hlt.1 q))
  refine lv_aload_n hx hb dJx4a65c_elementData_915e3_0 rfl (lv_at hl 0 rfl) ?_
  refine x_getv X dJx4a65c_elementData_915e3_1 f_Jx4a65c_9 hat (v := .ref (E a)) rfl ?_
  refine lv_iload_n hx hb dJx4a65c_elementData_915e3_4 rfl (lv_at hl 1 rfl) ?_
  refine x_ald X dJx4a65c_elementData_915e3_5 hrw hic (row_at hn.2.2) ?_
  exact e_a X hr (Or.inl ⟨_, rfl⟩) (Or.inr ⟨_, rfl⟩) dJx4a65c_elementData_915e3_6 hS () rfl trivial rfl ⟨Nat.le_of_ble_eq_true rfl, Nat.le_of_ble_eq_true rfl⟩
abbrev rm_get  : Room := { frames := 2, cells := 0, slots := 0, locals := 43 }
set_option maxHeartbeats 4000000 in
theorem c_get (l : Launch) (D : va_G) (tc : Nat → ClassId) (h0 : Nat) (sa : Nat → Nat) {e0 : Nat} {A : Nat → Prop} {t n : Nat → Nat} {r : Nat → Nat → Nat} {w : Dt} (H0 : Heap) (a : Nat) (hB : SB D tc e0 A t n r w H0) (hk : isL (t a) = true) {x : Int32} (hix : vp_in x (n a)) : MB (S := Unit) l yJx4a65c_get_915e3 cJx4a65c_get_915e3 2 (Option.some (FieldType.object "java/lang/Object")) (rm_get ) (fun _ : Nat => False) [.ref a, .int x] D tc h0 sa H0 (fun _ => True) (fun _ (H1 : Heap) => H1 = H0) (fun _ => some (.ref (r a x.toNatClampNeg))) := by
  refine MB.ofF RJx4a65c [(0, .ref a), (1, .int x)] (by decide +kernel) rfl (Nat.le_of_ble_eq_true rfl) rfl ?_
  intro p e s m below meth c ls X hr hin hT hH hS hl
  subst hH
  have hx := X.1
  have hb := X.2.1
  have hown := X.2.2.2.1
  have hU := X.2.2.2.2.1.1
  have hA0 : ∀ q : Nat, (fun _ : Nat => False) q → h0 ≤ q := fun _ h => h.elim
  have hB0 := hB
  obtain ⟨E, cap, hO⟩ := hB
  have hat := (hO.1 a _ (isL_cel hk)).1
  have hlt := hO.2.1 a hk
  have hn := in_lt hix (Nat.le_trans hlt.1 hlt.2.1)
  have hcp : 0 < cap a := by omega
  have hrw := (hlt.2.2.2 hcp).1
  have hic : vp_in x (cap a) := fun q => hix (q.imp id (fun q => Nat.le_trans hlt.1 q))
  refine lv_iload_n hx hb dJx4a65c_get_915e3_0 rfl (lv_at hl 1 rfl) ?_
  refine lv_aload_n hx hb dJx4a65c_get_915e3_1 rfl (lv_at hl 0 rfl) ?_
  refine x_getv X dJx4a65c_get_915e3_2 f_Jx4a65c_48 hat (v := .int (nI (n a))) rfl ?_
  refine g_after (st0 := [.int (nI (n a)), .int x]) (rest := []) (g_S X m_Jx4a65c_118 (c_oci l D tc h0 sa s.heap hn.1 hn.2.1) hT hS hA0 dJx4a65c_get_915e3_5 hl.1 rfl rfl ⟨Nat.le_of_ble_eq_true rfl, Nat.le_of_ble_eq_true rfl⟩ (Nat.le_of_ble_eq_true rfl) ⟨Nat.le_of_ble_eq_true rfl, Nat.le_of_ble_eq_true rfl⟩) hS (fun _ h => h.elim) (fun u => .int x :: []) (fun _ => rfl) (fun u H9 locs hw hP9 hz9 hk9 hS => ?_)
  have e9 : H9 = _ := hP9
  rw [e9] at hS ⊢
  refine lv_pop hx hb dJx4a65c_get_915e3_8 rfl ?_
  refine lv_aload_n hx hb dJx4a65c_get_915e3_9 rfl (lv_at hl 0 rfl) ?_
  refine lv_iload_n hx hb dJx4a65c_get_915e3_10 rfl (lv_at hl 1 rfl) ?_
  refine g_after (st0 := [.int x, .ref a]) (rest := []) (g_V X m_Jx4a65c_123 (c_eld l D tc h0 sa s.heap a hB0 hk hix) (recv1 X.2.2.2.2.1 rfl hat) hT hS hA0 dJx4a65c_get_915e3_11 hl.1 rfl rfl ⟨Nat.le_of_ble_eq_true rfl, Nat.le_of_ble_eq_true rfl⟩ (Nat.le_of_ble_eq_true rfl) ⟨Nat.le_of_ble_eq_true rfl, Nat.le_of_ble_eq_true rfl⟩) hS (fun _ h => h.elim) (fun u => .ref (r a x.toNatClampNeg) :: []) (fun _ => rfl) (fun u H9 locs hw hP9 hz9 hk9 hS => ?_)
  have e9 : H9 = _ := hP9
  rw [e9] at hS ⊢
  exact e_a X hr (Or.inl ⟨_, rfl⟩) (Or.inr ⟨_, rfl⟩) dJx4a65c_get_915e3_14 hS () rfl trivial rfl ⟨Nat.le_of_ble_eq_true rfl, Nat.le_of_ble_eq_true rfl⟩
