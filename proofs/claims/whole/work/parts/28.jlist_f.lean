/-! THE JDK's lists over the store: remove, toArray, addAll -/
abbrev rm_rem  : Room := { frames := 2, cells := 0, slots := 0, locals := 83 }
set_option maxHeartbeats 4000000 in
theorem c_rem (l : Launch) (D : va_G) (tc : Nat → ClassId) (h0 : Nat) (sa : Nat → Nat) {A : Nat → Prop} {t n : Nat → Nat} {r : Nat → Nat → Nat} {w : Dt} (H0 : Heap) (a : Nat) (hB : SB D tc (sa 3) A t n r w H0) (hk : isL (t a) = true) {x : Int32} (hix : vp_in x (n a)) (hA0 : ∀ x, A x → h0 ≤ x) (hAF : ∀ x, H0.size ≤ x → A x) : MB (S := Unit) l yJx4a65c_remove_915e3 cJx4a65c_remove_915e3 4 (Option.some (FieldType.object "java/lang/Object")) (rm_rem ) A [.ref a, .int x] D tc h0 sa H0 (fun _ => True) (fun _ H1 => SB D tc (sa 3) A t (va_up n a (n a - 1)) (va_up r a (fun j => if j < x.toNatClampNeg then r a j else r a (j + 1))) (up2 w a 0 (w a 0 + 1)) H1) (fun _ => some (.ref (r a x.toNatClampNeg))) := by
  refine MB.ofF RJx4a65c [(0, .ref a), (1, .int x)] (by decide +kernel) rfl (Nat.le_of_ble_eq_true rfl) rfl ?_
  intro p e s m below meth c ls X hr hin hT hH hS hl
  subst hH
  have hx := X.1
  have hb := X.2.1
  have hown := X.2.2.2.1
  have hU := X.2.2.2.2.1.1
  have hB0 := hB
  obtain ⟨E, cap, hO⟩ := hB
  have hat : va_at D vwCl (a, .inr (3, [.int (w a 0), .ref (E a), .int (nI (n a))])) s.heap := (hO.1 a _ (isL_cel hk)).1
  have hAa := (hO.1 a _ (isL_cel hk)).2
  have hlt := hO.2.1 a hk
  have hta : t a ≠ 0 := isL_ne hk
  have hatl := hat.lt
  have hEa : 0 < cap a → E a ≠ a := fun hp e => hta (by have := (hlt.2.2.2 hp).2.2; rwa [e] at this)
  have hel : ∀ j, j < n a → r a j ≠ a := fun j hj e => ek_self hk (by rw [← hO.elt hk hj, e])
  have hn := in_lt hix (Nat.le_trans hlt.1 hlt.2.1)
  have hcp : 0 < cap a := by omega
  have hrw := (hlt.2.2.2 hcp).1
  have hic : vp_in x (cap a) := fun q => hix (q.imp id (fun q => Nat.le_trans hlt.1 q))
  refine lv_iload_n hx hb dJx4a65c_remove_915e3_0 rfl (lv_at hl 1 rfl) ?_
  refine lv_aload_n hx hb dJx4a65c_remove_915e3_1 rfl (lv_at hl 0 rfl) ?_
  refine x_getv X dJx4a65c_remove_915e3_2 f_Jx4a65c_48 hat (v := .int (nI (n a))) rfl ?_
  refine g_after (st0 := [.int (nI (n a)), .int x]) (rest := []) (g_S X m_Jx4a65c_118 (c_oci l D tc h0 sa s.heap hn.1 hn.2.1) hT hS hA0 dJx4a65c_remove_915e3_5 hl.1 rfl rfl ⟨Nat.le_of_ble_eq_true rfl, Nat.le_of_ble_eq_true rfl⟩ (Nat.le_of_ble_eq_true rfl) ⟨Nat.le_of_ble_eq_true rfl, Nat.le_of_ble_eq_true rfl⟩) hS (fun _ h => h.elim) (fun u => .int x :: []) (fun _ => rfl) (fun u H9 locs hw hP9 hz9 hk9 hS => ?_)
  have e9 : H9 = _ := hP9
  rw [e9] at hS ⊢
  refine lv_pop hx hb dJx4a65c_remove_915e3_8 rfl ?_
  refine lv_aload_n hx hb dJx4a65c_remove_915e3_9 rfl (lv_at hl 0 rfl) ?_
  refine x_getv X dJx4a65c_remove_915e3_10 f_Jx4a65c_9 hat (v := .ref (E a)) rfl ?_
  refine lv_astore_n (lv' := [(2, .ref (E a)), (0, .ref a), (1, .int x)]) hx hb dJx4a65c_remove_915e3_13 rfl hl (by decide) rfl (fun ls hl => ?_)
  refine lv_aload_n hx hb dJx4a65c_remove_915e3_14 rfl (lv_at hl 0 rfl) ?_
  refine lv_iload_n hx hb dJx4a65c_remove_915e3_15 rfl (lv_at hl 2 rfl) ?_
  refine x_ald X dJx4a65c_remove_915e3_16 hrw hic (row_at hn.2.2) ?_
  refine lv_astore_n (lv' := [(3, .ref (r a x.toNatClampNeg)), (2, .ref (E a)), (0, .ref a), (1, .int x)]) hx hb dJx4a65c_remove_915e3_17 rfl hl (by decide) rfl (fun ls hl => ?_)
  refine lv_aload_n hx hb dJx4a65c_remove_915e3_18 rfl (lv_at hl 2 rfl) ?_
  refine lv_aload_n hx hb dJx4a65c_remove_915e3_19 rfl (lv_at hl 1 rfl) ?_
  refine lv_iload_n hx hb dJx4a65c_remove_915e3_20 rfl (lv_at hl 3 rfl) ?_
  refine g_after (st0 := [.int x, .ref (E a), .ref a]) (rest := []) (g_V X m_Jx4a65c_144 (c_fr l D tc h0 sa s.heap a (E a) (n a) (cap a) hat hrw (fun e => hEa hcp e.symm) hix hlt.1 hlt.2.1 (fun j hj => hB0.ob hk (hO.elt hk hj)) hel (hA0 _ hAa) (hA0 _ (hlt.2.2.2 hcp).2.1)) (recv1 X.2.2.2.2.1 rfl hat) hT hS hA0 dJx4a65c_remove_915e3_21 hl.1 rfl rfl ⟨Nat.le_of_ble_eq_true rfl, Nat.le_of_ble_eq_true rfl⟩ (Nat.le_of_ble_eq_true rfl) ⟨Nat.le_of_ble_eq_true rfl, Nat.le_of_ble_eq_true rfl⟩) hS (fun x h => h.elim (fun e => e ▸ hAa) (fun e => e ▸ (hlt.2.2.2 hcp).2.1)) (fun u => []) (fun _ => rfl) (fun u H9 locs hw hP9 hz9 hk9 hS => ?_)
  obtain ⟨g1, g2⟩ := hP9
  have hwt9 : ∀ j, j < n a - 1 → t (if j < x.toNatClampNeg then r a j else r a (j + 1)) = ek (t a) := fun j hj => by
    by_cases e : j < x.toNatClampNeg
    · rw [if_pos e]; exact hO.elt hk (by omega)
    · rw [if_neg e]; exact hO.elt hk (by omega)
  refine lv_aload_n hx hb dJx4a65c_remove_915e3_24 rfl (lv_at hl 0 rfl) ?_
  exact e_a X hr (Or.inl ⟨_, rfl⟩) (Or.inr ⟨_, rfl⟩) dJx4a65c_remove_915e3_25 hS () rfl trivial ⟨_, _, hO.list (b' := E a) (c' := cap a) (k' := n a - 1) (R' := fun j => if j < x.toNatClampNeg then r a j else r a (j + 1)) (w' := up2 w a 0 (w a 0 + 1)) hk (by show va_at D vwCl (a, .inr (3, [.int (up2 w a 0 (w a 0 + 1) a 0), .ref (E a), .int (nI (n a - 1))])) H9; rw [up2_at]; exact g1) (fun _ => g2) (Or.inl ⟨rfl, rfl⟩) (by omega) hlt.2.1 hwt9 (fun b hb => up2_ne hb) (fun x h1 h2 h3 => hk9 x h1 (fun h => h.elim h2 (fun h => h3 ⟨hcp, h⟩)))⟩ ⟨Nat.le_of_ble_eq_true rfl, Nat.le_of_ble_eq_true rfl⟩
theorem up_id {α : Type} (f : Nat → α) (a : Nat) : va_up f a (f a) = f := by
  funext j
  by_cases e : j = a
  · rw [e, va_up_self]
  · rw [va_up_ne _ _ e]
abbrev rm_ta (k : Nat) : Room := { frames := 3, cells := 1, slots := k, locals := 104 }
set_option maxHeartbeats 4000000 in
theorem c_ta (l : Launch) (D : va_G) (tc : Nat → ClassId) (h0 : Nat) (sa : Nat → Nat) {A : Nat → Prop} {t n : Nat → Nat} {r : Nat → Nat → Nat} {w : Dt} (H0 : Heap) (a : Nat) (hB : SB D tc (sa 3) A t n r w H0) (hk : isL (t a) = true) (hA0 : ∀ x, A x → h0 ≤ x) (hAF : ∀ x, H0.size ≤ x → A x) : MB (S := Nat) l yJx4a65c_toArray_d5877 cJx4a65c_toArray_d5877 1 (Option.some (FieldType.array (FieldType.object "java/lang/Object"))) (rm_ta (n a)) A [.ref a] D tc h0 sa H0 (fun _ => True) (fun q H1 => SB D tc (sa 3) (fun x => A x ∧ x ≠ q) t n r w H1 ∧ H0.size ≤ q ∧ q < H1.size ∧ va_at D vwCl (q, hrow (tc 9) (n a) (n a) (r a)) H1) (fun q => some (.ref q)) := by
  refine MB.ofF RJx4a65c [(0, .ref a)] (by decide +kernel) rfl (Nat.le_of_ble_eq_true rfl) rfl ?_
  intro p e s m below meth c ls X hr hin hT hH hS hl
  subst hH
  have hx := X.1
  have hb := X.2.1
  have hown := X.2.2.2.1
  have hU := X.2.2.2.2.1.1
  have hB0 := hB
  obtain ⟨E, cap, hO⟩ := hB
  have hat : va_at D vwCl (a, .inr (3, [.int (w a 0), .ref (E a), .int (nI (n a))])) s.heap := (hO.1 a _ (isL_cel hk)).1
  have hAa := (hO.1 a _ (isL_cel hk)).2
  have hlt := hO.2.1 a hk
  have hta : t a ≠ 0 := isL_ne hk
  have hatl := hat.lt
  have hEa : 0 < cap a → E a ≠ a := fun hp e => hta (by have := (hlt.2.2.2 hp).2.2; rwa [e] at this)
  have hel : ∀ j, j < n a → r a j ≠ a := fun j hj e => ek_self hk (by rw [← hO.elt hk hj, e])
  refine lv_aload_n hx hb dJx4a65c_toArray_d5877_0 rfl (lv_at hl 0 rfl) ?_
  refine x_getv X dJx4a65c_toArray_d5877_1 f_Jx4a65c_9 hat (v := .ref (E a)) rfl ?_
  refine lv_aload_n hx hb dJx4a65c_toArray_d5877_4 rfl (lv_at hl 0 rfl) ?_
  refine x_getv X dJx4a65c_toArray_d5877_5 f_Jx4a65c_48 hat (v := .int (nI (n a))) rfl ?_
  by_cases hc : cap a = 0
  · have hn0 : n a = 0 := by omega
    have hEe := hlt.2.2.1 hc
    refine W.eq (g2 := F0 m 8 ls [.int (nI (n a)), .ref (sa 3)]) (by rw [hEe]) ?_
    refine g_after (st0 := [.int (nI (n a)), .ref (sa 3)]) (rest := []) (g_S X m_Jx4a65c_66 (c_cp2e l D tc h0 sa s.heap (n a) (by omega) (fun x hx => hA0 _ (hAF x hx))) hT hS hA0 dJx4a65c_toArray_d5877_8 hl.1 rfl rfl ⟨Nat.le_of_ble_eq_true rfl, Nat.le_of_ble_eq_true rfl⟩ (Nat.le_of_ble_eq_true rfl) ⟨Nat.le_of_ble_eq_true rfl, by show 0 + n a ≤ n a; omega⟩) hS (fun x h => hAF x h) (fun u => .ref u :: []) (fun _ => rfl) (fun u H9 locs hw hP9 hz9 hk9 hS => ?_)
    obtain ⟨g1, g2, g3⟩ := hP9
    have hf : (fun _ => none : Nat → Option Nat) = fun j => if j < n a then some (r a j) else none := by funext j; rw [if_neg (by omega)]
    rw [hf] at g3
    exact e_a X hr (Or.inr ⟨_, rfl⟩) (Or.inr ⟨_, rfl⟩) dJx4a65c_toArray_d5877_11 hS u rfl trivial ⟨(hB0.mono (B := fun x => A x ∧ x ≠ u) (fun x hx hA => ⟨hA, fun e => by omega⟩)).kept (fun x hx _ => hk9 x hx (fun h => by omega)), g1, g2, g3⟩ ⟨Nat.le_of_ble_eq_true rfl, by show 0 + n a ≤ n a; omega⟩
  · have hcp : 0 < cap a := by omega
    have hrw := (hlt.2.2.2 hcp).1
    have hobF : ∀ i y, (if i < n a then some (r a i) else none) = some y → OB D tc y s.heap := fun i y h => by
      by_cases hi : i < n a
      · rw [if_pos hi] at h
        cases h
        exact hB0.ob hk (hO.elt hk hi)
      · rw [if_neg hi] at h
        cases h
    refine g_after (st0 := [.int (nI (n a)), .ref (E a)]) (rest := []) (g_S X m_Jx4a65c_66 (c_cp2 l D tc h0 sa s.heap (E a) (n a) (cap a) hrw (by omega) (by omega) hobF (hA0 _ (hlt.2.2.2 hcp).2.1) (fun x hx => hA0 _ (hAF x hx))) hT hS hA0 dJx4a65c_toArray_d5877_8 hl.1 rfl rfl ⟨Nat.le_of_ble_eq_true rfl, Nat.le_of_ble_eq_true rfl⟩ (Nat.le_of_ble_eq_true rfl) ⟨Nat.le_of_ble_eq_true rfl, by show 0 + n a ≤ n a; omega⟩) hS (fun x h => h.elim (fun e => e ▸ (hlt.2.2.2 hcp).2.1) (fun h => hAF x h)) (fun u => .ref u :: []) (fun _ => rfl) (fun u H9 locs hw hP9 hz9 hk9 hS => ?_)
    obtain ⟨g1, g2, g3, g4⟩ := hP9
    have hf : (fun j => if j < min (cap a) (n a) then (if j < n a then some (r a j) else none) else none) = fun j => if j < n a then some (r a j) else none := by
      funext j
      rw [Nat.min_eq_right hlt.1]
      by_cases h : j < n a
      · rw [if_pos h]
      · rw [if_neg h, if_neg h]
    rw [hf] at g3
    have hall : ∀ x, x < s.heap.size → x ≠ E a → H9[x]? = s.heap[x]? := fun x hx hn => hk9 x hx (fun h => h.elim hn (fun h => by omega))
    have hO9 := (hO.mono (B := fun x => A x ∧ x ≠ u) (fun x hx hA => ⟨hA, fun e => by omega⟩)).list (w' := w) (b' := E a) (c' := cap a) (k' := n a) (R' := r a) hk (hat.kept (hall a hatl (fun e => hEa hcp e.symm))) (fun _ => g4) (Or.inl ⟨rfl, rfl⟩) hlt.1 hlt.2.1 (fun j hj => hO.elt hk hj) (fun _ _ => rfl) (fun x h1 h2 h3 => hall x h1 (fun h => h3 ⟨hcp, h⟩))
    rw [up_id, up_id, up_id, up_id] at hO9
    exact e_a X hr (Or.inr ⟨_, rfl⟩) (Or.inr ⟨_, rfl⟩) dJx4a65c_toArray_d5877_11 hS u rfl trivial ⟨⟨_, _, hO9⟩, g1, g2, g3⟩ ⟨Nat.le_of_ble_eq_true rfl, by show 0 + n a ≤ n a; omega⟩
