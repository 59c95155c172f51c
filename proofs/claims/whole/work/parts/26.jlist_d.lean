/-! THE JDK's lists: add, remove, addAll over the store -/
theorem d1 {A : Nat → Prop} {q : Nat × va_E} (h : A q.1) : va_D A [q] := by
  refine ⟨fun i j x y hi hj _ => ?_, fun k x hk => ?_⟩
  · have h1 : i < 1 := (List.getElem?_eq_some_iff.mp hi).1
    have h2 : j < 1 := (List.getElem?_eq_some_iff.mp hj).1
    omega
  · have h1 : k < 1 := (List.getElem?_eq_some_iff.mp hk).1
    rw [show k = 0 by omega] at hk
    cases hk
    exact h
/-- a list of the store has changed: its cell, its row -/
theorem SO.list {D : va_G} {tc : Nat → ClassId} {e0 : Nat} {A : Nat → Prop} {E cap t n : Nat → Nat} {r : Nat → Nat → Nat} {w w' : Dt} {H H1 : Heap} (h : SO D tc e0 A E cap t n r w H) {a b' c' k' : Nat} {R' : Nat → Nat} (hk : isL (t a) = true) (hcell : va_at D vwCl (a, s_in tc (lcel k' b') (w' a)) H1) (hrw : 0 < c' → va_at D vwCl (b', hrow (tc 9) c' k' R') H1) (hb : (b' = E a ∧ c' = cap a) ∨ (H.size ≤ b' ∧ A b' ∧ 0 < c')) (hkc : k' ≤ c') (hc : c' ≤ 1000) (hwt : ∀ j, j < k' → t (R' j) = ek (t a)) (hw : ∀ b, b ≠ a → w' b = w b) (hfr : ∀ x, x < H.size → x ≠ a → ¬ (0 < cap a ∧ x = E a) → H1[x]? = H[x]?) :
    SO D tc e0 A (va_up E a b') (va_up cap a c') t (va_up n a k') (va_up r a R') w' H1 := by
  have hta : t a ≠ 0 := isL_ne hk
  obtain ⟨g1, g2, g3, g4⟩ := h.2.1 a hk
  have hne : ∀ x, t x ≠ 0 → ¬ (0 < cap a ∧ x = E a) := fun x hx z => hx (by rw [z.2]; exact (g4 z.1).2.2)
  have hE : ∀ x, isL (t x) = true → 0 < cap x → E x < H.size := fun x hx hp => ((h.2.1 x hx).2.2.2 hp).1.lt
  refine ⟨fun x d hd => ?_, fun x hx => ?_, fun x y hx hy hpx hpy e => ?_, fun x hx => ?_, fun x => ?_⟩
  · by_cases ex : x = a
    · subst ex
      rw [va_up_self, va_up_self, isL_cel hk] at hd
      cases hd
      exact ⟨by rw [va_up_self]; exact hcell, (h.lt hta).2⟩
    · rw [va_up_ne _ _ ex, va_up_ne _ _ ex, va_up_ne _ _ ex] at hd
      have hx0 : t x ≠ 0 := fun z => by rw [z] at hd; cases hd
      rw [hw x ex]
      exact ⟨(h.1 x d hd).1.kept (hfr x (h.lt hx0).1 ex (hne x hx0)), (h.1 x d hd).2⟩
  · by_cases ex : x = a
    · subst ex
      rw [va_up_self, va_up_self, va_up_self, va_up_self]
      refine ⟨hkc, hc, fun z => ?_, fun hp => ⟨hrw hp, ?_, ?_⟩⟩
      · rcases hb with ⟨e1, e2⟩ | ⟨-, -, e3⟩
        · rw [e1]
          exact g3 (by rw [← e2]; exact z)
        · omega
      · rcases hb with ⟨e1, e2⟩ | ⟨-, e3, -⟩
        · rw [e1]
          exact (g4 (by rw [← e2]; exact hp)).2.1
        · exact e3
      · rcases hb with ⟨e1, e2⟩ | ⟨e3, -, -⟩
        · rw [e1]
          exact (g4 (by rw [← e2]; exact hp)).2.2
        · exact Classical.byContradiction fun z => by
            have := (h.lt z).1
            omega
    · obtain ⟨f1, f2, f3, f4⟩ := h.2.1 x hx
      rw [va_up_ne _ _ ex, va_up_ne _ _ ex, va_up_ne _ _ ex, va_up_ne _ _ ex]
      refine ⟨f1, f2, f3, fun hp => ⟨(f4 hp).1.kept (hfr _ (f4 hp).1.lt (fun z => hta (by rw [← z]; exact (f4 hp).2.2)) (fun z => ex (h.2.2.1 x a hx hk hp z.1 z.2))), (f4 hp).2⟩⟩
  · by_cases ex : x = a <;> by_cases ey : y = a
    · rw [ex, ey]
    · subst ex
      rw [va_up_self] at e hpx
      rw [va_up_ne _ _ ey] at e hpy
      rcases hb with ⟨e1, e2⟩ | ⟨e3, -, -⟩
      · exact h.2.2.1 x y hx hy (by rw [← e2]; exact hpx) hpy (by rw [← e1]; exact e)
      · have := hE y hy hpy
        omega
    · subst ey
      rw [va_up_self] at e hpy
      rw [va_up_ne _ _ ex] at e hpx
      rcases hb with ⟨e1, e2⟩ | ⟨e3, -, -⟩
      · exact h.2.2.1 x y hx hy hpx (by rw [← e2]; exact hpy) (by rw [← e1]; exact e)
      · have := hE x hx hpx
        omega
    · rw [va_up_ne _ _ ex] at e hpx
      rw [va_up_ne _ _ ey] at e hpy
      exact h.2.2.1 x y hx hy hpx hpy e
  · by_cases ex : x = a
    · subst ex
      rw [va_up_self, va_up_self, va_up_self]
      exact ⟨_, isL_cel hk⟩
    · rw [va_up_ne _ _ ex, va_up_ne _ _ ex, va_up_ne _ _ ex]
      exact h.2.2.2.1 x hx
  · by_cases ex : x = a
    · subst ex
      rw [va_up_self, va_up_self, isL_wt hk]
      exact hwt
    · rw [va_up_ne _ _ ex, va_up_ne _ _ ex]
      exact h.2.2.2.2 x
theorem up_row {r : Nat → Nat} {k q : Nat} {F : Nat → Option Nat} (hF : ∀ j, j ≠ k → F j = if j < k then some (r j) else none) : va_up F k (some q) = fun j => if j < k + 1 then some (va_up r k q j) else none := by
  funext j
  by_cases e : j = k
  · subst e
    rw [va_up_self, va_up_self, if_pos (by omega)]
  · rw [va_up_ne _ _ e, va_up_ne _ _ e, hF j e]
    by_cases h : j < k
    · rw [if_pos h, if_pos (by omega)]
    · rw [if_neg h, if_neg (by omega)]
theorem rm_row {r : Nat → Nat} {k x : Nat} (h : x < k) : va_up (va_cpy (fun j => if j < k then some (r j) else none) (fun j => if j < k then some (r j) else none) (x + 1) x (k - 1 - x)) (k - 1) none = fun j => if j < k - 1 then some (if j < x then r j else r (j + 1)) else none := by
  funext j
  by_cases e : j = k - 1
  · subst e
    rw [va_up_self, if_neg (Nat.lt_irrefl _)]
  · rw [va_up_ne _ _ e]
    unfold va_cpy
    by_cases h1 : j < x
    · rw [if_neg (by omega)]
      show (if j < k then some (r j) else none) = _
      rw [if_pos (by omega), if_pos (by omega), if_pos h1]
    · by_cases h2 : j < k - 1
      · rw [if_pos ⟨by omega, by omega⟩]
        show (if x + 1 + (j - x) < k then some (r (x + 1 + (j - x))) else none) = _
        rw [if_pos h2, if_neg h1, if_pos (by omega)]
        congr 2
        omega
      · rw [if_neg (by omega)]
        show (if j < k then some (r j) else none) = _
        rw [if_neg (by omega), if_neg h2]
theorem rm_row0 {r : Nat → Nat} {k : Nat} (h : 0 < k) : va_up (fun j => if j < k then some (r j) else none) (k - 1) none = fun j => if j < k - 1 then some (if j < k - 1 then r j else r (j + 1)) else none := by
  funext j
  by_cases e : j = k - 1
  · subst e
    rw [va_up_self, if_neg (Nat.lt_irrefl _)]
  · rw [va_up_ne _ _ e]
    by_cases h2 : j < k - 1
    · rw [if_pos (by omega), if_pos h2, if_pos h2]
    · rw [if_neg (by omega), if_neg h2]

abbrev rm_add3 (k : Nat) : Room := { frames := 5, cells := 1, slots := (2 * k + 10), locals := 147 }
set_option maxHeartbeats 4000000 in
theorem c_add3 (l : Launch) (D : va_G) (tc : Nat → ClassId) (h0 : Nat) (sa : Nat → Nat) (H0 : Heap) (a q b k cap : Nat) {m1 : Int32} {r : Nat → Nat} (hat : va_at D vwCl (a, .inr (3, [.int m1, .ref b, .int (nI k)])) H0) (hrw : (cap = 0 ∧ b = sa 3) ∨ (0 < cap ∧ va_at D vwCl (b, hrow (tc 9) cap k r) H0 ∧ a ≠ b ∧ h0 ≤ b ∧ q ≠ b)) (hkc : k ≤ cap) (hk4 : k < 400) (hcap : cap ≤ 1000) (hob : ∀ j, j < k → OB D tc (r j) H0) (hq : OB D tc q H0) (hqa : q ≠ a) (ha0 : h0 ≤ a) (hh0 : ∀ x, H0.size ≤ x → h0 ≤ x) : MB (S := (Nat × Nat)) l yJx4a65c_add_72be8 cJx4a65c_add_72be8 4 (Option.none : Option FieldType) (rm_add3 k) (fun x : Nat => x = a ∨ (0 < cap ∧ x = b) ∨ H0.size ≤ x) [.ref a, .ref q, .ref b, .int (nI k)] D tc h0 sa H0 (fun _ => True) (fun (u : Nat × Nat) H1 => va_at D vwCl (a, .inr (3, [.int m1, .ref u.1, .int (nI (k + 1))])) H1 ∧ va_at D vwCl (u.1, hrow (tc 9) u.2 (k + 1) (va_up r k q)) H1 ∧ k + 1 ≤ u.2 ∧ u.2 ≤ 1000 ∧ ((u.1 = b ∧ u.2 = cap) ∨ H0.size ≤ u.1)) (fun _ => none) := by
  refine MB.ofF RJx4a65c [(0, .ref a), (1, .ref q), (2, .ref b), (3, .int (nI k))] (by decide +kernel) rfl (Nat.le_of_ble_eq_true rfl) rfl ?_
  intro p e s m below meth c ls X hr hin hT hH hS hl
  subst hH
  have hx := X.1
  have hb := X.2.1
  have hown := X.2.2.2.1
  have hU := X.2.2.2.2.1.1
  have hatl := hat.lt
  have hql := hq.lt
  have hA0 : ∀ x : Nat, (x = a ∨ (0 < cap ∧ x = b) ∨ s.heap.size ≤ x) → h0 ≤ x := fun x h => h.elim (fun e => e ▸ ha0) (fun h => h.elim (fun e => hrw.elim (fun z => absurd e.1 (by omega)) (fun z => e.2 ▸ z.2.2.2.1)) (hh0 x))
  refine lv_iload_n hx hb dJx4a65c_add_72be8_0 rfl (lv_at hl 3 rfl) ?_
  refine lv_aload_n hx hb dJx4a65c_add_72be8_1 rfl (lv_at hl 2 rfl) ?_
  rcases hrw with ⟨hc9, hb9⟩ | ⟨hc9, hrw, hab, hb0, hqb⟩
  · have hk0 : k = 0 := by omega
    rw [hb9] at hat
    refine W.eq (g2 := F0 m 2 ls [.ref (sa 3), .int (nI k)]) (by rw [hb9]) ?_
    refine g_slen X dJx4a65c_add_72be8_2 hT.2.2.2.2.2.2.2.2.2.2.1 hS hA0 ?_
    refine lv_icmp_ne (tgt := 11) hx hb dJx4a65c_add_72be8_3 (by decide) (fun hc0 => absurd (by rw [hk0]) hc0) (fun _ => ?_)
    refine lv_aload_n hx hb dJx4a65c_add_72be8_6 rfl (lv_at hl 0 rfl) ?_
    refine g_after (st0 := [.ref a]) (rest := []) (g_V X m_Jx4a65c_129 (c_gr0e l D tc h0 sa s.heap a hat (by rw [hk0]) ha0 hh0) (recv1 X.2.2.2.2.1 rfl hat) hT hS hA0 dJx4a65c_add_72be8_7 hl.1 rfl rfl ⟨Nat.le_of_ble_eq_true rfl, Nat.le_of_ble_eq_true rfl⟩ (Nat.le_of_ble_eq_true rfl) ⟨Nat.le_of_ble_eq_true rfl, Nat.le_of_ble_eq_true rfl⟩) hS (fun x h => h.elim Or.inl (fun h => Or.inr (Or.inr h))) (fun u => .ref u :: []) (fun _ => rfl) (fun u H9 locs hw hP9 hz9 hk9 hS => ?_)
    obtain ⟨g1, g2, g3, g4⟩ := hP9
    have hat := g4
    have hq := hq.kept (hk9 q hql (fun h => h.elim hqa (fun h => by omega)))
    refine lv_astore_n (lv' := [(2, .ref u), (0, .ref a), (1, .ref q), (3, .int (nI k))]) hx hb dJx4a65c_add_72be8_10 rfl hl (by decide) rfl (fun ls hl => ?_)
    refine lv_aload_n hx hb dJx4a65c_add_72be8_11 rfl (lv_at hl 0 rfl) ?_
    refine lv_iload_n hx hb dJx4a65c_add_72be8_12 rfl (lv_at hl 3 rfl) ?_
    refine lv_aload_n hx hb dJx4a65c_add_72be8_13 rfl (lv_at hl 2 rfl) ?_
    refine x_ast (A := (fun x : Nat => x = a ∨ (0 < cap ∧ x = b) ∨ s.heap.size ≤ x)) X dJx4a65c_add_72be8_14 g3 (Or.inr (Or.inr g1)) hS (hq.any X.2.2.2.2.1) (x := nI k) (fun z => z.elim (nI_nn (by omega)) (fun z => by rw [nI_cl (by omega)] at z; omega)) (fun H locs hatb oq hz hS => ?_)
    have hat := hat.kept (oq a (fun e => by omega))
    rw [nI_cl (by omega), up_row (r := r) (k := k) (fun j _ => (if_neg (by omega)).symm)] at hatb
    refine lv_aload_n hx hb dJx4a65c_add_72be8_15 rfl (lv_at hl 1 rfl) ?_
    refine lv_iload_n hx hb dJx4a65c_add_72be8_16 rfl (lv_at hl 3 rfl) ?_
    refine lv_iconst (v := 1) hx hb dJx4a65c_add_72be8_17 (by decide) ?_
    refine lv_iadd hx hb dJx4a65c_add_72be8_18 ?_
    rw [nI_1]
    refine x_putv (A := (fun x : Nat => x = a ∨ (0 < cap ∧ x = b) ∨ s.heap.size ≤ x)) X dJx4a65c_add_72be8_19 f_Jx4a65c_48 hat (Or.inl rfl) hS (Nat.le_of_ble_eq_true rfl) rfl rfl (fun H locs hat oq hz hS => ?_)
    have hatb := hatb.kept (oq u (fun e => (fun e => by omega) e.symm))
    exact e_v X hr dJx4a65c_add_72be8_22 hS (u, 10) rfl trivial ⟨hat, hatb, by omega, by omega, Or.inr g1⟩ ⟨Nat.le_of_ble_eq_true rfl, Nat.le_of_ble_eq_true rfl⟩
  · have hrwl := hrw.lt
    refine x_len X dJx4a65c_add_72be8_2 hrw ?_
    by_cases hkq : k = cap
    · have hobF : ∀ i y, (if i < k then some (r i) else none) = some y → OB D tc y s.heap := fun i y h => by
        by_cases hi : i < k
        · rw [if_pos hi] at h
          cases h
          exact hob i hi
        · rw [if_neg hi] at h
          cases h
      refine lv_icmp_ne (tgt := 11) hx hb dJx4a65c_add_72be8_3 (by decide) (fun hc0 => absurd (by rw [hkq]) hc0) (fun _ => ?_)
      refine lv_aload_n hx hb dJx4a65c_add_72be8_6 rfl (lv_at hl 0 rfl) ?_
      refine g_after (st0 := [.ref a]) (rest := []) (g_V X m_Jx4a65c_129 (c_gr0 l D tc h0 sa s.heap a b cap hat hrw hab hc9 (by omega) (by rw [hkq]) hobF ha0 hb0 hh0) (recv1 X.2.2.2.2.1 rfl hat) hT hS hA0 dJx4a65c_add_72be8_7 hl.1 rfl rfl ⟨Nat.le_of_ble_eq_true rfl, Nat.le_of_ble_eq_true rfl⟩ (Nat.le_of_ble_eq_true rfl) ⟨Nat.le_of_ble_eq_true rfl, by show 0 + _ ≤ 2 * k + 10; simp; omega⟩) hS (fun x h => h.elim Or.inl (fun h => h.elim (fun e => Or.inr (Or.inl ⟨hc9, e⟩)) (fun h => Or.inr (Or.inr h)))) (fun u => .ref u :: []) (fun _ => rfl) (fun u H9 locs hw hP9 hz9 hk9 hS => ?_)
      obtain ⟨g1, g2, g3, g4⟩ := hP9
      have hat := g4
      have hq := hq.kept (hk9 q hql (fun h => h.elim hqa (fun h => h.elim hqb (fun h => by omega))))
      refine lv_astore_n (lv' := [(2, .ref u), (0, .ref a), (1, .ref q), (3, .int (nI k))]) hx hb dJx4a65c_add_72be8_10 rfl hl (by decide) rfl (fun ls hl => ?_)
      refine lv_aload_n hx hb dJx4a65c_add_72be8_11 rfl (lv_at hl 0 rfl) ?_
      refine lv_iload_n hx hb dJx4a65c_add_72be8_12 rfl (lv_at hl 3 rfl) ?_
      refine lv_aload_n hx hb dJx4a65c_add_72be8_13 rfl (lv_at hl 2 rfl) ?_
      refine x_ast (A := (fun x : Nat => x = a ∨ (0 < cap ∧ x = b) ∨ s.heap.size ≤ x)) X dJx4a65c_add_72be8_14 g3 (Or.inr (Or.inr g1)) hS (hq.any X.2.2.2.2.1) (x := nI k) (fun z => z.elim (nI_nn (by omega)) (fun z => by rw [nI_cl (by omega)] at z; omega)) (fun H locs hatb oq hz hS => ?_)
      have hat := hat.kept (oq a (fun e => by omega))
      rw [nI_cl (by omega), up_row (r := r) (k := k) (fun j hj => by by_cases h : j < k <;> simp [h] <;> omega)] at hatb
      refine lv_aload_n hx hb dJx4a65c_add_72be8_15 rfl (lv_at hl 1 rfl) ?_
      refine lv_iload_n hx hb dJx4a65c_add_72be8_16 rfl (lv_at hl 3 rfl) ?_
      refine lv_iconst (v := 1) hx hb dJx4a65c_add_72be8_17 (by decide) ?_
      refine lv_iadd hx hb dJx4a65c_add_72be8_18 ?_
      rw [nI_1]
      refine x_putv (A := (fun x : Nat => x = a ∨ (0 < cap ∧ x = b) ∨ s.heap.size ≤ x)) X dJx4a65c_add_72be8_19 f_Jx4a65c_48 hat (Or.inl rfl) hS (Nat.le_of_ble_eq_true rfl) rfl rfl (fun H locs hat oq hz hS => ?_)
      have hatb := hatb.kept (oq u (fun e => (fun e => by omega) e.symm))
      exact e_v X hr dJx4a65c_add_72be8_22 hS (u, cap + max (cap + 1 - cap) (cap / 2)) rfl trivial ⟨hat, hatb, by show k + 1 ≤ cap + max (cap + 1 - cap) (cap / 2); omega, by show cap + max (cap + 1 - cap) (cap / 2) ≤ 1000; omega, Or.inr g1⟩ ⟨Nat.le_of_ble_eq_true rfl, by show 0 + _ ≤ 2 * k + 10; simp; omega⟩
    · have hkl : k < cap := by omega
      refine lv_icmp_ne (tgt := 11) hx hb dJx4a65c_add_72be8_3 (by decide) (fun _ => ?_) (fun hc0 => absurd hc0 (fun z => hkq (by have := congrArg Int32.toNatClampNeg z; rwa [nI_cl (by omega), nI_cl (by omega)] at this)))
      refine lv_aload_n hx hb dJx4a65c_add_72be8_11 rfl (lv_at hl 2 rfl) ?_
      refine lv_iload_n hx hb dJx4a65c_add_72be8_12 rfl (lv_at hl 3 rfl) ?_
      refine lv_aload_n hx hb dJx4a65c_add_72be8_13 rfl (lv_at hl 1 rfl) ?_
      refine x_ast (A := (fun x : Nat => x = a ∨ (0 < cap ∧ x = b) ∨ s.heap.size ≤ x)) X dJx4a65c_add_72be8_14 hrw (Or.inr (Or.inl ⟨hc9, rfl⟩)) hS (hq.any X.2.2.2.2.1) (x := nI k) (fun z => z.elim (nI_nn (by omega)) (fun z => by rw [nI_cl (by omega)] at z; omega)) (fun H locs hatb oq hz hS => ?_)
      have hat := hat.kept (oq a (hab))
      rw [nI_cl (by omega), up_row (r := r) (k := k) (fun j hj => rfl)] at hatb
      refine lv_aload_n hx hb dJx4a65c_add_72be8_15 rfl (lv_at hl 0 rfl) ?_
      refine lv_iload_n hx hb dJx4a65c_add_72be8_16 rfl (lv_at hl 3 rfl) ?_
      refine lv_iconst (v := 1) hx hb dJx4a65c_add_72be8_17 (by decide) ?_
      refine lv_iadd hx hb dJx4a65c_add_72be8_18 ?_
      rw [nI_1]
      refine x_putv (A := (fun x : Nat => x = a ∨ (0 < cap ∧ x = b) ∨ s.heap.size ≤ x)) X dJx4a65c_add_72be8_19 f_Jx4a65c_48 hat (Or.inl rfl) hS (Nat.le_of_ble_eq_true rfl) rfl rfl (fun H locs hat oq hz hS => ?_)
      have hatb := hatb.kept (oq b (fun e => (hab) e.symm))
      exact e_v X hr dJx4a65c_add_72be8_22 hS (b, cap) rfl trivial ⟨hat, hatb, hkl, hcap, Or.inl ⟨rfl, rfl⟩⟩ ⟨Nat.le_of_ble_eq_true rfl, by show 0 ≤ 2 * k + 10; omega⟩
