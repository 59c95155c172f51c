/-! THE JDK's lists over the store: add, remove, addAll -/
theorem up2_at (w : Dt) (a k : Nat) (x : Int32) : up2 w a k x a k = x := by simp [up2]
theorem ek_self {k : Nat} (h : isL k = true) : ek k ≠ k := by
  simp only [isL, Bool.or_eq_true, beq_iff_eq] at h
  rcases h with ((((h | h) | h) | h) | h) | h <;> subst h <;> decide
theorem SO.elt {D : va_G} {tc : Nat → ClassId} {e0 : Nat} {A : Nat → Prop} {E cap t n : Nat → Nat} {r : Nat → Nat → Nat} {w : Dt} {H : Heap} (h : SO D tc e0 A E cap t n r w H) {a j : Nat} (hk : isL (t a) = true) (hj : j < n a) : t (r a j) = ek (t a) := (isL_wt hk).mp (h.2.2.2.2 a) j hj

abbrev rm_add (k : Nat) : Room := { frames := 6, cells := 1, slots := (2 * k + 10), locals := 170 }
set_option maxHeartbeats 4000000 in
theorem c_add (l : Launch) (D : va_G) (tc : Nat → ClassId) (h0 : Nat) (sa : Nat → Nat) {A : Nat → Prop} {t n : Nat → Nat} {r : Nat → Nat → Nat} {w : Dt} (H0 : Heap) (a q : Nat) (hB : SB D tc (sa 3) A t n r w H0) (hk : isL (t a) = true) (hq : t q = ek (t a)) (hn4 : n a < 400) (hA0 : ∀ x, A x → h0 ≤ x) (hAF : ∀ x, H0.size ≤ x → A x) : MB (S := Unit) l yJx4a65c_add_9ea2d cJx4a65c_add_9ea2d 2 (Option.some FieldType.boolean) (rm_add (n a)) A [.ref a, .ref q] D tc h0 sa H0 (fun _ => True) (fun _ H1 => SB D tc (sa 3) A t (va_up n a (n a + 1)) (va_up r a (va_up (r a) (n a) q)) (up2 w a 0 (w a 0 + 1)) H1) (fun _ => some (.int 1)) := by
  refine MB.ofF RJx4a65c [(0, .ref a), (1, .ref q)] (by decide +kernel) rfl (Nat.le_of_ble_eq_true rfl) rfl ?_
  intro p e s m below meth c ls X hr hin hT hH hS hl
  subst hH
  have hx := X.1
  have hb := X.2.1
  have hown := X.2.2.2.1
  have hU := X.2.2.2.2.1.1
  have hB0 := hB
  obtain ⟨E, cap, hO⟩ := hB
  have hat : va_at D vwCl (a, .inr (3, [.int (w a 0), .ref (E a), .int (nI (n a))])) s.heap := (hO.1 a _ (isL_cel hk)).1
  have hAa := (hO.1 a _ (isL_cel hk)).2
  have hlt := hO.2.1 a hk
  have hta : t a ≠ 0 := isL_ne hk
  have hatl := hat.lt
  have hEa : 0 < cap a → E a ≠ a := fun hp e => hta (by have := (hlt.2.2.2 hp).2.2; rwa [e] at this)
  have hel : ∀ j, j < n a → r a j ≠ a := fun j hj e => ek_self hk (by rw [← hO.elt hk hj, e])
  have hqa : q ≠ a := fun e => ek_self hk (by rw [← hq, e])
  have hq0 : t q ≠ 0 := by rw [hq]; exact ek_ne hk
  refine lv_aload_n hx hb dJx4a65c_add_9ea2d_0 rfl (lv_at hl 0 rfl) ?_
  refine lv_dup hx hb dJx4a65c_add_9ea2d_1 rfl ?_
  refine x_getv X dJx4a65c_add_9ea2d_2 f_Jx4a65c_63 hat (v := .int (w a 0)) rfl ?_
  refine lv_iconst (v := 1) hx hb dJx4a65c_add_9ea2d_5 (by decide) ?_
  refine lv_iadd hx hb dJx4a65c_add_9ea2d_6 ?_
  refine x_putv (A := A) X dJx4a65c_add_9ea2d_7 f_Jx4a65c_63 hat hAa hS (Nat.le_of_ble_eq_true rfl) rfl rfl (fun H locs hat oq hz hS => ?_)
  refine lv_aload_n hx hb dJx4a65c_add_9ea2d_10 rfl (lv_at hl 0 rfl) ?_
  refine lv_aload_n hx hb dJx4a65c_add_9ea2d_11 rfl (lv_at hl 1 rfl) ?_
  refine lv_aload_n hx hb dJx4a65c_add_9ea2d_12 rfl (lv_at hl 0 rfl) ?_
  refine x_getv X dJx4a65c_add_9ea2d_13 f_Jx4a65c_9 hat (v := .ref (E a)) rfl ?_
  refine lv_aload_n hx hb dJx4a65c_add_9ea2d_16 rfl (lv_at hl 0 rfl) ?_
  refine x_getv X dJx4a65c_add_9ea2d_17 f_Jx4a65c_48 hat (v := .int (nI (n a))) rfl ?_
  have hrw : (cap a = 0 ∧ E a = sa 3) ∨ (0 < cap a ∧ va_at D vwCl (E a, hrow (tc 9) (cap a) (n a) (r a)) H ∧ a ≠ E a ∧ h0 ≤ E a ∧ q ≠ E a) := by
    by_cases hc : cap a = 0
    · exact Or.inl ⟨hc, hlt.2.2.1 hc⟩
    · have hp : 0 < cap a := by omega
      exact Or.inr ⟨hp, (hlt.2.2.2 hp).1.kept (oq _ (hEa hp)), fun e => hEa hp e.symm, hA0 _ (hlt.2.2.2 hp).2.1, fun e => hq0 (by rw [e]; exact (hlt.2.2.2 hp).2.2)⟩
  refine g_after (st0 := [.int (nI (n a)), .ref (E a), .ref q, .ref a]) (rest := []) (g_V X m_Jx4a65c_131 (c_add3 l D tc h0 sa H a q (E a) (n a) (cap a) hat hrw hlt.1 hn4 hlt.2.1 (fun j hj => (hB0.ob hk (hO.elt hk hj)).kept (oq _ (hel j hj))) ((hB0.ob hk hq).kept (oq _ hqa)) hqa (hA0 _ hAa) (fun x hx => hA0 _ (hAF x (by omega)))) (recv1 X.2.2.2.2.1 rfl hat) hT hS hA0 dJx4a65c_add_9ea2d_20 hl.1 rfl rfl ⟨Nat.le_of_ble_eq_true rfl, Nat.le_of_ble_eq_true rfl⟩ (Nat.le_of_ble_eq_true rfl) ⟨Nat.le_of_ble_eq_true rfl, by show 0 + (2 * n a + 10) ≤ 2 * n a + 10; omega⟩) hS (fun x h => h.elim (fun e => e ▸ hAa) (fun h => h.elim (fun e => e.2 ▸ (hlt.2.2.2 e.1).2.1) (fun h => hAF x (by omega)))) (fun u => []) (fun _ => rfl) (fun u H9 locs hw hP9 hz9 hk9 hS => ?_)
  obtain ⟨g1, g2, g3, g4, g5⟩ := hP9
  have hwt9 : ∀ j, j < n a + 1 → t (va_up (r a) (n a) q j) = ek (t a) := fun j hj => by
    by_cases e : j = n a
    · rw [e, va_up_self]; exact hq
    · rw [va_up_ne _ _ e]; exact hO.elt hk (by omega)
  refine lv_iconst (v := 1) hx hb dJx4a65c_add_9ea2d_23 (by decide) ?_
  exact e_z X hr rfl dJx4a65c_add_9ea2d_24 hS () rfl trivial ⟨_, _, hO.list (b' := u.1) (c' := u.2) (k' := n a + 1) (R' := va_up (r a) (n a) q) (w' := up2 w a 0 (w a 0 + 1)) hk (by show va_at D vwCl (a, .inr (3, [.int (up2 w a 0 (w a 0 + 1) a 0), .ref u.1, .int (nI (n a + 1))])) H9; rw [up2_at]; exact g1) (fun _ => g2) (g5.imp id (fun h => ⟨by omega, hAF _ (by omega), by omega⟩)) g3 g4 hwt9 (fun b hb => up2_ne hb) (fun x h1 h2 h3 => (hk9 x (by omega) (fun h => h.elim h2 (fun h => h.elim h3 (fun h => by omega)))).trans (oq x h2))⟩ ⟨Nat.le_of_ble_eq_true rfl, by show 0 + (2 * n a + 10) ≤ 2 * n a + 10; omega⟩
theorem nI_ofc {x : Int32} (h : ¬ x < 0) : nI x.toNatClampNeg = x := by
  apply Int32.toInt_inj.mp
  have h1 := cl_nn h
  have h2 := x.toInt_lt
  rw [nI_toInt (by omega)]
  omega
abbrev rm_fr  : Room := { frames := 1, cells := 0, slots := 0, locals := 60 }
set_option maxHeartbeats 4000000 in
theorem c_fr (l : Launch) (D : va_G) (tc : Nat → ClassId) (h0 : Nat) (sa : Nat → Nat) (H0 : Heap) (a b k cap : Nat) {m1 x : Int32} {r : Nat → Nat} (hat : va_at D vwCl (a, .inr (3, [.int m1, .ref b, .int (nI k)])) H0) (hrw : va_at D vwCl (b, hrow (tc 9) cap k r) H0) (hab : a ≠ b) (hix : vp_in x k) (hkc : k ≤ cap) (hcap : cap ≤ 1000) (hob : ∀ j, j < k → OB D tc (r j) H0) (hra : ∀ j, j < k → r j ≠ a) (ha0 : h0 ≤ a) (hb0 : h0 ≤ b) : MB (S := Unit) l yJx4a65c_fastRemove_b59b0 cJx4a65c_fastRemove_b59b0 4 (Option.none : Option FieldType) (rm_fr ) (fun x : Nat => x = a ∨ x = b) [.ref a, .ref b, .int x] D tc h0 sa H0 (fun _ => True) (fun _ H1 => va_at D vwCl (a, .inr (3, [.int (m1 + 1), .ref b, .int (nI (k - 1))])) H1 ∧ va_at D vwCl (b, hrow (tc 9) cap (k - 1) (fun j => if j < x.toNatClampNeg then r j else r (j + 1))) H1) (fun _ => none) := by
  refine MB.ofF RJx4a65c [(0, .ref a), (1, .ref b), (2, .int x)] (by decide +kernel) rfl (Nat.le_of_ble_eq_true rfl) rfl ?_
  intro p e s m below meth c ls X hr hin hT hH hS hl
  subst hH
  have hx := X.1
  have hb := X.2.1
  have hown := X.2.2.2.1
  have hU := X.2.2.2.2.1.1
  have hA0 : ∀ x : Nat, (x = a ∨ x = b) → h0 ≤ x := fun x h => h.elim (fun e => e ▸ ha0) (fun e => e ▸ hb0)
  have hn := in_lt hix (by omega)
  have hk1 : nI k - 1 = nI (k - 1) := nI_sub (a := k) (b := 1) (by omega)
  have hxn : x = nI x.toNatClampNeg := (nI_ofc hn.1).symm
  refine lv_aload_n hx hb dJx4a65c_fastRemove_b59b0_0 rfl (lv_at hl 0 rfl) ?_
  refine lv_dup hx hb dJx4a65c_fastRemove_b59b0_1 rfl ?_
  refine x_getv X dJx4a65c_fastRemove_b59b0_2 f_Jx4a65c_63 hat (v := .int m1) rfl ?_
  refine lv_iconst (v := 1) hx hb dJx4a65c_fastRemove_b59b0_5 (by decide) ?_
  refine lv_iadd hx hb dJx4a65c_fastRemove_b59b0_6 ?_
  refine x_putv (A := (fun x : Nat => x = a ∨ x = b)) X dJx4a65c_fastRemove_b59b0_7 f_Jx4a65c_63 hat (Or.inl rfl) hS (Nat.le_of_ble_eq_true rfl) rfl rfl (fun H locs hat oq hz hS => ?_)
  have hrw := hrw.kept (oq b (fun e => hab e.symm))
  have hob : ∀ j, j < k → OB D tc (r j) H := fun j hj => (hob j hj).kept (oq _ (hra j hj))
  refine lv_aload_n hx hb dJx4a65c_fastRemove_b59b0_10 rfl (lv_at hl 0 rfl) ?_
  refine x_getv X dJx4a65c_fastRemove_b59b0_11 f_Jx4a65c_48 hat (v := .int (nI k)) rfl ?_
  refine lv_iconst (v := 1) hx hb dJx4a65c_fastRemove_b59b0_14 (by decide) ?_
  refine lv_isub hx hb dJx4a65c_fastRemove_b59b0_15 ?_
  rw [hk1]
  refine lv_dup hx hb dJx4a65c_fastRemove_b59b0_16 rfl ?_
  refine lv_istore_n (lv' := [(3, .int (nI (k - 1))), (0, .ref a), (1, .ref b), (2, .int x)]) hx hb dJx4a65c_fastRemove_b59b0_17 rfl hl (by decide) rfl (fun ls hl => ?_)
  refine lv_iload_n hx hb dJx4a65c_fastRemove_b59b0_18 rfl (lv_at hl 3 rfl) ?_
  by_cases hlast : nI (k - 1) ≤ x
  · have hxk : x.toNatClampNeg = k - 1 := by
      rw [hxn, Int32.le_iff_toInt_le, nI_toInt (by omega), nI_toInt (by omega)] at hlast
      omega
    refine lv_icmp_le (tgt := 34) hx hb dJx4a65c_fastRemove_b59b0_19 (by decide) (fun _ => ?_) (fun hc0 => absurd hlast hc0)
    refine lv_aload_n hx hb dJx4a65c_fastRemove_b59b0_34 rfl (lv_at hl 2 rfl) ?_
    refine lv_aload_n hx hb dJx4a65c_fastRemove_b59b0_35 rfl (lv_at hl 1 rfl) ?_
    refine lv_iload_n hx hb dJx4a65c_fastRemove_b59b0_36 rfl (lv_at hl 0 rfl) ?_
    refine lv_dup_x1 hx hb dJx4a65c_fastRemove_b59b0_37 rfl rfl ?_
    refine x_putv (A := (fun x : Nat => x = a ∨ x = b)) X dJx4a65c_fastRemove_b59b0_38 f_Jx4a65c_48 hat (Or.inl rfl) hS (Nat.le_of_ble_eq_true rfl) rfl rfl (fun H locs hat oq hz hS => ?_)
    have hrw := hrw.kept (oq b (fun e => hab e.symm))
    refine lv_null hx hb dJx4a65c_fastRemove_b59b0_41 ?_
    refine x_astN (A := (fun x : Nat => x = a ∨ x = b)) X dJx4a65c_fastRemove_b59b0_42 hrw (Or.inr rfl) hS (x := nI (k - 1)) (fun z => z.elim (nI_nn (by omega)) (fun z => by rw [nI_cl (by omega)] at z; omega)) (fun H locs hrw oq hz hS => ?_)
    have hat := hat.kept (oq a hab)
    rw [nI_cl (by omega), rm_row0 (by omega)] at hrw
    exact e_v X hr dJx4a65c_fastRemove_b59b0_43 hS () rfl trivial ⟨hat, by rw [hxk]; exact hrw⟩ ⟨Nat.le_of_ble_eq_true rfl, Nat.le_of_ble_eq_true rfl⟩
  · have hxk : x.toNatClampNeg < k - 1 := by
      have h9 := Int32.not_le.mp hlast
      rw [hxn, Int32.lt_iff_toInt_lt, nI_toInt (by omega), nI_toInt (by omega)] at h9
      omega
    have hx1 : x + 1 = nI (x.toNatClampNeg + 1) := by rw [← nI_1, ← hxn]
    have hmv : nI (k - 1) - x = nI (k - 1 - x.toNatClampNeg) := by rw [← nI_sub (a := k - 1) (b := x.toNatClampNeg) (by omega), ← hxn]
    refine lv_icmp_le (tgt := 34) hx hb dJx4a65c_fastRemove_b59b0_19 (by decide) (fun hc0 => absurd hc0 hlast) (fun _ => ?_)
    refine lv_aload_n hx hb dJx4a65c_fastRemove_b59b0_22 rfl (lv_at hl 2 rfl) ?_
    refine lv_iload_n hx hb dJx4a65c_fastRemove_b59b0_23 rfl (lv_at hl 3 rfl) ?_
    refine lv_iconst (v := 1) hx hb dJx4a65c_fastRemove_b59b0_24 (by decide) ?_
    refine lv_iadd hx hb dJx4a65c_fastRemove_b59b0_25 ?_
    rw [hx1]
    refine lv_aload_n hx hb dJx4a65c_fastRemove_b59b0_26 rfl (lv_at hl 2 rfl) ?_
    refine lv_iload_n hx hb dJx4a65c_fastRemove_b59b0_27 rfl (lv_at hl 3 rfl) ?_
    refine lv_iload_n hx hb dJx4a65c_fastRemove_b59b0_28 rfl (lv_at hl 0 rfl) ?_
    refine lv_iload_n hx hb dJx4a65c_fastRemove_b59b0_29 rfl (lv_at hl 3 rfl) ?_
    refine lv_isub hx hb dJx4a65c_fastRemove_b59b0_30 ?_
    rw [hmv]
    refine va_copyM (ws := [(b, hrow (tc 9) cap k r), (a, .inr (3, [.int (m1 + 1), .ref b, .int (nI k)]))]) (A := (fun x : Nat => x = a ∨ x = b)) hx hb (X.2.2.1.trans hl.1.symm) hown (hU.use w_1815) (X.2.2.2.2.1.2.2.2.2.2.2.nat (by decide)) (hU.use w_1545) (hU.use w_29) X.2.2.2.2.1.2.1 (p2 hrw hat) (d2 (fun e => hab e.symm) (Or.inr rfl) (Or.inl rfl)) hS 0 0 9 9 rfl rfl rfl rfl (nI_nn (by omega)) hn.1 (nI_nn (by omega)) (by rw [nI_cl (by omega), nI_cl (by omega)]; omega) (by rw [nI_cl (by omega)]; omega) (fun i _ y hy => by
        by_cases hi : (nI (x.toNatClampNeg + 1)).toNatClampNeg + i < k
        · rw [if_pos hi] at hy
          cases hy
          exact (hob _ hi).any X.2.2.2.2.1
        · rw [if_neg hi] at hy
          cases hy) (Nat.le_of_ble_eq_true rfl) (Nat.le_of_ble_eq_true rfl) dJx4a65c_fastRemove_b59b0_31 (fun H locs hP hD hS => ?_)
    have hrw := hP 0 _ rfl
    rw [nI_cl (by omega), nI_cl (by omega)] at hrw
    have hat := hP 1 _ rfl
    refine lv_aload_n hx hb dJx4a65c_fastRemove_b59b0_34 rfl (lv_at hl 2 rfl) ?_
    refine lv_aload_n hx hb dJx4a65c_fastRemove_b59b0_35 rfl (lv_at hl 1 rfl) ?_
    refine lv_iload_n hx hb dJx4a65c_fastRemove_b59b0_36 rfl (lv_at hl 0 rfl) ?_
    refine lv_dup_x1 hx hb dJx4a65c_fastRemove_b59b0_37 rfl rfl ?_
    refine x_putv (A := (fun x : Nat => x = a ∨ x = b)) X dJx4a65c_fastRemove_b59b0_38 f_Jx4a65c_48 hat (Or.inl rfl) hS (Nat.le_of_ble_eq_true rfl) rfl rfl (fun H locs hat oq hz hS => ?_)
    have hrw := hrw.kept (oq b (fun e => hab e.symm))
    refine lv_null hx hb dJx4a65c_fastRemove_b59b0_41 ?_
    refine x_astN (A := (fun x : Nat => x = a ∨ x = b)) X dJx4a65c_fastRemove_b59b0_42 hrw (Or.inr rfl) hS (x := nI (k - 1)) (fun z => z.elim (nI_nn (by omega)) (fun z => by rw [nI_cl (by omega)] at z; omega)) (fun H locs hrw oq hz hS => ?_)
    have hat := hat.kept (oq a hab)
    rw [nI_cl (by omega), rm_row (by omega)] at hrw
    exact e_v X hr dJx4a65c_fastRemove_b59b0_43 hS () rfl trivial ⟨hat, hrw⟩ ⟨Nat.le_of_ble_eq_true rfl, Nat.le_of_ble_eq_true rfl⟩
