/-! THE JDK's lists: copies, growth -/
def okc (c : Sc) : Prop := match c with
  | .inl (ci, _) => 13 ≤ ci ∧ ci ≤ 17
  | .inr (t, _, none) => t = 0
  | _ => False
/-- an object of the model at y -/
def OB (D : va_G) (tc : Nat → ClassId) (y : Nat) (H : Heap) : Prop := ∃ (c : Sc) (W : Nat → Int32), okc c ∧ va_at D vwCl (y, s_in tc c W) H
theorem OB.lt {D : va_G} {tc : Nat → ClassId} {y : Nat} {H : Heap} (h : OB D tc y H) : y < H.size := by
  obtain ⟨c, W, -, h⟩ := h
  exact h.lt
theorem OB.kept {D : va_G} {tc : Nat → ClassId} {y : Nat} {H H1 : Heap} (h : OB D tc y H) (hq : H1[y]? = H[y]?) : OB D tc y H1 := by
  obtain ⟨c, W, g, h⟩ := h
  exact ⟨c, W, g, h.kept hq⟩
theorem OB.any {D : va_G} {tc : Nat → ClassId} {y : Nat} {H : Heap} {s : State} (hK : KK D tc s) (h : OB D tc y H) : va_Any "java/lang/Object" s H y := by
  obtain ⟨c, W, g, h⟩ := h
  have hU := hK.1
  have hcast : ∀ {C : String}, Cond.castable C "java/lang/Object" ∈ WX → ∀ comp c0 : ClassId, s.vm.findClass "java/lang/Object" = some comp → s.vm.findClass C = some c0 → s.vm.assignable c0 comp = true := fun hw comp c0 h1 h2 => by
    obtain ⟨c1, t1, f1, f2, f3⟩ := Cond.castable_spec (args := #[]) (hU.use hw)
    cases f1.symm.trans h2
    cases f2.symm.trans h1
    exact f3
  match c, g, h with
  | .inl (ci, fs), g, h =>
    have g : 13 ≤ ci ∧ ci ≤ 17 := g
    rcases (show ci = 13 ∨ ci = 14 ∨ ci = 15 ∨ ci = 16 ∨ ci = 17 by omega) with e | e | e | e | e <;> subst e
    · exact va_rAny (q0 := 0) hK.2.1 (p1 h) rfl rfl (hcast w_2062)
    · exact va_rAny (q0 := 0) hK.2.1 (p1 h) rfl rfl (hcast w_2061)
    · exact va_rAny (q0 := 0) hK.2.1 (p1 h) rfl rfl (hcast w_2058)
    · exact va_rAny (q0 := 0) hK.2.1 (p1 h) rfl rfl (hcast w_2051)
    · exact va_rAny (q0 := 0) hK.2.1 (p1 h) rfl rfl (hcast w_2050)
  | .inr (t, n, none), g, h =>
    have g : t = 0 := g
    subst g
    obtain ⟨kC, hkC, -⟩ := Vm.findClass_spec (nm_int hK)
    exact ⟨_, h, rfl, ⟨kC, hkC⟩, fun comp hc => hcast w_2070 comp (tc 0) hc (nm_int hK)⟩
theorem SB.ob {D : va_G} {tc : Nat → ClassId} {e0 : Nat} {A : Nat → Prop} {t n : Nat → Nat} {r : Nat → Nat → Nat} {w : Dt} {H : Heap} (h : SB D tc e0 A t n r w H) {a y : Nat} (hk : isL (t a) = true) (hy : t y = ek (t a)) : OB D tc y H := by
  obtain ⟨E, cap, h⟩ := h
  have hy0 : t y ≠ 0 := by rw [hy]; exact ek_ne hk
  obtain ⟨c, hc⟩ := h.2.2.2.1 y hy0
  refine ⟨c, w y, ?_, (h.1 y c hc).1⟩
  rw [hy] at hc
  simp only [isL, Bool.or_eq_true, beq_iff_eq] at hk
  rcases hk with ((((e | e) | e) | e) | e) | e <;> rw [e] at hc <;> cases hc <;> first | rfl | exact ⟨by decide, by decide⟩
theorem nI_min {a b : Nat} (ha : a ≤ 100000) (hb : b ≤ 100000) : (if nI b < nI a then nI b else nI a) = nI (min a b) := by
  by_cases h : b < a
  · rw [if_pos ((nI_ltI (by omega) (by omega)).mpr h), Nat.min_eq_right (by omega)]
  · rw [if_neg (fun z => h ((nI_ltI (by omega) (by omega)).mp z)), Nat.min_eq_left (by omega)]
theorem nI_max {a b : Nat} (ha : a ≤ 100000) (hb : b ≤ 100000) : (if nI a < nI b then nI b else nI a) = nI (max a b) := by
  by_cases h : a < b
  · rw [if_pos ((nI_ltI (by omega) (by omega)).mpr h), Nat.max_eq_right (by omega)]
  · rw [if_neg (fun z => h ((nI_ltI (by omega) (by omega)).mp z)), Nat.max_eq_left (by omega)]
theorem nI_nn {n : Nat} (h : n ≤ 100000) : ¬ nI n < 0 := fun z => by
  rw [Int32.lt_iff_toInt_lt, nI_toInt (by omega)] at z
  have : (0 : Int32).toInt = 0 := rfl
  omega
theorem nI_half : ∀ k : Fin 1001, nI k.1 >>> ((1 : Int32) &&& 31) = nI (k.1 / 2) := by decide +kernel
theorem nI_cl {n : Nat} (h : n ≤ 100000) : (nI n).toNatClampNeg = n := nI_clamp (by omega)
def arr9 (tc : Nat → ClassId) (N : Nat) (F : Nat → Option Nat) : va_E := .inl (tc 9, N, .inr (.inr (.inr (.inr F))))

abbrev rm_cp3 (N : Nat) : Room := { frames := 1, cells := 1, slots := N, locals := 60 }
set_option maxHeartbeats 4000000 in
theorem c_cp3 (l : Launch) (D : va_G) (tc : Nat → ClassId) (h0 : Nat) (sa : Nat → Nat) (H0 : Heap) (b N cap : Nat) {F : Nat → Option Nat} (hat : va_at D vwCl (b, arr9 tc cap F) H0) (hN : N ≤ 100000) (hcap : cap ≤ 100000) (hob : ∀ i y, F i = some y → OB D tc y H0) (hb0 : h0 ≤ b) (hh0 : ∀ x, H0.size ≤ x → h0 ≤ x) : MB (S := Nat) l yJ7_copyOf_6403c cJ7_copyOf_6403c 4 (Option.some (FieldType.array (FieldType.object "java/lang/Object"))) (rm_cp3 N) (fun x : Nat => x = b ∨ H0.size ≤ x) [.ref b, .int (nI N), .ref (sa 30)] D tc h0 sa H0 (fun _ => True) (fun q H1 => H0.size ≤ q ∧ q < H1.size ∧ va_at D vwCl (q, arr9 tc N (fun j => if j < min cap N then F j else none)) H1 ∧ va_at D vwCl (b, arr9 tc cap F) H1) (fun q => some (.ref q)) := by
  refine MB.ofF RJ7 [(0, .ref b), (1, .int (nI N)), (2, .ref (sa 30))] (by decide +kernel) rfl (Nat.le_of_ble_eq_true rfl) rfl ?_
  intro p e s m below meth c ls X hr hin hT hH hS hl
  subst hH
  have hx := X.1
  have hb := X.2.1
  have hown := X.2.2.2.1
  have hU := X.2.2.2.2.1.1
  have hA0 : ∀ x : Nat, (x = b ∨ s.heap.size ≤ x) → h0 ≤ x := fun x h => h.elim (fun e => e ▸ hb0) (hh0 x)
  have hblt := hat.lt
  refine lv_aload_n hx hb dJ7_copyOf_6403c_0 rfl (lv_at hl 2 rfl) ?_
  refine va_ldcM hx hb hown (hU.use w_1540) hT.2.2.2.2.2.2.2.2.2.2.2.2.2.2.2.2.2 dJ7_copyOf_6403c_1 ?_
  refine lv_acmp_ne (tgt := 13) (rx := some (sa 30)) (ry := some (sa 30)) hx hb dJ7_copyOf_6403c_3 (by decide) (fun hc0 => absurd rfl hc0) (fun _ => ?_)
  refine lv_iload_n hx hb dJ7_copyOf_6403c_6 rfl (lv_at hl 1 rfl) ?_
  refine x_newq (A := (fun x : Nat => x = b ∨ s.heap.size ≤ x)) X (C := "java/lang/Object") (by decide) w_1542 (k := 9) rfl (nI_nn hN) (nI_cl hN) (by omega) hS (fun x h => Or.inr h) ⟨Nat.le_of_ble_eq_true rfl, (by show 0 + N ≤ N; omega)⟩ dJ7_copyOf_6403c_7 (fun q H hq hatq hAq hz hqz o1 hS => ?_)
  have hat := hat.kept (o1 b hblt)
  have hob : ∀ i y, F i = some y → OB D tc y H := fun i y h => (hob i y h).kept (o1 y (hob i y h).lt)
  have hbq : b ≠ q := fun e => by omega
  refine lv_goto (tgt := 24) hx hb dJ7_copyOf_6403c_10 (by decide) ?_
  refine lv_astore_n (lv' := [(3, .ref q), (0, .ref b), (1, .int (nI N)), (2, .ref (sa 30))]) hx hb dJ7_copyOf_6403c_24 rfl hl (by decide) rfl (fun ls hl => ?_)
  refine lv_aload_n hx hb dJ7_copyOf_6403c_25 rfl (lv_at hl 1 rfl) ?_
  refine lv_iconst (v := 0) hx hb dJ7_copyOf_6403c_26 (by decide) ?_
  refine lv_aload_n hx hb dJ7_copyOf_6403c_27 rfl (lv_at hl 0 rfl) ?_
  refine lv_iconst (v := 0) hx hb dJ7_copyOf_6403c_28 (by decide) ?_
  refine lv_aload_n hx hb dJ7_copyOf_6403c_29 rfl (lv_at hl 1 rfl) ?_
  refine x_len X dJ7_copyOf_6403c_30 hat ?_
  refine lv_iload_n hx hb dJ7_copyOf_6403c_31 rfl (lv_at hl 2 rfl) ?_
  refine g_min X hl.1 dJ7_copyOf_6403c_32 w_1543 w_607 w_21 w_608 ⟨Nat.le_of_ble_eq_true rfl, Nat.le_of_ble_eq_true rfl, Nat.le_of_ble_eq_true rfl, (by show 0 + N ≤ N; omega)⟩ ?_
  rw [nI_min hcap hN]
  refine va_copyM (ws := [(b, arr9 tc cap F), (q, arr9 tc N (fun _ => none))]) (A := (fun x : Nat => x = b ∨ s.heap.size ≤ x)) hx hb (X.2.2.1.trans hl.1.symm) hown (hU.use w_1544) (X.2.2.2.2.1.2.2.2.2.2.2.nat (by decide)) (hU.use w_1545) (hU.use w_29) X.2.2.2.2.1.2.1 (p2 hat hatq) (d2 hbq (Or.inl rfl) hAq) hS 0 1 9 9 rfl rfl rfl rfl (by decide) (by decide) (nI_nn (by omega)) (by rw [nI_cl (by omega)]; show 0 + _ ≤ _; omega) (by rw [nI_cl (by omega)]; show 0 + _ ≤ _; omega) (fun i _ y hy => (hob _ y hy).any X.2.2.2.2.1) (Nat.le_of_ble_eq_true rfl) (Nat.le_of_ble_eq_true rfl) dJ7_copyOf_6403c_35 (fun H locs hP hD hS => ?_)
  have hq9 := hP 1 _ rfl
  have hb9 := hP 0 _ rfl
  have hfe : va_cpy F (fun _ => none) (0 : Int32).toNatClampNeg (0 : Int32).toNatClampNeg (nI (min cap N)).toNatClampNeg = (fun j => if j < min cap N then F j else none) := by
    rw [nI_cl (by omega)]
    funext j
    show (if 0 ≤ j ∧ j < 0 + min cap N then F (0 + (j - 0)) else none) = _
    by_cases h : j < min cap N
    · rw [if_pos ⟨by omega, by omega⟩, if_pos h]
      congr 1
      omega
    · rw [if_neg (fun z => h (by omega)), if_neg h]
  rw [hfe] at hq9
  have hz9 := hS.1
  refine lv_aload_n hx hb dJ7_copyOf_6403c_38 rfl (lv_at hl 0 rfl) ?_
  exact e_a X hr (Or.inr ⟨_, rfl⟩) (Or.inr ⟨_, rfl⟩) dJ7_copyOf_6403c_39 hS q rfl trivial ⟨hq, hq9.lt, hq9, hb9⟩ ⟨Nat.le_of_ble_eq_true rfl, by show 0 + N ≤ N; omega⟩
abbrev rm_cp2 (N : Nat) : Room := { frames := 2, cells := 1, slots := N, locals := 83 }
set_option maxHeartbeats 4000000 in
theorem c_cp2 (l : Launch) (D : va_G) (tc : Nat → ClassId) (h0 : Nat) (sa : Nat → Nat) (H0 : Heap) (b N cap : Nat) {F : Nat → Option Nat} (hat : va_at D vwCl (b, arr9 tc cap F) H0) (hN : N ≤ 100000) (hcap : cap ≤ 100000) (hob : ∀ i y, F i = some y → OB D tc y H0) (hb0 : h0 ≤ b) (hh0 : ∀ x, H0.size ≤ x → h0 ≤ x) : MB (S := Nat) l yJ7_copyOf_1904c cJ7_copyOf_1904c 2 (Option.some (FieldType.array (FieldType.object "java/lang/Object"))) (rm_cp2 N) (fun x : Nat => x = b ∨ H0.size ≤ x) [.ref b, .int (nI N)] D tc h0 sa H0 (fun _ => True) (fun q H1 => H0.size ≤ q ∧ q < H1.size ∧ va_at D vwCl (q, arr9 tc N (fun j => if j < min cap N then F j else none)) H1 ∧ va_at D vwCl (b, arr9 tc cap F) H1) (fun q => some (.ref q)) := by
  refine MB.ofF RJ7 [(0, .ref b), (1, .int (nI N))] (by decide +kernel) rfl (Nat.le_of_ble_eq_true rfl) rfl ?_
  intro p e s m below meth c ls X hr hin hT hH hS hl
  subst hH
  have hx := X.1
  have hb := X.2.1
  have hown := X.2.2.2.1
  have hU := X.2.2.2.2.1.1
  have hA0 : ∀ x : Nat, (x = b ∨ s.heap.size ≤ x) → h0 ≤ x := fun x h => h.elim (fun e => e ▸ hb0) (hh0 x)
  refine lv_aload_n hx hb dJ7_copyOf_1904c_0 rfl (lv_at hl 0 rfl) ?_
  refine lv_iload_n hx hb dJ7_copyOf_1904c_1 rfl (lv_at hl 1 rfl) ?_
  refine lv_aload_n hx hb dJ7_copyOf_1904c_2 rfl (lv_at hl 0 rfl) ?_
  have hnm : s.vm.findClass "[Ljava/lang/Object;" = some (tc 9) := by obtain ⟨-, -, -, -, -, h4⟩ := (X.2.2.2.2.1.2.1.2 9 _ rfl).2; exact h4
  refine va_getC hx hb (X.2.2.1.trans hl.1.symm) hown (hU.use w_1510) (va_Dc.use X.2.2.2.2.1.2.2.2.2.2.2.2.1) (hU.use w_2067) (hU.use w_1511) (X.2.2.2.2.1.2.2.2.2.2.2.nat (by decide)) hT.2.2.2.2.2.2.2.2.2.2.2.2.2.2.2.2.2 ⟨_, hat, rfl, hnm⟩ (Nat.le_of_ble_eq_true rfl) (Nat.le_of_ble_eq_true rfl) dJ7_copyOf_1904c_3 ?_
  refine g_after (st0 := [.ref (sa 30), .int (nI N), .ref b]) (rest := []) (g_S X m_J7_300 (c_cp3 l D tc h0 sa s.heap b N cap hat hN hcap hob hb0 hh0) hT hS hA0 dJ7_copyOf_1904c_6 hl.1 rfl rfl ⟨Nat.le_of_ble_eq_true rfl, Nat.le_of_ble_eq_true rfl⟩ (Nat.le_of_ble_eq_true rfl) ⟨Nat.le_of_ble_eq_true rfl, by show 0 + N ≤ N; omega⟩) hS (fun _ h => h) (fun u => .ref u :: []) (fun _ => rfl) (fun u H9 locs hw hP9 hz9 hk9 hS => ?_)
  exact e_a X hr (Or.inr ⟨_, rfl⟩) (Or.inr ⟨_, rfl⟩) dJ7_copyOf_1904c_9 hS u rfl trivial hP9 ⟨Nat.le_of_ble_eq_true rfl, by show 0 + N ≤ N; omega⟩
abbrev rm_cp3e (N : Nat) : Room := { frames := 1, cells := 1, slots := N, locals := 60 }
set_option maxHeartbeats 4000000 in
theorem c_cp3e (l : Launch) (D : va_G) (tc : Nat → ClassId) (h0 : Nat) (sa : Nat → Nat) (H0 : Heap) (N : Nat) (hN : N ≤ 100000) (hh0 : ∀ x, H0.size ≤ x → h0 ≤ x) : MB (S := Nat) l yJ7_copyOf_6403c cJ7_copyOf_6403c 4 (Option.some (FieldType.array (FieldType.object "java/lang/Object"))) (rm_cp3e N) (fun x : Nat => H0.size ≤ x) [.ref (sa 3), .int (nI N), .ref (sa 30)] D tc h0 sa H0 (fun _ => True) (fun q H1 => H0.size ≤ q ∧ q < H1.size ∧ va_at D vwCl (q, arr9 tc N (fun _ => none)) H1) (fun q => some (.ref q)) := by
  refine MB.ofF RJ7 [(0, .ref (sa 3)), (1, .int (nI N)), (2, .ref (sa 30))] (by decide +kernel) rfl (Nat.le_of_ble_eq_true rfl) rfl ?_
  intro p e s m below meth c ls X hr hin hT hH hS hl
  subst hH
  have hx := X.1
  have hb := X.2.1
  have hown := X.2.2.2.1
  have hU := X.2.2.2.2.1.1
  have hA0 : ∀ x : Nat, s.heap.size ≤ x → h0 ≤ x := hh0
  refine lv_aload_n hx hb dJ7_copyOf_6403c_0 rfl (lv_at hl 2 rfl) ?_
  refine va_ldcM hx hb hown (hU.use w_1540) hT.2.2.2.2.2.2.2.2.2.2.2.2.2.2.2.2.2 dJ7_copyOf_6403c_1 ?_
  refine lv_acmp_ne (tgt := 13) (rx := some (sa 30)) (ry := some (sa 30)) hx hb dJ7_copyOf_6403c_3 (by decide) (fun hc0 => absurd rfl hc0) (fun _ => ?_)
  refine lv_iload_n hx hb dJ7_copyOf_6403c_6 rfl (lv_at hl 1 rfl) ?_
  refine x_newq (A := (fun x : Nat => s.heap.size ≤ x)) X (C := "java/lang/Object") (by decide) w_1542 (k := 9) rfl (nI_nn hN) (nI_cl hN) (by omega) hS (fun x h => h) ⟨Nat.le_of_ble_eq_true rfl, (by show 0 + N ≤ N; omega)⟩ dJ7_copyOf_6403c_7 (fun q H hq hatq hAq hz hqz o1 hS => ?_)
  refine lv_goto (tgt := 24) hx hb dJ7_copyOf_6403c_10 (by decide) ?_
  refine lv_astore_n (lv' := [(3, .ref q), (0, .ref (sa 3)), (1, .int (nI N)), (2, .ref (sa 30))]) hx hb dJ7_copyOf_6403c_24 rfl hl (by decide) rfl (fun ls hl => ?_)
  refine lv_aload_n hx hb dJ7_copyOf_6403c_25 rfl (lv_at hl 1 rfl) ?_
  refine lv_iconst (v := 0) hx hb dJ7_copyOf_6403c_26 (by decide) ?_
  refine lv_aload_n hx hb dJ7_copyOf_6403c_27 rfl (lv_at hl 0 rfl) ?_
  refine lv_iconst (v := 0) hx hb dJ7_copyOf_6403c_28 (by decide) ?_
  refine lv_aload_n hx hb dJ7_copyOf_6403c_29 rfl (lv_at hl 1 rfl) ?_
  refine g_slen X dJ7_copyOf_6403c_30 hT.2.2.2.2.2.2.2.2.2.2.1 hS hA0 ?_
  refine lv_iload_n hx hb dJ7_copyOf_6403c_31 rfl (lv_at hl 2 rfl) ?_
  refine g_min X hl.1 dJ7_copyOf_6403c_32 w_1543 w_607 w_21 w_608 ⟨Nat.le_of_ble_eq_true rfl, Nat.le_of_ble_eq_true rfl, Nat.le_of_ble_eq_true rfl, (by show 0 + N ≤ N; omega)⟩ ?_
  rw [nI_min (by omega) hN]
  refine va_copyg (E0 := "java/lang/Object") (ws := [(q, arr9 tc N (fun _ => none))]) (A := (fun x : Nat => s.heap.size ≤ x)) hx hb (X.2.2.1.trans hl.1.symm) hown (hU.use w_1544) (X.2.2.2.2.1.2.2.2.2.2.2.nat (by decide)) (hU.use w_1545) (hU.use w_29) X.2.2.2.2.1.2.1 (p1 hatq) ⟨fun i j x y hi hj _ => by have h1 : i < 1 := (List.getElem?_eq_some_iff.mp hi).1; have h2 : j < 1 := (List.getElem?_eq_some_iff.mp hj).1; omega, fun k x hk => by have h1 : k < 1 := (List.getElem?_eq_some_iff.mp hk).1; rw [show k = 0 by omega] at hk; cases hk; exact hAq⟩ hS 0 9 (hT.2.2.2.2.2.2.2.2.2.2.1.narrow hA0) rfl rfl (by decide) (by decide) (nI_nn (by omega)) (by rw [nI_cl (by omega)]; show 0 + _ ≤ _; omega) (by rw [nI_cl (by omega)]; show 0 + _ ≤ _; omega) (Nat.le_of_ble_eq_true rfl) (Nat.le_of_ble_eq_true rfl) dJ7_copyOf_6403c_35 (fun H locs hP hD hS => ?_)
  have hq9 := hP 0 _ rfl
  have hfe : va_cpy (fun _ => none) (fun _ => none) (0 : Int32).toNatClampNeg (0 : Int32).toNatClampNeg (nI (min 0 N)).toNatClampNeg = (fun _ => none : Nat → Option Nat) := by funext j; unfold va_cpy; split <;> rfl
  rw [hfe] at hq9
  have hz9 := hS.1
  refine lv_aload_n hx hb dJ7_copyOf_6403c_38 rfl (lv_at hl 0 rfl) ?_
  exact e_a X hr (Or.inr ⟨_, rfl⟩) (Or.inr ⟨_, rfl⟩) dJ7_copyOf_6403c_39 hS q rfl trivial ⟨hq, hq9.lt, hq9⟩ ⟨Nat.le_of_ble_eq_true rfl, by show 0 + N ≤ N; omega⟩
abbrev rm_cp2e (N : Nat) : Room := { frames := 2, cells := 1, slots := N, locals := 83 }
set_option maxHeartbeats 4000000 in
theorem c_cp2e (l : Launch) (D : va_G) (tc : Nat → ClassId) (h0 : Nat) (sa : Nat → Nat) (H0 : Heap) (N : Nat) (hN : N ≤ 100000) (hh0 : ∀ x, H0.size ≤ x → h0 ≤ x) : MB (S := Nat) l yJ7_copyOf_1904c cJ7_copyOf_1904c 2 (Option.some (FieldType.array (FieldType.object "java/lang/Object"))) (rm_cp2e N) (fun x : Nat => H0.size ≤ x) [.ref (sa 3), .int (nI N)] D tc h0 sa H0 (fun _ => True) (fun q H1 => H0.size ≤ q ∧ q < H1.size ∧ va_at D vwCl (q, arr9 tc N (fun _ => none)) H1) (fun q => some (.ref q)) := by
  refine MB.ofF RJ7 [(0, .ref (sa 3)), (1, .int (nI N))] (by decide +kernel) rfl (Nat.le_of_ble_eq_true rfl) rfl ?_
  intro p e s m below meth c ls X hr hin hT hH hS hl
  subst hH
  have hx := X.1
  have hb := X.2.1
  have hown := X.2.2.2.1
  have hU := X.2.2.2.2.1.1
  have hA0 : ∀ x : Nat, s.heap.size ≤ x → h0 ≤ x := hh0
  refine lv_aload_n hx hb dJ7_copyOf_1904c_0 rfl (lv_at hl 0 rfl) ?_
  refine lv_iload_n hx hb dJ7_copyOf_1904c_1 rfl (lv_at hl 1 rfl) ?_
  refine lv_aload_n hx hb dJ7_copyOf_1904c_2 rfl (lv_at hl 0 rfl) ?_
  obtain ⟨ce9, g1, g2, g3, -⟩ := hT.2.2.2.2.2.2.2.2.2.2.2.1
  refine va_getC hx hb (X.2.2.1.trans hl.1.symm) hown (hU.use w_1510) (va_Dc.use X.2.2.2.2.1.2.2.2.2.2.2.2.1) (hU.use w_2067) (hU.use w_1511) (X.2.2.2.2.1.2.2.2.2.2.2.nat (by decide)) hT.2.2.2.2.2.2.2.2.2.2.2.2.2.2.2.2.2 ⟨ce9, g1, g2, g3⟩ (Nat.le_of_ble_eq_true rfl) (Nat.le_of_ble_eq_true rfl) dJ7_copyOf_1904c_3 ?_
  refine g_after (st0 := [.ref (sa 30), .int (nI N), .ref (sa 3)]) (rest := []) (g_S X m_J7_300 (c_cp3e l D tc h0 sa s.heap N hN hh0) hT hS hA0 dJ7_copyOf_1904c_6 hl.1 rfl rfl ⟨Nat.le_of_ble_eq_true rfl, Nat.le_of_ble_eq_true rfl⟩ (Nat.le_of_ble_eq_true rfl) ⟨Nat.le_of_ble_eq_true rfl, by show 0 + N ≤ N; omega⟩) hS (fun _ h => h) (fun u => .ref u :: []) (fun _ => rfl) (fun u H9 locs hw hP9 hz9 hk9 hS => ?_)
  exact e_a X hr (Or.inr ⟨_, rfl⟩) (Or.inr ⟨_, rfl⟩) dJ7_copyOf_1904c_9 hS u rfl trivial hP9 ⟨Nat.le_of_ble_eq_true rfl, by show 0 + N ≤ N; omega⟩
theorem nI_sub {a b : Nat} (h : b ≤ a) : nI a - nI b = nI (a - b) := by
  have e : nI a = nI (a - b) + nI b := by rw [nI_add]; congr 1; omega
  rw [e, Int32.add_sub_cancel]
abbrev rm_gr1 (M cap : Nat) : Room := { frames := 3, cells := 1, slots := (cap + max (M - cap) (cap / 2)), locals := 104 }
set_option maxHeartbeats 4000000 in
theorem c_gr1 (l : Launch) (D : va_G) (tc : Nat → ClassId) (h0 : Nat) (sa : Nat → Nat) (H0 : Heap) (a b M cap : Nat) {m1 z1 : Int32} {F : Nat → Option Nat} (hat : va_at D vwCl (a, .inr (3, [.int m1, .ref b, .int z1])) H0) (hrw : va_at D vwCl (b, arr9 tc cap F) H0) (hab : a ≠ b) (hcz : 0 < cap) (hcM : cap < M) (hcap : cap ≤ 1000) (hM : M ≤ 2000) (hob : ∀ i y, F i = some y → OB D tc y H0) (ha0 : h0 ≤ a) (hb0 : h0 ≤ b) (hh0 : ∀ x, H0.size ≤ x → h0 ≤ x) : MB (S := Nat) l yJx4a65c_grow_92f84 cJx4a65c_grow_92f84 4 (Option.some (FieldType.array (FieldType.object "java/lang/Object"))) (rm_gr1 M cap) (fun x : Nat => x = a ∨ x = b ∨ H0.size ≤ x) [.ref a, .int (nI M)] D tc h0 sa H0 (fun _ => True) (fun q H1 => H0.size ≤ q ∧ q < H1.size ∧ va_at D vwCl (q, arr9 tc (cap + max (M - cap) (cap / 2)) (fun j => if j < cap then F j else none)) H1 ∧ va_at D vwCl (a, .inr (3, [.int m1, .ref q, .int z1])) H1) (fun q => some (.ref q)) := by
  refine MB.ofF RJx4a65c [(0, .ref a), (1, .int (nI M))] (by decide +kernel) rfl (Nat.le_of_ble_eq_true rfl) rfl ?_
  intro p e s m below meth c ls X hr hin hT hH hS hl
  subst hH
  have hx := X.1
  have hb := X.2.1
  have hown := X.2.2.2.1
  have hU := X.2.2.2.2.1.1
  have hatl := hat.lt
  have hA0 : ∀ x : Nat, (x = a ∨ x = b ∨ s.heap.size ≤ x) → h0 ≤ x := fun x h => h.elim (fun e => e ▸ ha0) (fun h => h.elim (fun e => e ▸ hb0) (hh0 x))
  have hnl : nI cap + (if nI M - nI cap < nI cap >>> ((1 : Int32) &&& 31) then nI cap >>> ((1 : Int32) &&& 31) else nI M - nI cap) = nI (cap + max (M - cap) (cap / 2)) := by
    rw [nI_half ⟨cap, by omega⟩, nI_sub (by omega), nI_max (by omega) (by omega), nI_add]
  refine lv_aload_n hx hb dJx4a65c_grow_92f84_0 rfl (lv_at hl 0 rfl) ?_
  refine x_getv X dJx4a65c_grow_92f84_1 f_Jx4a65c_9 hat (v := .ref b) rfl ?_
  refine x_len X dJx4a65c_grow_92f84_4 hrw ?_
  refine lv_istore_n (lv' := [(2, .int (nI cap)), (0, .ref a), (1, .int (nI M))]) hx hb dJx4a65c_grow_92f84_5 rfl hl (by decide) rfl (fun ls hl => ?_)
  refine lv_iload_n hx hb dJx4a65c_grow_92f84_6 rfl (lv_at hl 0 rfl) ?_
  refine lv_if_gt (tgt := 20) hx hb dJx4a65c_grow_92f84_7 (by decide) (fun _ => ?_) (fun hc0 => absurd ((nI_ltI (a := 0) (by omega) (by omega)).mpr hcz) hc0)
  refine lv_iload_n hx hb dJx4a65c_grow_92f84_20 rfl (lv_at hl 0 rfl) ?_
  refine lv_iload_n hx hb dJx4a65c_grow_92f84_21 rfl (lv_at hl 2 rfl) ?_
  refine lv_iload_n hx hb dJx4a65c_grow_92f84_22 rfl (lv_at hl 0 rfl) ?_
  refine lv_isub hx hb dJx4a65c_grow_92f84_23 ?_
  refine lv_iload_n hx hb dJx4a65c_grow_92f84_24 rfl (lv_at hl 0 rfl) ?_
  refine lv_iconst (v := 1) hx hb dJx4a65c_grow_92f84_25 (by decide) ?_
  refine lv_ishr hx hb dJx4a65c_grow_92f84_26 ?_
  refine g_after (st0 := [.int (nI cap >>> ((1 : Int32) &&& 31)), .int ((nI M) - (nI cap)), .int (nI cap)]) (rest := []) (g_S X m_Jx4a65c_73 (c_nl l D tc h0 sa s.heap (o9 := nI cap) (g9 := nI M - nI cap) (p9 := nI cap >>> ((1 : Int32) &&& 31)) (by rw [hnl]; exact fun z => absurd ((nI_ltI (a := 0) (by omega) (by omega)).mpr (show 0 < (cap + max (M - cap) (cap / 2)) by omega)) (Int32.not_lt.mpr z)) (by rw [hnl]; exact fun z => by rw [Int32.lt_iff_toInt_lt, nI_toInt (by omega)] at z; have : (2147483639 : Int32).toInt = 2147483639 := rfl; omega)) hT hS hA0 dJx4a65c_grow_92f84_27 hl.1 rfl rfl ⟨Nat.le_of_ble_eq_true rfl, Nat.le_of_ble_eq_true rfl⟩ (Nat.le_of_ble_eq_true rfl) ⟨Nat.le_of_ble_eq_true rfl, Nat.le_of_ble_eq_true rfl⟩) hS (fun _ h => h.elim) (fun u => .int (nI cap + (if nI M - nI cap < nI cap >>> ((1 : Int32) &&& 31) then nI cap >>> ((1 : Int32) &&& 31) else nI M - nI cap)) :: []) (fun _ => rfl) (fun u H9 locs hw hP9 hz9 hk9 hS => ?_)
  have e9 : H9 = _ := hP9
  rw [e9] at hS ⊢
  rw [hnl]
  refine lv_istore_n (lv' := [(3, .int (nI (cap + max (M - cap) (cap / 2)))), (2, .int (nI cap)), (0, .ref a), (1, .int (nI M))]) hx hb dJx4a65c_grow_92f84_30 rfl hl (by decide) rfl (fun ls hl => ?_)
  refine lv_aload_n hx hb dJx4a65c_grow_92f84_31 rfl (lv_at hl 2 rfl) ?_
  refine lv_aload_n hx hb dJx4a65c_grow_92f84_32 rfl (lv_at hl 2 rfl) ?_
  refine x_getv X dJx4a65c_grow_92f84_33 f_Jx4a65c_9 hat (v := .ref b) rfl ?_
  refine lv_iload_n hx hb dJx4a65c_grow_92f84_36 rfl (lv_at hl 0 rfl) ?_
  refine g_after (st0 := [.int (nI (cap + max (M - cap) (cap / 2))), .ref b, .ref a]) (rest := [.ref a]) (g_S X m_Jx4a65c_66 (c_cp2 l D tc h0 sa s.heap b (cap + max (M - cap) (cap / 2)) cap hrw (by omega) (by omega) hob hb0 hh0) hT hS hA0 dJx4a65c_grow_92f84_37 hl.1 rfl rfl ⟨Nat.le_of_ble_eq_true rfl, Nat.le_of_ble_eq_true rfl⟩ (Nat.le_of_ble_eq_true rfl) ⟨Nat.le_of_ble_eq_true rfl, by show 0 + (cap + max (M - cap) (cap / 2)) ≤ (cap + max (M - cap) (cap / 2)); omega⟩) hS (fun x h => h.elim (fun e => Or.inr (Or.inl e)) (fun h => Or.inr (Or.inr h))) (fun u => .ref u :: [.ref a]) (fun _ => rfl) (fun u H9 locs hw hP9 hz9 hk9 hS => ?_)
  obtain ⟨hq1, hq2, hq3, hq4⟩ := hP9
  have hat := hat.kept (hk9 a hat.lt (fun h => h.elim hab (fun h => by have := hat.lt; omega)))
  rw [Nat.min_eq_left (show cap ≤ (cap + max (M - cap) (cap / 2)) by omega)] at hq3
  have hau : u ≠ a := fun e => by omega
  refine lv_dup_x1 hx hb dJx4a65c_grow_92f84_40 rfl rfl ?_
  refine x_putv (A := (fun x : Nat => x = a ∨ x = b ∨ s.heap.size ≤ x)) X dJx4a65c_grow_92f84_41 f_Jx4a65c_9 hat (Or.inl rfl) hS (Nat.le_of_ble_eq_true rfl) rfl rfl (fun H locs hat oq hz hS => ?_)
  have hq3 := hq3.kept (oq u hau)
  exact e_a X hr (Or.inr ⟨_, rfl⟩) (Or.inr ⟨_, rfl⟩) dJx4a65c_grow_92f84_44 hS u rfl trivial ⟨hq1, hq3.lt, hq3, hat⟩ ⟨Nat.le_of_ble_eq_true rfl, by show 0 + 0 + (cap + max (M - cap) (cap / 2)) ≤ (cap + max (M - cap) (cap / 2)); omega⟩
abbrev rm_gr1e (M : Nat) : Room := { frames := 1, cells := 1, slots := (max 10 M), locals := 21 }
set_option maxHeartbeats 4000000 in
theorem c_gr1e (l : Launch) (D : va_G) (tc : Nat → ClassId) (h0 : Nat) (sa : Nat → Nat) (H0 : Heap) (a M : Nat) {m1 z1 : Int32} (hat : va_at D vwCl (a, .inr (3, [.int m1, .ref (sa 3), .int z1])) H0) (hM : M ≤ 2000) (ha0 : h0 ≤ a) (hh0 : ∀ x, H0.size ≤ x → h0 ≤ x) : MB (S := Nat) l yJx4a65c_grow_92f84 cJx4a65c_grow_92f84 4 (Option.some (FieldType.array (FieldType.object "java/lang/Object"))) (rm_gr1e M) (fun x : Nat => x = a ∨ H0.size ≤ x) [.ref a, .int (nI M)] D tc h0 sa H0 (fun _ => True) (fun q H1 => H0.size ≤ q ∧ q < H1.size ∧ va_at D vwCl (q, arr9 tc (max 10 M) (fun _ => none)) H1 ∧ va_at D vwCl (a, .inr (3, [.int m1, .ref q, .int z1])) H1) (fun q => some (.ref q)) := by
  refine MB.ofF RJx4a65c [(0, .ref a), (1, .int (nI M))] (by decide +kernel) rfl (Nat.le_of_ble_eq_true rfl) rfl ?_
  intro p e s m below meth c ls X hr hin hT hH hS hl
  subst hH
  have hx := X.1
  have hb := X.2.1
  have hown := X.2.2.2.1
  have hU := X.2.2.2.2.1.1
  have hA0 : ∀ x : Nat, (x = a ∨ s.heap.size ≤ x) → h0 ≤ x := fun x h => h.elim (fun e => e ▸ ha0) (hh0 x)
  have hatl := hat.lt
  refine lv_aload_n hx hb dJx4a65c_grow_92f84_0 rfl (lv_at hl 0 rfl) ?_
  refine x_getv X dJx4a65c_grow_92f84_1 f_Jx4a65c_9 hat (v := .ref (sa 3)) rfl ?_
  refine g_slen X dJx4a65c_grow_92f84_4 hT.2.2.2.2.2.2.2.2.2.2.1 hS hA0 ?_
  refine lv_istore_n (lv' := [(2, .int (nI 0)), (0, .ref a), (1, .int (nI M))]) hx hb dJx4a65c_grow_92f84_5 rfl hl (by decide) rfl (fun ls hl => ?_)
  refine lv_iload_n hx hb dJx4a65c_grow_92f84_6 rfl (lv_at hl 0 rfl) ?_
  refine lv_if_gt (tgt := 20) hx hb dJx4a65c_grow_92f84_7 (by decide) (fun hc0 => absurd hc0 (show ¬ (0 : Int32) < nI 0 by decide)) (fun _ => ?_)
  refine lv_aload_n hx hb dJx4a65c_grow_92f84_10 rfl (lv_at hl 1 rfl) ?_
  refine x_getv X dJx4a65c_grow_92f84_11 f_Jx4a65c_9 hat (v := .ref (sa 3)) rfl ?_
  refine g_gets X dJx4a65c_grow_92f84_14 w_1173 hT.2.2.2.2.2.2.2.2.1 hS hA0 ?_
  refine lv_acmp_eq (tgt := 45) (rx := some (sa 3)) (ry := some (sa 3)) hx hb dJx4a65c_grow_92f84_17 (by decide) (fun _ => ?_) (fun hc0 => absurd rfl hc0)
  refine lv_aload_n hx hb dJx4a65c_grow_92f84_45 rfl (lv_at hl 1 rfl) ?_
  refine lv_bipush (v := 10) hx hb dJx4a65c_grow_92f84_46 (by decide) ?_
  refine lv_iload_n hx hb dJx4a65c_grow_92f84_48 rfl (lv_at hl 2 rfl) ?_
  refine g_max X hl.1 dJx4a65c_grow_92f84_49 w_1547 w_604 w_21 w_605 ⟨Nat.le_of_ble_eq_true rfl, Nat.le_of_ble_eq_true rfl, Nat.le_of_ble_eq_true rfl, Nat.le_of_ble_eq_true rfl⟩ ?_
  have hmx : (if (10 : Int32) < nI M then nI M else 10) = nI (max 10 M) := nI_max (a := 10) (by omega) (by omega)
  rw [hmx]
  refine x_newq (A := (fun x : Nat => x = a ∨ s.heap.size ≤ x)) X (C := "java/lang/Object") (by decide) w_1548 (k := 9) rfl (nI_nn (show max 10 M ≤ 100000 by omega)) (nI_cl (show max 10 M ≤ 100000 by omega)) (by omega) hS (fun x h => Or.inr h) ⟨Nat.le_of_ble_eq_true rfl, (by show 0 + max 10 M ≤ max 10 M; omega)⟩ dJx4a65c_grow_92f84_52 (fun q H hq hatq hAq hz hqz o1 hS => ?_)
  have hat := hat.kept (o1 a hat.lt)
  have haq : q ≠ a := fun e => by have := hat.lt; have h2 := hq; have h3 := hatl; omega
  refine lv_dup_x1 hx hb dJx4a65c_grow_92f84_55 rfl rfl ?_
  refine x_putv (A := (fun x : Nat => x = a ∨ s.heap.size ≤ x)) X dJx4a65c_grow_92f84_56 f_Jx4a65c_9 hat (Or.inl rfl) hS (Nat.le_of_ble_eq_true rfl) rfl rfl (fun H locs hat oq hz hS => ?_)
  have hatq := hatq.kept (oq q haq)
  exact e_a X hr (Or.inr ⟨_, rfl⟩) (Or.inr ⟨_, rfl⟩) dJx4a65c_grow_92f84_59 hS q rfl trivial ⟨hq, hatq.lt, hatq, hat⟩ ⟨Nat.le_of_ble_eq_true rfl, by show 0 + max 10 M ≤ max 10 M; omega⟩
abbrev rm_gr0 (cap : Nat) : Room := { frames := 4, cells := 1, slots := (cap + max (cap + 1 - cap) (cap / 2)), locals := 127 }
set_option maxHeartbeats 4000000 in
theorem c_gr0 (l : Launch) (D : va_G) (tc : Nat → ClassId) (h0 : Nat) (sa : Nat → Nat) (H0 : Heap) (a b cap : Nat) {m1 z1 : Int32} {F : Nat → Option Nat} (hat : va_at D vwCl (a, .inr (3, [.int m1, .ref b, .int z1])) H0) (hrw : va_at D vwCl (b, arr9 tc cap F) H0) (hab : a ≠ b) (hcz : 0 < cap) (hcap : cap ≤ 1000) (hz1 : z1 = nI cap) (hob : ∀ i y, F i = some y → OB D tc y H0) (ha0 : h0 ≤ a) (hb0 : h0 ≤ b) (hh0 : ∀ x, H0.size ≤ x → h0 ≤ x) : MB (S := Nat) l yJx4a65c_grow_d5877 cJx4a65c_grow_d5877 1 (Option.some (FieldType.array (FieldType.object "java/lang/Object"))) (rm_gr0 cap) (fun x : Nat => x = a ∨ x = b ∨ H0.size ≤ x) [.ref a] D tc h0 sa H0 (fun _ => True) (fun q H1 => H0.size ≤ q ∧ q < H1.size ∧ va_at D vwCl (q, arr9 tc (cap + max (cap + 1 - cap) (cap / 2)) (fun j => if j < cap then F j else none)) H1 ∧ va_at D vwCl (a, .inr (3, [.int m1, .ref q, .int z1])) H1) (fun q => some (.ref q)) := by
  refine MB.ofF RJx4a65c [(0, .ref a)] (by decide +kernel) rfl (Nat.le_of_ble_eq_true rfl) rfl ?_
  intro p e s m below meth c ls X hr hin hT hH hS hl
  subst hH
  have hx := X.1
  have hb := X.2.1
  have hown := X.2.2.2.1
  have hU := X.2.2.2.2.1.1
  have hA0 : ∀ x : Nat, (x = a ∨ x = b ∨ s.heap.size ≤ x) → h0 ≤ x := fun x h => h.elim (fun e => e ▸ ha0) (fun h => h.elim (fun e => e ▸ hb0) (hh0 x))
  subst hz1
  refine lv_aload_n hx hb dJx4a65c_grow_d5877_0 rfl (lv_at hl 0 rfl) ?_
  refine lv_aload_n hx hb dJx4a65c_grow_d5877_1 rfl (lv_at hl 0 rfl) ?_
  refine x_getv X dJx4a65c_grow_d5877_2 f_Jx4a65c_48 hat (v := .int (nI cap)) rfl ?_
  refine lv_iconst (v := 1) hx hb dJx4a65c_grow_d5877_5 (by decide) ?_
  refine lv_iadd hx hb dJx4a65c_grow_d5877_6 ?_
  rw [nI_1]
  refine g_after (st0 := [.int (nI (cap + 1)), .ref a]) (rest := []) (g_V X m_Jx4a65c_69 (c_gr1 l D tc h0 sa s.heap a b (cap + 1) cap hat hrw hab hcz (by omega) hcap (by omega) hob ha0 hb0 hh0) (recv1 X.2.2.2.2.1 rfl hat) hT hS hA0 dJx4a65c_grow_d5877_7 hl.1 rfl rfl ⟨Nat.le_of_ble_eq_true rfl, Nat.le_of_ble_eq_true rfl⟩ (Nat.le_of_ble_eq_true rfl) ⟨Nat.le_of_ble_eq_true rfl, by show 0 + _ ≤ _; simp⟩) hS (fun _ h => h) (fun u => .ref u :: []) (fun _ => rfl) (fun u H9 locs hw hP9 hz9 hk9 hS => ?_)
  exact e_a X hr (Or.inr ⟨_, rfl⟩) (Or.inr ⟨_, rfl⟩) dJx4a65c_grow_d5877_10 hS u rfl trivial hP9 ⟨Nat.le_of_ble_eq_true rfl, by show 0 + _ ≤ _; simp⟩
abbrev rm_gr0e  : Room := { frames := 2, cells := 1, slots := 10, locals := 44 }
set_option maxHeartbeats 4000000 in
theorem c_gr0e (l : Launch) (D : va_G) (tc : Nat → ClassId) (h0 : Nat) (sa : Nat → Nat) (H0 : Heap) (a : Nat) {m1 z1 : Int32} (hat : va_at D vwCl (a, .inr (3, [.int m1, .ref (sa 3), .int z1])) H0) (hz1 : z1 = nI 0) (ha0 : h0 ≤ a) (hh0 : ∀ x, H0.size ≤ x → h0 ≤ x) : MB (S := Nat) l yJx4a65c_grow_d5877 cJx4a65c_grow_d5877 1 (Option.some (FieldType.array (FieldType.object "java/lang/Object"))) (rm_gr0e ) (fun x : Nat => x = a ∨ H0.size ≤ x) [.ref a] D tc h0 sa H0 (fun _ => True) (fun q H1 => H0.size ≤ q ∧ q < H1.size ∧ va_at D vwCl (q, arr9 tc 10 (fun _ => none)) H1 ∧ va_at D vwCl (a, .inr (3, [.int m1, .ref q, .int z1])) H1) (fun q => some (.ref q)) := by
  refine MB.ofF RJx4a65c [(0, .ref a)] (by decide +kernel) rfl (Nat.le_of_ble_eq_true rfl) rfl ?_
  intro p e s m below meth c ls X hr hin hT hH hS hl
  subst hH
  have hx := X.1
  have hb := X.2.1
  have hown := X.2.2.2.1
  have hU := X.2.2.2.2.1.1
  have hA0 : ∀ x : Nat, (x = a ∨ s.heap.size ≤ x) → h0 ≤ x := fun x h => h.elim (fun e => e ▸ ha0) (hh0 x)
  subst hz1
  refine lv_aload_n hx hb dJx4a65c_grow_d5877_0 rfl (lv_at hl 0 rfl) ?_
  refine lv_aload_n hx hb dJx4a65c_grow_d5877_1 rfl (lv_at hl 0 rfl) ?_
  refine x_getv X dJx4a65c_grow_d5877_2 f_Jx4a65c_48 hat (v := .int (nI 0)) rfl ?_
  refine lv_iconst (v := 1) hx hb dJx4a65c_grow_d5877_5 (by decide) ?_
  refine lv_iadd hx hb dJx4a65c_grow_d5877_6 ?_
  rw [nI_1]
  refine g_after (st0 := [.int (nI (0 + 1)), .ref a]) (rest := []) (g_V X m_Jx4a65c_69 (c_gr1e l D tc h0 sa s.heap a 1 hat (by omega) ha0 hh0) (recv1 X.2.2.2.2.1 rfl hat) hT hS hA0 dJx4a65c_grow_d5877_7 hl.1 rfl rfl ⟨Nat.le_of_ble_eq_true rfl, Nat.le_of_ble_eq_true rfl⟩ (Nat.le_of_ble_eq_true rfl) ⟨Nat.le_of_ble_eq_true rfl, Nat.le_of_ble_eq_true rfl⟩) hS (fun _ h => h) (fun u => .ref u :: []) (fun _ => rfl) (fun u H9 locs hw hP9 hz9 hk9 hS => ?_)
  exact e_a X hr (Or.inr ⟨_, rfl⟩) (Or.inr ⟨_, rfl⟩) dJx4a65c_grow_d5877_10 hS u rfl trivial hP9 ⟨Nat.le_of_ble_eq_true rfl, Nat.le_of_ble_eq_true rfl⟩
