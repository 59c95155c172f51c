/-! THE JDK's lists over the store: addAll -/
section COPYQ
variable {p : Program} {l : Launch} {e : Env} {R : Room} {s : State} {m : MethodId} {args : Array Value} {below : List Frame} {meth : Method} {c : Code} {H : Heap} {locs : List Loc} {cells slots : Nat} {Q : State → Prop}
variable {cc : ByteArray} {nL : Nat} {own : String} {D : va_G} {tc : Nat → ClassId} {pc : Nat} {ls : Array Slot} {rest : List Value} {A A1 : Nat → Prop} {H0 : Heap} {index ci k a b cap : Nat} {ty : FieldType} {fin : Bool} {fs : List Value} {F : Nat → Option Nat}
/-- a run of a row of objects is copied -/
theorem x_copyq (X : Cx p c s m meth cc nL own D tc) (hsz : ls.size = nL) (hl : Cond.methodLink own index arraycopyName ∈ WX) (hst : Cond.static arraycopyName ∈ WX) (hini : Cond.initialized "java/lang/System" ∈ WX) {f g : Nat → Option Nat} {n0 n1 : Nat} (ha0 : va_at D vwCl (b, .inl (tc 9, n0, .inr (.inr (.inr (.inr f))))) H) (ha1 : va_at D vwCl (a, .inl (tc 9, n1, .inr (.inr (.inr (.inr g))))) H) (hA : A a) (hS : va_S A H0 H locs)
    {sp dp n : Int32} (h1 : ¬ sp < 0) (h2 : ¬ dp < 0) (h3 : ¬ n < 0) (h4 : sp.toNatClampNeg + n.toNatClampNeg ≤ n0) (h5 : dp.toNatClampNeg + n.toNatClampNeg ≤ n1) (hel : ∀ i : Nat, i < n.toNatClampNeg → ∀ y : Nat, f (sp.toNatClampNeg + i) = some y → va_Any "java/lang/Object" s H y) (hR : 1 ≤ R.frames ∧ (rest.map fun v => v.category).sum + (nativeFrameWords "java/lang/System" "arraycopy" 5 + 11) ≤ R.locals) (hd : decode cc pc = .ok (.invokestatic index, 3))
    (kk : ∀ (H1 : Heap) (locs1 : List Loc), va_at D vwCl (a, .inl (tc 9, n1, .inr (.inr (.inr (.inr (va_cpy f g sp.toNatClampNeg dp.toNatClampNeg n.toNatClampNeg)))))) H1 → (∀ q, q ≠ a → H1[q]? = H[q]?) → H1.size = H.size → va_S A H0 H1 locs1 → W p l e R s m args below meth c H1 locs1 cells slots Q (F0 m (pc + 3) ls rest)) : W p l e R s m args below meth c H locs cells slots Q (F0 m pc ls (.int n :: .int dp :: .ref a :: .int sp :: .ref b :: rest)) := by
  obtain ⟨hx, hb, hml, hown, hK, -⟩ := X
  have hU := hK.1
  intro T hT Xs
  obtain ⟨-, k0, hk0, cm0, hkk0⟩ := (hK.2.1.2 9 _ rfl).1 n0 (fun j => va_rf (f j))
  obtain ⟨vm', X', step⟩ := Xs.arraycopy hx hown (hU.use hl) (hK.2.2.2.2.2.2.nat (by decide)) (hU.use hst) (hU.use hini) (src := b) (dst := a) (cs := vp_cell (tc 9) (n0, .inr (.inr (.inr (.inr f))))) (cd := vp_cell (tc 9) (n1, .inr (.inr (.inr (.inr g))))) (srcPos := sp) (destPos := dp) (n := n) (by rw [hT]; exact ha0) (by rw [hT]; exact ha1)
    (fun _ h => by cases h) (fun _ h => by cases h) (fun h => by cases h) (fun h => by cases h) hk0 hk0 hkk0 hkk0 rfl h1 h2 h3
    (by rw [cl_nn h1, cl_nn h3]; show ¬ _ > ((arrV (tc 9) n0 (fun j => va_rf (f j))).slots.size : Int); rw [arrV_size]; omega)
    (by rw [cl_nn h2, cl_nn h3]; show ¬ _ > ((arrV (tc 9) n1 (fun j => va_rf (g j))).slots.size : Int); rw [arrV_size]; omega)
    (fun vm₁ hal i hi => by
      have e : (vp_cell (tc 9) (n0, .inr (.inr (.inr (.inr f))))).slots.getD (sp.toNatClampNeg + i) .null = va_rf (f (sp.toNatClampNeg + i)) := by
        show (arrV (tc 9) n0 (fun j => va_rf (f j))).slots.getD _ _ = _
        rw [Array.getD_eq_getD_getElem?, arrV_read _ _ (by omega)]
        rfl
      rw [e]
      cases hy : f (sp.toNatClampNeg + i) with
      | none => exact ⟨rfl, trivial⟩
      | some y =>
        obtain ⟨cellV, g1, g2, ⟨kC, hkC⟩, hasg⟩ := hel i hi y hy
        obtain ⟨kA, comp, r1, r2, r3, -⟩ := (hK.2.1.2 9 _ rfl).2
        cases hk0.symm.trans r1
        cases hkk0.symm.trans r2
        obtain ⟨kE, hkE, -⟩ := Vm.findClass_spec r3
        obtain ⟨kC', hkC', -⟩ := hal.2.2 _ _ hkC
        obtain ⟨kE', hkE', -⟩ := hal.2.2 _ _ hkE
        refine ⟨rfl, cellV, (show T.heap[y]? = some cellV by rw [hT]; exact g1), (fun q h => by rw [h] at g2; cases g2), ⟨kC', hkC'⟩, ?_, ?_⟩
        · exact ⟨kE', hkE'⟩
        · show vm₁.assignable _ _ = true
          rw [hal.assignable]
          exact hasg _ r3)
    (g := F0 m pc ls (.int n :: .int dp :: .ref a :: .int sp :: .ref b :: rest)) rfl (hsz.trans hml.symm) (rest := rest) rfl (by rw [hb]; exact hd) hR.1 (by show 2 * 0 + _ + _ ≤ _; have := hR.2; omega)
  have e1 : copied (vp_cell (tc 9) (n0, .inr (.inr (.inr (.inr f))))) (vp_cell (tc 9) (n1, .inr (.inr (.inr (.inr g))))) sp dp n = vp_cell (tc 9) (n1, .inr (.inr (.inr (.inr (va_cpy f g sp.toNatClampNeg dp.toNatClampNeg n.toNatClampNeg))))) := va_copied (fun z => va_rf z) (tc 9) (tc 9) f g h4
  rw [e1] at X' step
  have hl : a < H.size := (Array.getElem?_eq_some_iff.mp (show H[a]? = _ from ha1)).1
  have hheap : ((T.setVm vm').setCell a (vp_cell (tc 9) (n1, .inr (.inr (.inr (.inr (va_cpy f g sp.toNatClampNeg dp.toNatClampNeg n.toNatClampNeg))))))).heap = H.setIfInBounds a (vp_cell (tc 9) (n1, .inr (.inr (.inr (.inr (va_cpy f g sp.toNatClampNeg dp.toNatClampNeg n.toNatClampNeg)))))) := by rw [← hT]; rfl
  have oq : ∀ q : Nat, q ≠ a → (H.setIfInBounds a (vp_cell (tc 9) (n1, .inr (.inr (.inr (.inr (va_cpy f g sp.toNatClampNeg dp.toNatClampNeg n.toNatClampNeg)))))))[q]? = H[q]? := fun q hq => by simp [Array.getElem?_setIfInBounds, Ne.symm hq]
  obtain ⟨t, a1, b1⟩ := kk _ _ (show (H.setIfInBounds a _)[a]? = some _ by simp [Array.getElem?_setIfInBounds, hl]) oq (by simp) ⟨by simp; exact hS.1, fun q g1 g2 => by
      rw [oq q (fun e => g2 (by rw [e]; exact hA))]
      exact hS.2.1 q g1 g2, fun q hq => by
      rcases List.mem_append.mp hq with h | h
      · exact hS.2.2 q h
      · obtain ⟨z, -, hz⟩ := List.mem_map.mp h
        rw [← hz]
        exact hA⟩ _ hheap X'
  exact ⟨t, step t a1, b1⟩
end COPYQ
theorem row_cp {r : Nat → Nat} {k : Nat} : va_cpy (fun j => if j < k then some (r j) else none) (fun _ => none) (0 : Int32).toNatClampNeg (nI 0).toNatClampNeg k = fun j => if j < k then some (r j) else none := by
  funext j
  show (if 0 ≤ j ∧ j < 0 + k then (if 0 + (j - 0) < k then some (r (0 + (j - 0))) else none) else none) = _
  by_cases h : j < k
  · rw [if_pos ⟨by omega, by omega⟩, if_pos (by omega), if_pos h]
    congr 2
    omega
  · rw [if_neg (fun z => h (by omega)), if_neg h]
theorem row_0 {D : va_G} {b k cap : Nat} {c : ClassId} {r r' : Nat → Nat} {H : Heap} (hk : k = 0) (h : va_at D vwCl (b, hrow c cap k r) H) : va_at D vwCl (b, hrow c cap k r') H := by
  have e : (fun j => if j < k then some (r j) else none) = fun j => if j < k then some (r' j) else none := by
    funext j
    rw [if_neg (by omega), if_neg (by omega)]
  unfold hrow at h ⊢
  rw [← e]
  exact h
abbrev rm_aa (k : Nat) : Room := { frames := 4, cells := 2, slots := (3 * k + 10), locals := 127 }
set_option maxHeartbeats 4000000 in
theorem c_aa (l : Launch) (D : va_G) (tc : Nat → ClassId) (h0 : Nat) (sa : Nat → Nat) {A : Nat → Prop} {t n : Nat → Nat} {r : Nat → Nat → Nat} {w : Dt} (H0 : Heap) (a c1 : Nat) (hB : SB D tc (sa 3) A t n r w H0) (hk : isL (t a) = true) (hkk : t c1 = t a) (hn0 : n a = 0) (hca : c1 ≠ a) (hnc : n c1 < 400) (hA0 : ∀ x, A x → h0 ≤ x) (hAF : ∀ x, H0.size ≤ x → A x) : MB (S := Unit) l yJx4a65c_addAll_f0b43 cJx4a65c_addAll_f0b43 6 (Option.some FieldType.boolean) (rm_aa (n c1)) A [.ref a, .ref c1] D tc h0 sa H0 (fun _ => True) (fun _ H1 => SB D tc (sa 3) A t (va_up n a (n c1)) (va_up r a (r c1)) (up2 w a 0 (w a 0 + 1)) H1) (fun _ => some (.int (if n c1 = 0 then 0 else 1))) := by
  refine MB.ofF RJx4a65c [(0, .ref a), (1, .ref c1)] (by decide +kernel) rfl (Nat.le_of_ble_eq_true rfl) rfl ?_
  intro p e s m below meth c ls X hr hin hT hH hS hl
  subst hH
  have hx := X.1
  have hb := X.2.1
  have hown := X.2.2.2.1
  have hU := X.2.2.2.2.1.1
  have hkc : isL (t c1) = true := by rw [hkk]; exact hk
  have hal0 := (hB.lt (isL_ne hk)).1
  obtain ⟨fsc, hatc⟩ : ∃ fs : List Value, va_at D vwCl (c1, .inr (3, fs)) s.heap := by
    obtain ⟨E, cap, hO⟩ := hB
    exact ⟨_, (hO.1 c1 _ (isL_cel hkc)).1⟩
  refine lv_aload_n hx hb dJx4a65c_addAll_f0b43_0 rfl (lv_at hl 1 rfl) ?_
  refine g_after5 (st0 := [.ref c1]) (rest := []) (g_F X mf_Jx4a65c_42 (c_ta l D tc h0 sa s.heap c1 hB hkc hA0 hAF) rfl hatc hT hS hA0 dJx4a65c_addAll_f0b43_1 hl.1 rfl rfl ⟨Nat.le_of_ble_eq_true rfl, Nat.le_of_ble_eq_true rfl⟩ (Nat.le_of_ble_eq_true rfl) ⟨Nat.le_of_ble_eq_true rfl, by show 0 + n c1 ≤ 3 * n c1 + 10; omega⟩) hS (fun _ h => h) (fun u => .ref u :: []) (fun _ => rfl) (fun u H9 locs hw hP9 hz9 hk9 hS => ?_)
  obtain ⟨hB9, g1, g2, hatu⟩ := hP9
  obtain ⟨E, cap, hO⟩ := hB9
  have hEu : 0 < cap a → E a ≠ u := fun hp => ((hO.2.1 a hk).2.2.2 hp).2.1.2
  have hO := hO.mono (B := A) (fun x _ h => h.1)
  have hat : va_at D vwCl (a, .inr (3, [.int (w a 0), .ref (E a), .int (nI 0)])) H9 := by
    have := (hO.1 a _ (isL_cel hk)).1
    rw [hn0] at this
    exact this
  have hAa := (hO.1 a _ (isL_cel hk)).2
  have hlt := hO.2.1 a hk
  have hta : t a ≠ 0 := isL_ne hk
  have hatl := hat.lt
  have hua : u ≠ a := fun e => by omega
  have hEa : 0 < cap a → E a ≠ a := fun hp e => hta (by have := (hlt.2.2.2 hp).2.2; rwa [e] at this)
  have hB9 : SB D tc (sa 3) A t n r w H9 := ⟨_, _, hO⟩
  have hob : ∀ j, j < n c1 → OB D tc (r c1 j) H9 := fun j hj => hB9.ob hkc (hO.elt hkc hj)
  have hela : ∀ j, j < n c1 → r c1 j ≠ a := fun j hj e => ek_self hk (by rw [← hkk, ← hO.elt hkc hj, e, hkk])
  have hAu : A u := hAF u g1
  refine lv_astore_n (lv' := [(2, .ref u), (0, .ref a), (1, .ref c1)]) hx hb dJx4a65c_addAll_f0b43_6 rfl hl (by decide) rfl (fun ls hl => ?_)
  refine lv_aload_n hx hb dJx4a65c_addAll_f0b43_7 rfl (lv_at hl 1 rfl) ?_
  refine lv_dup hx hb dJx4a65c_addAll_f0b43_8 rfl ?_
  refine x_getv X dJx4a65c_addAll_f0b43_9 f_Jx4a65c_63 hat (v := .int (w a 0)) rfl ?_
  refine lv_iconst (v := 1) hx hb dJx4a65c_addAll_f0b43_12 (by decide) ?_
  refine lv_iadd hx hb dJx4a65c_addAll_f0b43_13 ?_
  refine x_putv (A := A) X dJx4a65c_addAll_f0b43_14 f_Jx4a65c_63 hat hAa hS (Nat.le_of_ble_eq_true rfl) rfl rfl (fun H locs hat oq hz hS => ?_)
  have hatu := hatu.kept (oq u hua)
  have hob : ∀ j, j < n c1 → OB D tc (r c1 j) H := fun j hj => (hob j hj).kept (oq _ (hela j hj))
  refine lv_aload_n hx hb dJx4a65c_addAll_f0b43_17 rfl (lv_at hl 0 rfl) ?_
  refine x_len X dJx4a65c_addAll_f0b43_18 hatu ?_
  refine lv_istore_n (lv' := [(3, .int (nI (n c1))), (2, .ref u), (0, .ref a), (1, .ref c1)]) hx hb dJx4a65c_addAll_f0b43_19 rfl hl (by decide) rfl (fun ls hl => ?_)
  refine lv_iload_n hx hb dJx4a65c_addAll_f0b43_20 rfl (lv_at hl 0 rfl) ?_
  by_cases hz0 : n c1 = 0
  · rw [if_pos hz0]
    refine lv_if_ne (tgt := 26) hx hb dJx4a65c_addAll_f0b43_21 (by decide) (fun hc0 => absurd (show nI (n c1) = 0 by rw [hz0]; rfl) hc0) (fun _ => ?_)
    refine lv_iconst (v := 0) hx hb dJx4a65c_addAll_f0b43_24 (by decide) ?_
    exact e_z X hr rfl dJx4a65c_addAll_f0b43_25 hS () rfl trivial ⟨_, _, hO.list (b' := E a) (c' := cap a) (k' := n c1) (R' := r c1) (w' := up2 w a 0 (w a 0 + 1)) hk (by show va_at D vwCl (a, .inr (3, [.int (up2 w a 0 (w a 0 + 1) a 0), .ref (E a), .int (nI (n c1))])) H; rw [up2_at]; exact (by rw [hz0]; exact hat)) (fun hp => by have := (hlt.2.2.2 hp).1.kept (oq _ (hEa hp)); rw [hn0, ← hz0] at this; exact row_0 hz0 this) (Or.inl ⟨rfl, rfl⟩) (by omega) (by omega) (fun j hj => by rw [hO.elt hkc hj, hkk]) (fun b hb => up2_ne hb) (fun x h1 h2 h3 => oq x h2)⟩ ⟨Nat.le_of_ble_eq_true rfl, by show 0 + n c1 ≤ 3 * n c1 + 10; omega⟩
  · rw [if_neg hz0]
    refine lv_if_ne (tgt := 26) hx hb dJx4a65c_addAll_f0b43_21 (by decide) (fun _ => ?_) (fun hc0 => absurd hc0 (fun z => hz0 (by have := congrArg Int32.toNatClampNeg z; rwa [nI_cl (by omega)] at this)))
    refine lv_iload_n hx hb dJx4a65c_addAll_f0b43_26 rfl (lv_at hl 0 rfl) ?_
    refine lv_aload_n hx hb dJx4a65c_addAll_f0b43_27 rfl (lv_at hl 2 rfl) ?_
    refine x_getv X dJx4a65c_addAll_f0b43_28 f_Jx4a65c_9 hat (v := .ref (E a)) rfl ?_
    refine lv_dup hx hb dJx4a65c_addAll_f0b43_31 rfl ?_
    refine lv_astore (lv' := [(4, .ref (E a)), (3, .int (nI (n c1))), (2, .ref u), (0, .ref a), (1, .ref c1)]) hx hb dJx4a65c_addAll_f0b43_32 hl (by decide) rfl (fun ls hl => ?_)
    by_cases hcap0 : cap a = 0
    · have hEe := hlt.2.2.1 hcap0
      refine W.eq (g2 := F0 m 34 ls [.ref (sa 3), .int (nI (n c1))]) (by rw [hEe]) ?_
      refine g_slen X dJx4a65c_addAll_f0b43_34 hT.2.2.2.2.2.2.2.2.2.2.1 hS hA0 ?_
      refine lv_aload_n hx hb dJx4a65c_addAll_f0b43_35 rfl (lv_at hl 3 rfl) ?_
      refine x_getv X dJx4a65c_addAll_f0b43_36 f_Jx4a65c_48 hat (v := .int (nI 0)) rfl ?_
      refine lv_dup hx hb dJx4a65c_addAll_f0b43_39 rfl ?_
      refine lv_istore (lv' := [(5, .int (nI 0)), (4, .ref (E a)), (3, .int (nI (n c1))), (2, .ref u), (0, .ref a), (1, .ref c1)]) hx hb dJx4a65c_addAll_f0b43_40 hl (by decide) rfl (fun ls hl => ?_)
      refine lv_isub hx hb dJx4a65c_addAll_f0b43_42 ?_
      refine lv_icmp_le (tgt := 56) hx hb dJx4a65c_addAll_f0b43_43 (by decide) (fun hc0 => absurd hc0 (show ¬ nI (n c1) ≤ nI 0 - nI 0 from fun z => by rw [show nI 0 - nI 0 = nI 0 from rfl, Int32.le_iff_toInt_le, nI_toInt (by omega), nI_toInt (by omega)] at z; omega)) (fun _ => ?_)
      refine lv_aload_n hx hb dJx4a65c_addAll_f0b43_46 rfl (lv_at hl 4 rfl) ?_
      refine lv_iload hx hb dJx4a65c_addAll_f0b43_47 (lv_at hl 0 rfl) ?_
      refine lv_iload_n hx hb dJx4a65c_addAll_f0b43_49 rfl (lv_at hl 2 rfl) ?_
      refine lv_iadd hx hb dJx4a65c_addAll_f0b43_50 ?_
      rw [nI_add, show nI (0 + n c1) = nI (n c1) by rw [Nat.zero_add]]
      refine g_after (st0 := [.int (nI (n c1)), .ref a]) (rest := []) (g_V X m_Jx4a65c_69 (c_gr1e l D tc h0 sa H a (n c1) (by rw [← hEe]; exact hat) (by omega) (hA0 _ hAa) (fun x hx => hA0 _ (hAF x (by omega)))) (recv1 X.2.2.2.2.1 rfl hat) hT hS hA0 dJx4a65c_addAll_f0b43_51 hl.1 rfl rfl ⟨Nat.le_of_ble_eq_true rfl, Nat.le_of_ble_eq_true rfl⟩ (Nat.le_of_ble_eq_true rfl) ⟨Nat.le_of_ble_eq_true rfl, by show 0 + n c1 + max 10 (n c1) ≤ 3 * n c1 + 10; omega⟩) hS (fun x h => h.elim (fun e => e ▸ hAa) (fun h => hAF x (by omega))) (fun v => .ref v :: []) (fun _ => rfl) (fun v H8 locs hw hP8 hz8 hk8 hS => ?_)
      obtain ⟨f1, f2, f3, hat⟩ := hP8
      have hatu := hatu.kept (hk8 u (by omega) (fun h => h.elim hua (fun h => by omega)))
      have hob : ∀ j, j < n c1 → OB D tc (r c1 j) H8 := fun j hj => (hob j hj).kept (hk8 _ (hob j hj).lt (fun h => h.elim (hela j hj) (fun h => by have := (hob j hj).lt; omega)))
      refine lv_astore (lv' := [(4, .ref v), (5, .int (nI 0)), (3, .int (nI (n c1))), (2, .ref u), (0, .ref a), (1, .ref c1)]) hx hb dJx4a65c_addAll_f0b43_54 hl (by decide) rfl (fun ls hl => ?_)
      refine lv_aload_n hx hb dJx4a65c_addAll_f0b43_56 rfl (lv_at hl 3 rfl) ?_
      refine lv_iconst (v := 0) hx hb dJx4a65c_addAll_f0b43_57 (by decide) ?_
      refine lv_aload hx hb dJx4a65c_addAll_f0b43_58 (lv_at hl 0 rfl) ?_
      refine lv_iload hx hb dJx4a65c_addAll_f0b43_60 (lv_at hl 1 rfl) ?_
      refine lv_iload_n hx hb dJx4a65c_addAll_f0b43_62 rfl (lv_at hl 2 rfl) ?_
      refine x_copyq (A := A) X hl.1 w_1815 w_1545 w_29 hatu f3 (hAF v (by omega)) hS (sp := 0) (dp := nI 0) (n := nI (n c1)) (by decide) (by decide) (nI_nn (by omega)) (by rw [nI_cl (n := n c1) (by omega)]; show 0 + _ ≤ _; omega) (by rw [nI_cl (n := n c1) (by omega)]; show 0 + _ ≤ _; omega) (fun i _ y hy => by
        by_cases hi : (0 : Int32).toNatClampNeg + i < n c1
        · rw [if_pos hi] at hy
          cases hy
          exact (hob _ hi).any X.2.2.2.2.1
        · rw [if_neg hi] at hy
          cases hy) ⟨Nat.le_of_ble_eq_true rfl, Nat.le_of_ble_eq_true rfl⟩ dJx4a65c_addAll_f0b43_63 (fun H locs hb9 oq3 hz3 hS => ?_)
      rw [nI_cl (n := n c1) (by omega), row_cp] at hb9
      have hat := hat.kept (oq3 a (fun e => by omega))
      refine lv_aload_n hx hb dJx4a65c_addAll_f0b43_66 rfl (lv_at hl 4 rfl) ?_
      refine lv_iload hx hb dJx4a65c_addAll_f0b43_67 (lv_at hl 1 rfl) ?_
      refine lv_iload_n hx hb dJx4a65c_addAll_f0b43_69 rfl (lv_at hl 2 rfl) ?_
      refine lv_iadd hx hb dJx4a65c_addAll_f0b43_70 ?_
      rw [nI_add, show nI (0 + n c1) = nI (n c1) by rw [Nat.zero_add]]
      refine x_putv (A := A) X dJx4a65c_addAll_f0b43_71 f_Jx4a65c_48 hat hAa hS (Nat.le_of_ble_eq_true rfl) rfl rfl (fun H locs hat oq4 hz4 hS => ?_)
      have hb9 := hb9.kept (oq4 (v) (fun e => (fun e => by omega) e.symm))
      refine lv_iconst (v := 1) hx hb dJx4a65c_addAll_f0b43_74 (by decide) ?_
      exact e_z X hr rfl dJx4a65c_addAll_f0b43_75 hS () rfl trivial ⟨_, _, hO.list (b' := v) (c' := max 10 (n c1)) (k' := n c1) (R' := r c1) (w' := up2 w a 0 (w a 0 + 1)) hk (by show va_at D vwCl (a, .inr (3, [.int (up2 w a 0 (w a 0 + 1) a 0), .ref (v), .int (nI (n c1))])) H; rw [up2_at]; exact hat) (fun _ => hb9) (Or.inr ⟨by omega, hAF v (by omega), by omega⟩) (by omega) (by omega) (fun j hj => by rw [hO.elt hkc hj, hkk]) (fun b hb => up2_ne hb) (fun x h1 h2 h3 => (oq4 x h2).trans ((oq3 x (by omega)).trans ((hk8 x (by omega) (fun h => h.elim h2 (fun h => by omega))).trans (oq x h2))))⟩ ⟨Nat.le_of_ble_eq_true rfl, by show 0 + n c1 + max 10 (n c1) ≤ 3 * n c1 + 10; omega⟩
    · have hcp : 0 < cap a := by omega
      have hrw := (hlt.2.2.2 hcp).1.kept (oq _ (hEa hcp))
      have hEl := (hlt.2.2.2 hcp).1.lt
      have hrwe : va_at D vwCl (E a, arr9 tc (cap a) (fun _ => none)) H := by
        have := (hlt.2.2.2 hcp).1.kept (oq _ (hEa hcp))
        rw [hn0] at this
        exact this
      refine x_len X dJx4a65c_addAll_f0b43_34 hrw ?_
      refine lv_aload_n hx hb dJx4a65c_addAll_f0b43_35 rfl (lv_at hl 3 rfl) ?_
      refine x_getv X dJx4a65c_addAll_f0b43_36 f_Jx4a65c_48 hat (v := .int (nI 0)) rfl ?_
      refine lv_dup hx hb dJx4a65c_addAll_f0b43_39 rfl ?_
      refine lv_istore (lv' := [(5, .int (nI 0)), (4, .ref (E a)), (3, .int (nI (n c1))), (2, .ref u), (0, .ref a), (1, .ref c1)]) hx hb dJx4a65c_addAll_f0b43_40 hl (by decide) rfl (fun ls hl => ?_)
      refine lv_isub hx hb dJx4a65c_addAll_f0b43_42 ?_
      rw [show nI (cap a) - nI 0 = nI (cap a) from nI_sub (b := 0) (Nat.zero_le _)]
      by_cases hfit : n c1 ≤ cap a
      · have hle : nI (n c1) ≤ nI (cap a) := nI_le hfit (by omega)
        refine lv_icmp_le (tgt := 56) hx hb dJx4a65c_addAll_f0b43_43 (by decide) (fun _ => ?_) (fun hc0 => absurd hle hc0)
        refine lv_aload_n hx hb dJx4a65c_addAll_f0b43_56 rfl (lv_at hl 3 rfl) ?_
        refine lv_iconst (v := 0) hx hb dJx4a65c_addAll_f0b43_57 (by decide) ?_
        refine lv_aload hx hb dJx4a65c_addAll_f0b43_58 (lv_at hl 1 rfl) ?_
        refine lv_iload hx hb dJx4a65c_addAll_f0b43_60 (lv_at hl 0 rfl) ?_
        refine lv_iload_n hx hb dJx4a65c_addAll_f0b43_62 rfl (lv_at hl 2 rfl) ?_
        refine x_copyq (A := A) X hl.1 w_1815 w_1545 w_29 hatu hrwe ((hlt.2.2.2 hcp).2.1) hS (sp := 0) (dp := nI 0) (n := nI (n c1)) (by decide) (by decide) (nI_nn (by omega)) (by rw [nI_cl (n := n c1) (by omega)]; show 0 + _ ≤ _; omega) (by rw [nI_cl (n := n c1) (by omega)]; show 0 + _ ≤ _; omega) (fun i _ y hy => by
        by_cases hi : (0 : Int32).toNatClampNeg + i < n c1
        · rw [if_pos hi] at hy
          cases hy
          exact (hob _ hi).any X.2.2.2.2.1
        · rw [if_neg hi] at hy
          cases hy) ⟨Nat.le_of_ble_eq_true rfl, Nat.le_of_ble_eq_true rfl⟩ dJx4a65c_addAll_f0b43_63 (fun H locs hb9 oq3 hz3 hS => ?_)
        rw [nI_cl (n := n c1) (by omega), row_cp] at hb9
        have hat := hat.kept (oq3 a (fun e => hEa hcp e.symm))
        refine lv_aload_n hx hb dJx4a65c_addAll_f0b43_66 rfl (lv_at hl 4 rfl) ?_
        refine lv_iload hx hb dJx4a65c_addAll_f0b43_67 (lv_at hl 0 rfl) ?_
        refine lv_iload_n hx hb dJx4a65c_addAll_f0b43_69 rfl (lv_at hl 2 rfl) ?_
        refine lv_iadd hx hb dJx4a65c_addAll_f0b43_70 ?_
        rw [nI_add, show nI (0 + n c1) = nI (n c1) by rw [Nat.zero_add]]
        refine x_putv (A := A) X dJx4a65c_addAll_f0b43_71 f_Jx4a65c_48 hat hAa hS (Nat.le_of_ble_eq_true rfl) rfl rfl (fun H locs hat oq4 hz4 hS => ?_)
        have hb9 := hb9.kept (oq4 (E a) (fun e => (fun e => hEa hcp e.symm) e.symm))
        refine lv_iconst (v := 1) hx hb dJx4a65c_addAll_f0b43_74 (by decide) ?_
        exact e_z X hr rfl dJx4a65c_addAll_f0b43_75 hS () rfl trivial ⟨_, _, hO.list (b' := E a) (c' := cap a) (k' := n c1) (R' := r c1) (w' := up2 w a 0 (w a 0 + 1)) hk (by show va_at D vwCl (a, .inr (3, [.int (up2 w a 0 (w a 0 + 1) a 0), .ref (E a), .int (nI (n c1))])) H; rw [up2_at]; exact hat) (fun _ => hb9) (Or.inl ⟨rfl, rfl⟩) (by omega) (by omega) (fun j hj => by rw [hO.elt hkc hj, hkk]) (fun b hb => up2_ne hb) (fun x h1 h2 h3 => (oq4 x h2).trans ((oq3 x (fun e => h3 ⟨hcp, e⟩)).trans (oq x h2)))⟩ ⟨Nat.le_of_ble_eq_true rfl, by show 0 + n c1 ≤ 3 * n c1 + 10; omega⟩
      · have hgt : ¬ nI (n c1) ≤ nI (cap a) := fun z => by rw [Int32.le_iff_toInt_le, nI_toInt (by omega), nI_toInt (by omega)] at z; omega
        refine lv_icmp_le (tgt := 56) hx hb dJx4a65c_addAll_f0b43_43 (by decide) (fun hc0 => absurd hc0 hgt) (fun _ => ?_)
        refine lv_aload_n hx hb dJx4a65c_addAll_f0b43_46 rfl (lv_at hl 4 rfl) ?_
        refine lv_iload hx hb dJx4a65c_addAll_f0b43_47 (lv_at hl 0 rfl) ?_
        refine lv_iload_n hx hb dJx4a65c_addAll_f0b43_49 rfl (lv_at hl 2 rfl) ?_
        refine lv_iadd hx hb dJx4a65c_addAll_f0b43_50 ?_
        rw [nI_add, show nI (0 + n c1) = nI (n c1) by rw [Nat.zero_add]]
        refine g_after (st0 := [.int (nI (n c1)), .ref a]) (rest := []) (g_V X m_Jx4a65c_69 (c_gr1 l D tc h0 sa H a (E a) (n c1) (cap a) hat hrwe (fun e => hEa hcp e.symm) hcp (by omega) hlt.2.1 (by omega) (fun i y h => by cases h) (hA0 _ hAa) (hA0 _ (hlt.2.2.2 hcp).2.1) (fun x hx => hA0 _ (hAF x (by omega)))) (recv1 X.2.2.2.2.1 rfl hat) hT hS hA0 dJx4a65c_addAll_f0b43_51 hl.1 rfl rfl ⟨Nat.le_of_ble_eq_true rfl, Nat.le_of_ble_eq_true rfl⟩ (Nat.le_of_ble_eq_true rfl) ⟨Nat.le_of_ble_eq_true rfl, by show 0 + n c1 + (cap a + max (n c1 - cap a) (cap a / 2)) ≤ 3 * n c1 + 10; omega⟩) hS (fun x h => h.elim (fun e => e ▸ hAa) (fun h => h.elim (fun e => e ▸ (hlt.2.2.2 hcp).2.1) (fun h => hAF x (by omega)))) (fun v => .ref v :: []) (fun _ => rfl) (fun v H8 locs hw hP8 hz8 hk8 hS => ?_)
        obtain ⟨f1, f2, f3, hat⟩ := hP8
        have hf : (fun j => if j < cap a then (none : Option Nat) else none) = fun _ => none := by funext j; split <;> rfl
        rw [hf] at f3
        have hatu := hatu.kept (hk8 u (by omega) (fun h => h.elim hua (fun h => h.elim (fun e => hEu hcp e.symm) (fun h => by omega))))
        have helE : ∀ j, j < n c1 → r c1 j ≠ E a := fun j hj e => ek_ne hkc (by rw [← hO.elt hkc hj, e]; exact (hlt.2.2.2 hcp).2.2)
        have hob : ∀ j, j < n c1 → OB D tc (r c1 j) H8 := fun j hj => (hob j hj).kept (hk8 _ (hob j hj).lt (fun h => h.elim (hela j hj) (fun h => h.elim (helE j hj) (fun h => by have := (hob j hj).lt; omega))))
        refine lv_astore (lv' := [(4, .ref v), (5, .int (nI 0)), (3, .int (nI (n c1))), (2, .ref u), (0, .ref a), (1, .ref c1)]) hx hb dJx4a65c_addAll_f0b43_54 hl (by decide) rfl (fun ls hl => ?_)
        refine lv_aload_n hx hb dJx4a65c_addAll_f0b43_56 rfl (lv_at hl 3 rfl) ?_
        refine lv_iconst (v := 0) hx hb dJx4a65c_addAll_f0b43_57 (by decide) ?_
        refine lv_aload hx hb dJx4a65c_addAll_f0b43_58 (lv_at hl 0 rfl) ?_
        refine lv_iload hx hb dJx4a65c_addAll_f0b43_60 (lv_at hl 1 rfl) ?_
        refine lv_iload_n hx hb dJx4a65c_addAll_f0b43_62 rfl (lv_at hl 2 rfl) ?_
        refine x_copyq (A := A) X hl.1 w_1815 w_1545 w_29 hatu f3 (hAF v (by omega)) hS (sp := 0) (dp := nI 0) (n := nI (n c1)) (by decide) (by decide) (nI_nn (by omega)) (by rw [nI_cl (n := n c1) (by omega)]; show 0 + _ ≤ _; omega) (by rw [nI_cl (n := n c1) (by omega)]; show 0 + _ ≤ _; omega) (fun i _ y hy => by
        by_cases hi : (0 : Int32).toNatClampNeg + i < n c1
        · rw [if_pos hi] at hy
          cases hy
          exact (hob _ hi).any X.2.2.2.2.1
        · rw [if_neg hi] at hy
          cases hy) ⟨Nat.le_of_ble_eq_true rfl, Nat.le_of_ble_eq_true rfl⟩ dJx4a65c_addAll_f0b43_63 (fun H locs hb9 oq3 hz3 hS => ?_)
        rw [nI_cl (n := n c1) (by omega), row_cp] at hb9
        have hat := hat.kept (oq3 a (fun e => by omega))
        refine lv_aload_n hx hb dJx4a65c_addAll_f0b43_66 rfl (lv_at hl 4 rfl) ?_
        refine lv_iload hx hb dJx4a65c_addAll_f0b43_67 (lv_at hl 1 rfl) ?_
        refine lv_iload_n hx hb dJx4a65c_addAll_f0b43_69 rfl (lv_at hl 2 rfl) ?_
        refine lv_iadd hx hb dJx4a65c_addAll_f0b43_70 ?_
        rw [nI_add, show nI (0 + n c1) = nI (n c1) by rw [Nat.zero_add]]
        refine x_putv (A := A) X dJx4a65c_addAll_f0b43_71 f_Jx4a65c_48 hat hAa hS (Nat.le_of_ble_eq_true rfl) rfl rfl (fun H locs hat oq4 hz4 hS => ?_)
        have hb9 := hb9.kept (oq4 (v) (fun e => (fun e => by omega) e.symm))
        refine lv_iconst (v := 1) hx hb dJx4a65c_addAll_f0b43_74 (by decide) ?_
        exact e_z X hr rfl dJx4a65c_addAll_f0b43_75 hS () rfl trivial ⟨_, _, hO.list (b' := v) (c' := (cap a + max (n c1 - cap a) (cap a / 2))) (k' := n c1) (R' := r c1) (w' := up2 w a 0 (w a 0 + 1)) hk (by show va_at D vwCl (a, .inr (3, [.int (up2 w a 0 (w a 0 + 1) a 0), .ref (v), .int (nI (n c1))])) H; rw [up2_at]; exact hat) (fun _ => hb9) (Or.inr ⟨by omega, hAF v (by omega), by omega⟩) (by omega) (by omega) (fun j hj => by rw [hO.elt hkc hj, hkk]) (fun b hb => up2_ne hb) (fun x h1 h2 h3 => (oq4 x h2).trans ((oq3 x (by omega)).trans ((hk8 x (by omega) (fun h => h.elim h2 (fun h => h.elim (fun e => h3 ⟨hcp, e⟩) (fun h => by omega)))).trans (oq x h2))))⟩ ⟨Nat.le_of_ble_eq_true rfl, by show 0 + n c1 + (cap a + max (n c1 - cap a) (cap a / 2)) ≤ 3 * n c1 + 10; omega⟩
