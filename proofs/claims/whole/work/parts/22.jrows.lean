/-! ROWS over single cells, with what they leave as it was -/
theorem p1 {D : va_G} {q : Nat × va_E} {H : Heap} (h : va_at D vwCl q H) : va_P D vwCl [q] H := fun k z hk => by
  have hz : k < 1 := (List.getElem?_eq_some_iff.mp hk).1
  rw [show k = 0 by omega] at hk
  cases hk
  exact h
theorem p2 {D : va_G} {q z : Nat × va_E} {H : Heap} (h : va_at D vwCl q H) (g : va_at D vwCl z H) : va_P D vwCl [q, z] H := fun k y hk => by
  have hz : k < 2 := (List.getElem?_eq_some_iff.mp hk).1
  rcases (show k = 0 ∨ k = 1 by omega) with e | e <;> subst e <;> cases hk
  · exact h
  · exact g
theorem d2 {A : Nat → Prop} {q z : Nat × va_E} (h : q.1 ≠ z.1) (h1 : A q.1) (h2 : A z.1) : va_D A [q, z] := by
  refine ⟨fun i j x y hi hj e => ?_, fun k x hk => ?_⟩
  · have hi2 : i < 2 := (List.getElem?_eq_some_iff.mp hi).1
    have hj2 : j < 2 := (List.getElem?_eq_some_iff.mp hj).1
    rcases (show i = 0 ∨ i = 1 by omega) with e1 | e1 <;> rcases (show j = 0 ∨ j = 1 by omega) with e2 | e2 <;> subst e1 <;> subst e2 <;> cases hi <;> cases hj <;> first | rfl | exact absurd e h | exact absurd e.symm h
  · have hk2 : k < 2 := (List.getElem?_eq_some_iff.mp hk).1
    rcases (show k = 0 ∨ k = 1 by omega) with e1 | e1 <;> subst e1 <;> cases hk
    · exact h1
    · exact h2
section JROWS
variable {p : Program} {l : Launch} {e : Env} {R : Room} {s : State} {m : MethodId} {args : Array Value} {below : List Frame} {meth : Method} {c : Code} {H : Heap} {locs : List Loc} {cells slots : Nat} {Q : State → Prop}
variable {cc : ByteArray} {nL : Nat} {own : String} {D : va_G} {tc : Nat → ClassId} {pc : Nat} {ls : Array Slot} {rest : List Value} {A A1 : Nat → Prop} {H0 : Heap} {index ci k a b cap : Nat} {ty : FieldType} {fin : Bool} {fs : List Value} {F : Nat → Option Nat}
theorem x_getv (X : Cx p c s m meth cc nL own D tc) (hd : decode cc pc = .ok (.getfield index, 3)) (Fk : FK own index ci k ty fin) (hat : va_at D vwCl (a, .inr (ci, fs)) H) {v : Value} (hv : fs[k]? = some v)
    (kk : W p l e R s m args below meth c H locs cells slots Q (F0 m (pc + 3) ls (v :: rest))) : W p l e R s m args below meth c H locs cells slots Q (F0 m pc ls (.ref a :: rest)) := by
  obtain ⟨C, T, N, tys, ref, ⟨hc, hin, hty, hnm⟩, hk, hl, hsm, -, -⟩ := Fk
  obtain ⟨hx, hb, -, hown, hK, -⟩ := X
  exact va_get (ci := ci) hx hb (fun z hz => hK.1.use hz) hin hown hK.2.1 (p1 hat) 0 rfl hc k hk (hK.1.use hl) (fk_same hK hsm) hv hd kk
theorem x_getvN (X : Cx p c s m meth cc nL own D tc) {host : String} (hd : decode cc pc = .ok (.getfield index, 3)) (Fk : FN own index ci k ty fin host) (hat : va_at D vwCl (a, .inr (ci, fs)) H) {v : Value} (hv : fs[k]? = some v)
    (kk : W p l e R s m args below meth c H locs cells slots Q (F0 m (pc + 3) ls (v :: rest))) : W p l e R s m args below meth c H locs cells slots Q (F0 m pc ls (.ref a :: rest)) := by
  obtain ⟨C, T, N, tys, ⟨hc, hin, hty, hnm⟩, hk, hl, -, -⟩ := Fk
  obtain ⟨hx, hb, -, hown, hK, -⟩ := X
  exact va_getN (ci := ci) hx hb (fun z hz => hK.1.use hz) hin hown hK.2.1 (p1 hat) 0 rfl hc k hk (hK.1.use hl) (fun _ h => h) hv hd kk
theorem x_putv (X : Cx p c s m meth cc nL own D tc) (hd : decode cc pc = .ok (.putfield index, 3)) (Fk : FK own index ci k ty false) (hat : va_at D vwCl (a, .inr (ci, fs)) H) (hA : A a) (hS : va_S A H0 H locs) {v : Value} (hl0 : k < fs.length) (hn : narrow ty v = v) (hfit : fits ty v = true)
    (kk : ∀ (H1 : Heap) (locs1 : List Loc), va_at D vwCl (a, .inr (ci, fs.set k v)) H1 → (∀ q, q ≠ a → H1[q]? = H[q]?) → H1.size = H.size → va_S A H0 H1 locs1 → W p l e R s m args below meth c H1 locs1 cells slots Q (F0 m (pc + 3) ls rest)) : W p l e R s m args below meth c H locs cells slots Q (F0 m pc ls (v :: .ref a :: rest)) := by
  obtain ⟨C, T, N, tys, ref, ⟨hc, hin, hty, hnm⟩, hk, hl, hsm, ht, hfin⟩ := Fk
  obtain ⟨hx, hb, -, hown, hK, -⟩ := X
  have hts : ∀ z ∈ WX, z.before args s = true := fun z hz => hK.1.use hz
  have hap := va_apart (own := own) hts hin tys hty hnm hK.2.1 hc
  obtain ⟨r, h1, cell, q1, q2, q3, q4⟩ := hat
  have hr : r = (C, T, N) := Option.some.inj (h1.symm.trans hc)
  subst hr
  obtain ⟨hSl, hfc, kC, hkC, hkind⟩ := hK.2.1.1 ci _ hc
  obtain ⟨cf, kf, fi, f, hi, hsl⟩ := hSl k hk
  have hlay := hts _ (hin _ (u_in_lay hk))
  unfold u_lay at hlay
  rw [if_neg (by rw [hfin]; decide)] at hlay
  have hst := (u_facts hfc hkC (u_lays hts hin hk) hi).1
  have h6 := u_store (v := v) hfc hkC hkind hlay hi (hty k hk) (by rw [ht]; exact hn) (by rw [ht]; exact hfit)
  refine W.putK hx hb (f := f) ⟨hown, hts _ hl, ⟨_, _, _, fk_same hK hsm _ hi⟩, hst⟩ (by rw [q2]; exact h6) q1 q3 (by rw [hsl]; exact k2_hasslot (q4 k hk)) rfl rfl hd fun H' e1 e2 e3 => ?_
  rw [hsl] at e1 ⊢
  exact kk H' _ ⟨_, hc, t_OB.to (V := updV (vp_V fs) k v) ⟨_, e1, q2, q3, t_set q4 hap hk v⟩ (fun j _ => vp_updV_set hl0 v j)⟩ e3 e2 (hS.put e2 e3 hA)
/-- a field that is written in constructors alone -/
theorem x_putF (X : Cx p c s m meth cc nL own D tc) (hin2 : meth.name = "<init>") (hd : decode cc pc = .ok (.putfield index, 3)) (Fk : FK own index ci k ty true) {C9 : String} {T9 : u_T} {N9 : Nat} (hc9 : vwCl[ci]? = some (C9, T9, N9)) (hdecl : (T9 k).1 = own) (hat : va_at D vwCl (a, .inr (ci, fs)) H) (hA : A a) (hS : va_S A H0 H locs) {v : Value} (hl0 : k < fs.length) (hn : narrow ty v = v) (hfit : fits ty v = true)
    (kk : ∀ (H1 : Heap) (locs1 : List Loc), va_at D vwCl (a, .inr (ci, fs.set k v)) H1 → (∀ q, q ≠ a → H1[q]? = H[q]?) → H1.size = H.size → va_S A H0 H1 locs1 → W p l e R s m args below meth c H1 locs1 cells slots Q (F0 m (pc + 3) ls rest)) : W p l e R s m args below meth c H locs cells slots Q (F0 m pc ls (v :: .ref a :: rest)) := by
  obtain ⟨C, T, N, tys, ref, ⟨hc, hin, hty, hnm⟩, hk, hl, hsm, ht, hfin⟩ := Fk
  cases hc9.symm.trans hc
  obtain ⟨hx, hb, -, hown, hK, -⟩ := X
  have hts : ∀ z ∈ WX, z.before args s = true := fun z hz => hK.1.use hz
  have hap := va_apart (own := own) hts hin tys hty hnm hK.2.1 hc
  obtain ⟨r, h1, cell, q1, q2, q3, q4⟩ := hat
  have hr : r = (C9, T9, N9) := Option.some.inj (h1.symm.trans hc)
  subst hr
  obtain ⟨hSl, hfc, kC, hkC, hkind⟩ := hK.2.1.1 ci _ hc
  obtain ⟨cf, kf, fi, f, hi, hsl⟩ := hSl k hk
  have hlay := hts _ (hin _ (u_in_lay hk))
  unfold u_lay at hlay
  rw [if_pos hfin] at hlay
  have hst := (u_facts hfc hkC (u_lays hts hin hk) hi).1
  have hcf : m.cls = cf := by
    obtain ⟨_, _, c', _, _, _, -, -, hf', -, -, -, hown2, -⟩ := Cond.laysFinal_spec hlay
    have e1 : c' = cf := by have := hi.symm.trans hf'; simp at this; exact this.1.symm
    rw [hdecl] at hown2
    rw [← e1]; exact Option.some.inj (hown.symm.trans hown2)
  have h6 := u_fits (v := v) hfc hkC hkind (Or.inr hlay) hi (hty k hk) (by rw [ht]; exact hn) (by rw [ht]; exact hfit)
  refine W.putFinK hx hb hown (hts _ hl) (fk_same hK hsm _ hi) hst hcf hin2 (by rw [q2]; exact h6) q1 q3 (by rw [hsl]; exact k2_hasslot (q4 k hk)) rfl rfl hd fun H' e1 e2 e3 => ?_
  rw [hsl] at e1 ⊢
  exact kk H' _ ⟨_, hc, t_OB.to (V := updV (vp_V fs) k v) ⟨_, e1, q2, q3, t_set q4 hap hk v⟩ (fun j _ => vp_updV_set hl0 v j)⟩ e3 e2 (hS.put e2 e3 hA)
/-- rows of objects -/
theorem x_ald (X : Cx p c s m meth cc nL own D tc) (hd : decode cc pc = .ok (.aaload, 1)) (hat : va_at D vwCl (b, .inl (tc 9, cap, .inr (.inr (.inr (.inr F))))) H) {x : Int32} (hin : vp_in x cap) {v : Value} (hv : va_rf (F x.toNatClampNeg) = v)
    (kk : W p l e R s m args below meth c H locs cells slots Q (F0 m (pc + 1) ls (v :: rest))) : W p l e R s m args below meth c H locs cells slots Q (F0 m pc ls (.int x :: .ref b :: rest)) := by
  subst hv
  exact va_aldq X.1 X.2.1 X.2.2.2.2.1.2.1 (p1 hat) 0 9 rfl rfl hin hd kk
theorem x_len (X : Cx p c s m meth cc nL own D tc) (hd : decode cc pc = .ok (.arraylength, 1)) (hat : va_at D vwCl (b, .inl (tc 9, cap, .inr (.inr (.inr (.inr F))))) H)
    (kk : W p l e R s m args below meth c H locs cells slots Q (F0 m (pc + 1) ls (.int (nI cap) :: rest))) : W p l e R s m args below meth c H locs cells slots Q (F0 m pc ls (.ref b :: rest)) :=
  va_alen X.1 X.2.1 X.2.2.2.2.1.2.1 (p1 hat) 0 9 rfl rfl rfl hd kk
theorem x_ast (X : Cx p c s m meth cc nL own D tc) (hd : decode cc pc = .ok (.aastore, 1)) (hat : va_at D vwCl (b, .inl (tc 9, cap, .inr (.inr (.inr (.inr F))))) H) (hA : A b) (hS : va_S A H0 H locs) {v : Nat} (hv : va_Any "java/lang/Object" s H v) {x : Int32} (hin : vp_in x cap)
    (kk : ∀ (H1 : Heap) (locs1 : List Loc), va_at D vwCl (b, .inl (tc 9, cap, .inr (.inr (.inr (.inr (va_up F x.toNatClampNeg (some v))))))) H1 → (∀ q, q ≠ b → H1[q]? = H[q]?) → H1.size = H.size → va_S A H0 H1 locs1 → W p l e R s m args below meth c H1 locs1 cells slots Q (F0 m (pc + 1) ls rest)) : W p l e R s m args below meth c H locs cells slots Q (F0 m pc ls (.ref v :: .int x :: .ref b :: rest)) := by
  obtain ⟨hx, hb, -, hown, hK, -⟩ := X
  have hlt : x.toNatClampNeg < cap := Nat.not_le.mp fun q => hin (Or.inr q)
  obtain ⟨cellV, g1, g3, ⟨kC, hkC⟩, hasg⟩ := hv
  obtain ⟨kA, comp, k1, k2, k3, -⟩ := (hK.2.1.2 9 _ rfl).2
  obtain ⟨kE, hkE, -⟩ := Vm.findClass_spec k3
  refine W.aast hx hb hat (fun q h => by cases h) (fun h => by cases h) k1 k2 rfl hkE ⟨fun q => hin (Or.inl q), by show _ < (arrV _ _ _).slots.size; rw [arrV_size]; exact hlt⟩ g1 (fun q h => by rw [h] at g3; cases g3) hkC (hasg _ k3) rfl rfl hd fun H1 e z oq => ?_
  refine kk H1 _ ?_ oq z (hS.put z oq hA)
  show H1[b]? = some (vp_cell _ _)
  rw [e, vp_cell_q, vp_cell_q, arrV_store]
  congr 2
  funext q
  by_cases hq : q = x.toNatClampNeg
  · subst hq
    simp [updV, va_up, va_rf]
  · simp [updV, va_up, hq]
theorem x_astN (X : Cx p c s m meth cc nL own D tc) (hd : decode cc pc = .ok (.aastore, 1)) (hat : va_at D vwCl (b, .inl (tc 9, cap, .inr (.inr (.inr (.inr F))))) H) (hA : A b) (hS : va_S A H0 H locs) {x : Int32} (hin : vp_in x cap)
    (kk : ∀ (H1 : Heap) (locs1 : List Loc), va_at D vwCl (b, .inl (tc 9, cap, .inr (.inr (.inr (.inr (va_up F x.toNatClampNeg none)))))) H1 → (∀ q, q ≠ b → H1[q]? = H[q]?) → H1.size = H.size → va_S A H0 H1 locs1 → W p l e R s m args below meth c H1 locs1 cells slots Q (F0 m (pc + 1) ls rest)) : W p l e R s m args below meth c H locs cells slots Q (F0 m pc ls (.null :: .int x :: .ref b :: rest)) := by
  obtain ⟨hx, hb, -, hown, hK, -⟩ := X
  refine va_WaastN (C := "java/lang/Object") hx hb hat ((hK.2.1.2 9 _ rfl).1 cap (fun j => va_rf (F j))) (fun h => by cases h) (by show ¬ (x < 0 ∨ (arrV _ _ _).slots.size ≤ _); rw [arrV_size]; exact hin) rfl rfl hd fun H1 e z oq => ?_
  refine kk H1 _ ?_ oq z (hS.put z oq hA)
  show H1[b]? = some (vp_cell _ _)
  rw [e, vp_cell_q, vp_cell_q, arrV_store]
  congr 2
  funext q
  by_cases hq : q = x.toNatClampNeg
  · subst hq
    simp [updV, va_up, va_rf]
  · simp [updV, va_up, hq]
theorem cl_nn {z : Int32} (hz : ¬ z < 0) : z.toInt = (z.toNatClampNeg : Int) := by
  have hz0 : (0 : Int) ≤ z.toInt := by
    have := Int32.not_lt.mp hz
    simpa using Int32.le_iff_toInt_le.mp this
  show z.toInt = ((z.toInt.toNat : Nat) : Int)
  omega
/-- a run of a row of ints is copied -/
theorem x_copyi (X : Cx p c s m meth cc nL own D tc) (hsz : ls.size = nL) (hl : Cond.methodLink own index arraycopyName ∈ WX) (hst : Cond.static arraycopyName ∈ WX) (hini : Cond.initialized "java/lang/System" ∈ WX) {f g : Nat → Int32} {n0 n1 : Nat} (ha0 : va_at D vwCl (b, .inl (tc 0, n0, .inl f)) H) (ha1 : va_at D vwCl (a, .inl (tc 0, n1, .inl g)) H) (hA : A a) (hS : va_S A H0 H locs)
    {sp dp n : Int32} (h1 : ¬ sp < 0) (h2 : ¬ dp < 0) (h3 : ¬ n < 0) (h4 : sp.toNatClampNeg + n.toNatClampNeg ≤ n0) (h5 : dp.toNatClampNeg + n.toNatClampNeg ≤ n1) (hR : 1 ≤ R.frames ∧ (rest.map fun v => v.category).sum + (nativeFrameWords "java/lang/System" "arraycopy" 5 + 11) ≤ R.locals) (hd : decode cc pc = .ok (.invokestatic index, 3))
    (kk : ∀ (H1 : Heap) (locs1 : List Loc), va_at D vwCl (a, .inl (tc 0, n1, .inl (va_cpy f g sp.toNatClampNeg dp.toNatClampNeg n.toNatClampNeg))) H1 → (∀ q, q ≠ a → H1[q]? = H[q]?) → H1.size = H.size → va_S A H0 H1 locs1 → W p l e R s m args below meth c H1 locs1 cells slots Q (F0 m (pc + 3) ls rest)) : W p l e R s m args below meth c H locs cells slots Q (F0 m pc ls (.int n :: .int dp :: .ref a :: .int sp :: .ref b :: rest)) := by
  obtain ⟨hx, hb, hml, hown, hK, -⟩ := X
  have hU := hK.1
  intro T hT Xs
  obtain ⟨-, k0, hk0, cm0, hkk0⟩ := (hK.2.1.2 0 _ rfl).1 n0 (fun j => .int (f j))
  obtain ⟨vm', X', step⟩ := Xs.arraycopy hx hown (hU.use hl) (hK.2.2.2.2.2.2.nat (by decide)) (hU.use hst) (hU.use hini) (src := b) (dst := a) (cs := vp_cell (tc 0) (n0, .inl f)) (cd := vp_cell (tc 0) (n1, .inl g)) (srcPos := sp) (destPos := dp) (n := n) (by rw [hT]; exact ha0) (by rw [hT]; exact ha1)
    (fun _ h => by cases h) (fun _ h => by cases h) (fun h => by cases h) (fun h => by cases h) hk0 hk0 hkk0 hkk0 rfl h1 h2 h3
    (by rw [cl_nn h1, cl_nn h3]; show ¬ _ > ((arrV (tc 0) n0 (fun j => .int (f j))).slots.size : Int); rw [arrV_size]; omega)
    (by rw [cl_nn h2, cl_nn h3]; show ¬ _ > ((arrV (tc 0) n1 (fun j => .int (g j))).slots.size : Int); rw [arrV_size]; omega)
    (fun vm₁ _ i hi => by
      have e : (vp_cell (tc 0) (n0, .inl f)).slots.getD (sp.toNatClampNeg + i) .null = .int (f (sp.toNatClampNeg + i)) := by
        show (arrV (tc 0) n0 (fun j => .int (f j))).slots.getD _ _ = _
        rw [Array.getD_eq_getD_getElem?, arrV_read _ _ (by omega)]
        rfl
      rw [e]
      exact ⟨rfl, trivial⟩)
    (g := F0 m pc ls (.int n :: .int dp :: .ref a :: .int sp :: .ref b :: rest)) rfl (hsz.trans hml.symm) (rest := rest) rfl (by rw [hb]; exact hd) hR.1 (by show 2 * 0 + _ + _ ≤ _; have := hR.2; omega)
  have e1 : copied (vp_cell (tc 0) (n0, .inl f)) (vp_cell (tc 0) (n1, .inl g)) sp dp n = vp_cell (tc 0) (n1, .inl (va_cpy f g sp.toNatClampNeg dp.toNatClampNeg n.toNatClampNeg)) := va_copied (fun z => .int z) (tc 0) (tc 0) f g h4
  rw [e1] at X' step
  have hl : a < H.size := (Array.getElem?_eq_some_iff.mp (show H[a]? = _ from ha1)).1
  have hheap : ((T.setVm vm').setCell a (vp_cell (tc 0) (n1, .inl (va_cpy f g sp.toNatClampNeg dp.toNatClampNeg n.toNatClampNeg)))).heap = H.setIfInBounds a (vp_cell (tc 0) (n1, .inl (va_cpy f g sp.toNatClampNeg dp.toNatClampNeg n.toNatClampNeg))) := by rw [← hT]; rfl
  have oq : ∀ q : Nat, q ≠ a → (H.setIfInBounds a (vp_cell (tc 0) (n1, .inl (va_cpy f g sp.toNatClampNeg dp.toNatClampNeg n.toNatClampNeg))))[q]? = H[q]? := fun q hq => by simp [Array.getElem?_setIfInBounds, Ne.symm hq]
  obtain ⟨t, a1, b1⟩ := kk _ _ (show (H.setIfInBounds a _)[a]? = some _ by simp [Array.getElem?_setIfInBounds, hl]) oq (by simp) ⟨by simp; exact hS.1, fun q g1 g2 => by
      rw [oq q (fun e => g2 (by rw [e]; exact hA))]
      exact hS.2.1 q g1 g2, fun q hq => by
      rcases List.mem_append.mp hq with h | h
      · exact hS.2.2 q h
      · obtain ⟨z, -, hz⟩ := List.mem_map.mp h
        rw [← hz]
        exact hA⟩ _ hheap X'
  exact ⟨t, step t a1, b1⟩
/-- a row of three ints is cloned -/
theorem x_clone (X : Cx p c s m meth cc nL own D tc) (hsz : ls.size = nL) (hl : Cond.methodLink own index ⟨"[I", "clone", "()Ljava/lang/Object;"⟩ ∈ WX) (hsame : Cond.sameMethod "[I" "java/lang/Object" "clone" "()Ljava/lang/Object;" ∈ WX) (hinst : Cond.instanceMethod ⟨"java/lang/Object", "clone", "()Ljava/lang/Object;"⟩ ∈ WX) (hsel : Cond.selects "[I" ⟨"[I", "clone", "()Ljava/lang/Object;"⟩ ⟨"java/lang/Object", "clone", "()Ljava/lang/Object;"⟩ ∈ WX) (hcl : Cond.castable "[I" "java/lang/Cloneable" ∈ WX)
    {f : Nat → Int32} {n0 : Nat} (ha : va_at D vwCl (a, .inl (tc 0, n0, .inl f)) H) (hS : va_S A H0 H locs) (hA : ∀ q, H0.size ≤ q → A q) (hR : 1 ≤ R.frames ∧ (rest.map fun v => v.category).sum + 14 ≤ R.locals) (hcs : cells + 1 ≤ R.cells ∧ slots + n0 ≤ R.slots) (hd : decode cc pc = .ok (.invokevirtual index, 3))
    (kk : ∀ (q : Nat) (H1 : Heap), H.size ≤ q → va_at D vwCl (q, .inl (tc 0, n0, .inl f)) H1 → A q → H.size ≤ H1.size → q < H1.size → (∀ x, x < H.size → H1[x]? = H[x]?) → va_S A H0 H1 locs → W p l e R s m args below meth c H1 locs (cells + 1) (slots + n0) Q (F0 m (pc + 3) ls (.ref q :: rest))) : W p l e R s m args below meth c H locs cells slots Q (F0 m pc ls (.ref a :: rest)) := by
  obtain ⟨hx, hb, hml, hown, hK, -⟩ := X
  have hU := hK.1
  have hsl : (vp_cell (tc 0) (n0, .inl f)).slots.size = n0 := arrV_size _ _ _
  obtain ⟨c0, t0', f1, f2, f3⟩ := Cond.castable_spec (args := args) (hU.use hcl)
  cases (nm_int hK).symm.trans f1
  intro T hT Xs
  have hcellT : T.heap[a]? = some (vp_cell (tc 0) (n0, .inl f)) := by rw [hT]; exact ha
  obtain ⟨-, kA, hkA, comp, hkind⟩ := State.isArrayOf_alike Xs.warmed.alike ((hK.2.1.2 0 _ rfl).1 0 (fun _ => .null))
  obtain ⟨-, kS, hkS, compS, hkindS⟩ := (hK.2.1.2 0 _ rfl).1 0 (fun _ => .null)
  obtain ⟨vm', X', st⟩ := Xs.cloneArray hx hown (hU.use hl) (hU.use hsame) (hK.2.2.2.2.2.2.nat (by decide)) (hU.use hinst) (hU.use hsel) (a := a) (cell := vp_cell (tc 0) (n0, .inl f)) hcellT (fun k h => by cases h) (fun h => by cases h) (nm_int hK) f2 f3
    (fun i v hv => by
      have hk' : T.vm.classes[tc 0]? = some kA := hkA
      have hv' : (arrV (tc 0) n0 (fun j => .int (f j))).slots[i]? = some v := hv
      have hi : i < n0 := by
        have := (Array.getElem?_eq_some_iff.mp hv').1
        rwa [arrV_size] at this
      rw [arrV_read _ _ hi] at hv'
      cases hv'
      show T.fitsSlot (tc 0) _ i _ = true
      simp [State.fitsSlot, State.slotType?, hk', hkind]
      rfl)
    (g := F0 m pc ls (.ref a :: rest)) rfl (hsz.trans hml.symm) rfl (by rw [hb]; exact hd) hR.1 (by show 2 * 0 + _ + 14 ≤ _; have := hR.2; omega) hcs.1 (by rw [hsl]; exact hcs.2) (hloader := Vm.clonesLoader_of_array hkS hkindS)
  rw [hsl] at X'
  generalize hH1 : H.push (vp_cell (tc 0) (n0, .inl f)) = H1
  have z1 : H1.size = H.size + 1 := by rw [← hH1, Array.size_push]
  have e1 : H1[H.size]? = some (vp_cell (tc 0) (n0, .inl f)) := by rw [← hH1, Array.getElem?_push_size]
  have o1 : ∀ q : Nat, q < H.size → H1[q]? = H[q]? := fun q hq => by rw [← hH1, Array.getElem?_push, if_neg (Nat.ne_of_lt hq)]
  obtain ⟨t, b1, b2⟩ := kk H.size H1 (Nat.le_refl _) e1 (hA _ hS.1) (by omega) (by omega) o1 ⟨Nat.le_trans hS.1 (by omega), fun x h1 h2 => (o1 x (Nat.lt_of_lt_of_le h1 hS.1)).trans (hS.2.1 x h1 h2), hS.2.2⟩ _ (by rw [← hH1, ← hT]; rfl) X'
  refine ⟨t, st t ?_, b2⟩
  rw [hT]
  exact b1
end JROWS
