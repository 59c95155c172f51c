/-! THE LAW: rows, contracts of its wrappers -/
section LAWROWS
variable {p : Program} {l : Launch} {e : Env} {R : Room} {s : State} {m : MethodId} {args : Array Value} {below : List Frame} {meth : Method} {c : Code} {H : Heap} {locs : List Loc} {cells slots : Nat} {Q : State → Prop}
variable {cc : ByteArray} {nL : Nat} {own : String} {D : va_G} {tc : Nat → ClassId} {pc : Nat} {ls : Array Slot} {rest : List Value} {A A1 : Nat → Prop} {H0 : Heap} {b cap : Nat}
theorem x_lald (X : Cx p c s m meth cc nL own D tc) (hd : decode cc pc = .ok (.laload, 1)) {f : Nat → Int64} (hat : va_at D vwCl (b, .inl (tc 3, cap, .inr (.inl f))) H) {x : Int32} (hin : vp_in x cap)
    (kk : W p l e R s m args below meth c H locs cells slots Q (F0 m (pc + 1) ls (.long (f x.toNatClampNeg) :: rest))) : W p l e R s m args below meth c H locs cells slots Q (F0 m pc ls (.int x :: .ref b :: rest)) := by
  obtain ⟨hx, hb, -, hown, hK, -⟩ := X
  have hlt : x.toNatClampNeg < cap := Nat.not_le.mp fun q => hin (Or.inr q)
  exact W.lald (v := .long (f x.toNatClampNeg)) hx hb hat ((hK.2.1.2 3 _ rfl).1 cap (fun j => .long (f j))) (fun q => by cases q) (by show ¬ (x < 0 ∨ (arrV _ _ _).slots.size ≤ _); rw [arrV_size]; exact hin) (by show (arrV _ _ _).slots[_]? = _; rw [arrV_read _ _ hlt]) rfl rfl hd kk
theorem x_dald (X : Cx p c s m meth cc nL own D tc) (hd : decode cc pc = .ok (.daload, 1)) {f : Nat → UInt64} (hat : va_at D vwCl (b, .inl (tc 4, cap, .inr (.inr (.inr (.inl f))))) H) {x : Int32} (hin : vp_in x cap)
    (kk : W p l e R s m args below meth c H locs cells slots Q (F0 m (pc + 1) ls (.double (f x.toNatClampNeg) :: rest))) : W p l e R s m args below meth c H locs cells slots Q (F0 m pc ls (.int x :: .ref b :: rest)) := by
  obtain ⟨hx, hb, -, hown, hK, -⟩ := X
  have hlt : x.toNatClampNeg < cap := Nat.not_le.mp fun q => hin (Or.inr q)
  exact W.dald (v := .double (f x.toNatClampNeg)) hx hb hat ((hK.2.1.2 4 _ rfl).1 cap (fun j => .double (f j))) (fun q => by cases q) (by show ¬ (x < 0 ∨ (arrV _ _ _).slots.size ≤ _); rw [arrV_size]; exact hin) (by show (arrV _ _ _).slots[_]? = _; rw [arrV_read _ _ hlt]) rfl rfl hd kk
theorem x_dast (X : Cx p c s m meth cc nL own D tc) (hd : decode cc pc = .ok (.dastore, 1)) {f : Nat → UInt64} (hat : va_at D vwCl (b, .inl (tc 4, cap, .inr (.inr (.inr (.inl f))))) H) (hA : A b) (hS : va_S A H0 H locs) {v : UInt64} {x : Int32} (hin : vp_in x cap)
    (kk : ∀ (H1 : Heap) (locs1 : List Loc), va_at D vwCl (b, .inl (tc 4, cap, .inr (.inr (.inr (.inl (va_up f x.toNatClampNeg v)))))) H1 → (∀ q, q ≠ b → H1[q]? = H[q]?) → H1.size = H.size → va_S A H0 H1 locs1 → W p l e R s m args below meth c H1 locs1 cells slots Q (F0 m (pc + 1) ls rest)) : W p l e R s m args below meth c H locs cells slots Q (F0 m pc ls (.double v :: .int x :: .ref b :: rest)) := by
  obtain ⟨hx, hb, -, hown, hK, -⟩ := X
  refine W.dast hx hb hat ((hK.2.1.2 4 _ rfl).1 cap (fun j => .double (f j))) (fun h => by cases h) (by show ¬ (x < 0 ∨ (arrV _ _ _).slots.size ≤ _); rw [arrV_size]; exact hin) rfl rfl hd fun H1 e z oq => ?_
  refine kk H1 _ ?_ oq z (hS.put z oq hA)
  show H1[b]? = some (vp_cell _ _)
  rw [e, vp_cell_d, vp_cell_d, arrV_store]
  congr 2
  funext q
  by_cases hq : q = x.toNatClampNeg
  · subst hq
    simp [updV, va_up]
  · simp [updV, va_up, hq]
end LAWROWS
/-- none of the six exceptions is another one -/
def NC (U : State) : Prop := ∀ i j : Nat, i < 6 → j < 6 → i ≠ j → va_Nc (xn i) (xn j) U
theorem NC.moved {u U : State} (hvm : u.vm.Alike U.vm) (h : NC u) : NC U := fun i j hi hj hij => (h i j hi hj hij).moved hvm
def PL (av : List Value) (D : va_G) (tc : Nat → ClassId) (h0 : Nat) (sa : Nat → Nat) (H0 : Heap) : Array Value → State → Prop := va_Pc av (fun U => (KK D tc U ∧ NC U) ∧ ST h0 sa U U.heap ∧ U.heap = H0)
theorem PL.blind {av : List Value} {D : va_G} {tc : Nat → ClassId} {h0 : Nat} {sa : Nat → Nat} {H0 : Heap} : FrameBlind (PL av D tc h0 sa H0) := fun a U g mk h => by
  obtain ⟨h1, h2, h3, h4⟩ := h
  exact ⟨h1, ⟨KK.same (s := U) (U := U.calling g mk a) rfl h2.1, h2.2⟩, ST.moved (U := U.calling g mk a) (State.WarmedH.refl _) h3, h4⟩
def ML {S : Type} (l : Launch) (y : MethodName) (code : ByteArray) (nL : Nat) (hh : List (Nat × Nat × Nat × Nat)) (rm : Room) (A : Nat → Prop) (av : List Value) (D : va_G) (tc : Nat → ClassId) (h0 : Nat) (sa : Nat → Nat) (H0 : Heap) (post : S → Prop) (POST : S → Heap → Prop) (rv : S → Option Value) : Prop :=
  Met l y [.codeWith y code nL (some .int) hh] rm (PL av D tc h0 sa H0) (QB post POST rv A) rm.cells rm.slots A
theorem ML.of {S : Type} {l : Launch} {y : MethodName} {code : ByteArray} {nL : Nat} {hh : List (Nat × Nat × Nat × Nat)} {rm : Room} {A : Nat → Prop} {av : List Value} {D : va_G} {tc : Nat → ClassId} {h0 : Nat} {sa : Nat → Nat} {H0 : Heap} {post : S → Prop} {POST : S → Heap → Prop} {rv : S → Option Value} (own : String) (lv : List (Nat × Value))
    (hy : plainName y.cls = true) (ho : y.cls = own) (hlen : (lg_sl av).length ≤ nL) (hlv : lv_args 0 av = lv)
    (body : ∀ (p : Program) (e : Env) (s : State) (m : MethodId) (below : List Frame) (meth : Method) (c : Code) (ls : Array Slot), Cx p c s m meth code nL own D tc → NC s → meth.sig.returnType = some .int → c.exceptionTable.toList = tableOf hh → ST h0 sa s s.heap → s.heap = H0 → va_S A s.heap s.heap [] → lv_has ls nL lv →
      W p l e rm s m av.toArray below meth c s.heap [] 0 0 (MQ below (QB post POST rv A) av.toArray s rm.cells rm.slots A) (F0 m 0 ls [])) : ML l y code nL hh rm A av D tc h0 sa H0 post POST rv := by
  unfold ML
  refine MetFree.of_bodyS (code := code) (maxLocals := nL) (ret := some .int) hy ?_ ?_
  · intro args s m h hn
    obtain ⟨m9, meth, c, hn9, h1, h2, h3, h4, -, h5, h6, -⟩ := Cond.codeWith_spec (atoms_spec (ws := [Cond.codeWith y code nL (some .int) hh]) h _ List.mem_cons_self)
    cases hn.symm.trans hn9
    exact ⟨meth, c, h1, h2, h3, h4, h5, h6⟩
  · intro p e s m args below meth c s₁ B hml hP _
    have htab := vx_table (x := y) B (atoms_spec (ws := [Cond.codeWith y code nL (some .int) hh]) B.pre _ List.mem_cons_self)
    have hh0 : s₁.heap = s.heap := by rw [B.state]; rfl
    obtain ⟨rfl, ⟨hK, hN⟩, hT, hH⟩ := hP
    subst hlv
    have hl := lv_entry av hlen
    obtain ⟨t, a1, o, b1, b2, b3⟩ := (show W p l e rm s m av.toArray below meth c s.heap [] 0 0 (MQ below (QB post POST rv A) av.toArray s rm.cells rm.slots A) (entryFrame m av.toArray nL) by
      rw [lg_entry_eq]
      exact body p e s m below meth c _ ⟨B.exec, B.bytes, hml, ho ▸ findClass_of_methodNamed B.named, hK, B.notSynchronized⟩ hN B.returns htab hT hH va_S.rf hl) s₁ hh0 (Stand.of_body B)
    exact ⟨t, o, a1, b1, b2, ⟨b3.1, b3.2⟩⟩
/-- the words of a wrapper at its call in the law -/
def MW (own : String) (index : Nat) (y : MethodName) (code : ByteArray) (nL : Nat) (hh : List (Nat × Nat × Nat × Nat)) (n : Nat) : Prop := notMH y n ∧ Cond.codeWith y code nL (some .int) hh ∈ WX ∧ Cond.initialized y.cls ∈ WX ∧ Cond.methodLink own index y ∈ WX ∧ Cond.static y ∈ WX
section LAWCALLS
variable {p : Program} {l : Launch} {e : Env} {R : Room} {s : State} {m : MethodId} {args : Array Value} {below : List Frame} {meth : Method} {c : Code} {H : Heap} {locs : List Loc} {cells slots : Nat} {Q : State → Prop}
variable {cc : ByteArray} {nL : Nat} {own : String} {D : va_G} {tc : Nat → ClassId} {pc : Nat} {ls : Array Slot} {rest : List Value} {A A1 : Nat → Prop} {H0 : Heap}
variable {S : Type} {post : S → Prop} {POST : S → Heap → Prop} {rv : S → Option Value} {rm : Room} {y : MethodName} {code : ByteArray} {kL n index : Nat} {hh : List (Nat × Nat × Nat × Nat)} {As st0 : List Value} {b h0 : Nat} {sa : Nat → Nat}
theorem PL.pre {av : List Value} {h0 : Nat} {sa : Nat → Nat} (hK : KK D tc s) (hN : NC s) (hT : ST h0 sa s s.heap) (hS : va_S A s.heap H locs) (hA0 : ∀ q, A q → h0 ≤ q) : ∀ U : State, U.heap = H → s.WarmedH U.vm → PL av D tc h0 sa H av.toArray U := fun U hU hW => ⟨rfl, ⟨hK.warm hW, hN.moved hW.alike⟩, hT.at hS hA0 hU hW, hU⟩
theorem g_L (X : Cx p c s m meth cc nL own D tc) (hN : NC s) (M : MW own index y code kL hh n) (hM : ML l y code kL hh rm A1 As D tc h0 sa H post POST rv) (hT : ST h0 sa s s.heap) (hS : va_S A s.heap H locs) (hA0 : ∀ q, A q → h0 ≤ q)
    (hd : decode cc pc = .ok (.invokestatic index, 3)) (hsz : ls.size = nL) (hn : As.length = n) (hst : st0 = As.reverse ++ rest) (hR : rm.frames + 1 ≤ R.frames ∧ 8 + (kL + 11) + rm.locals ≤ R.locals) (hW : (rest.map fun v => v.category).sum ≤ 8) (hf : cells + rm.cells ≤ R.cells ∧ slots + rm.slots ≤ R.slots) :
    va_Run p l e R s m args below meth c H locs cells slots rm.cells rm.slots (F0 m pc ls st0) rest (QB post POST rv A1 As.toArray) A1 := by
  subst hst
  have hU := X.2.2.2.2.1.1
  obtain ⟨⟨h1, h2, h3⟩, h4, h5, h6, h7⟩ := M
  exact vx_runSW (As := As) (rest := rest) X.fix hM ⟨⟨rfl, rfl, hR.1, hR.2, pay1 hU h4, List.mem_cons_self⟩, hU.use h4, hU.use h5, ⟨h1, h2⟩, fun sig h => by rw [h] at h3; exact (Option.some.inj h3).symm, hU.use h6, hU.use h7⟩ ⟨PL.blind, PL.pre X.2.2.2.2.1 hN hT hS hA0⟩ rfl hn hsz rfl (lv_room hW) hd hf
/-- the law catches -/
theorem g_catch (X : Cx p c s m meth cc nL own D tc) (htab : c.exceptionTable.toList = tableOf hh) (pre suf : List (Nat × Nat × Nat × Nat)) {a b9 hp ct k : Nat} {ce : Cell} {q9 : Addr} (hsp : hh = pre ++ (a, b9, hp, ct) :: suf) (hpass : ∀ z ∈ pre, z.2.2.2 ≠ 0 ∧ ∃ nm : String, Cond.classLink own z.2.2.2 nm ∈ WX ∧ va_Nc (xn k) nm s) (hcov : covers ⟨a, b9, hp, ct⟩ pc = true) (hct : ct ≠ 0) (hlink : Cond.classLink own ct (xn k) ∈ WX) (hcast : Cond.castable (xn k) (xn k) ∈ WX) (hce : H[q9]? = some ce) (hcv : ce.vm = .none) (hcl : s.vm.findClass (xn k) = some ce.cls)
    (kk : W p l e R s m args below meth c H locs cells slots Q (F0 m hp ls [.ref q9])) : vx_W p l e R s m args below meth c H locs cells slots Q (F0 m pc ls rest) q9 := by
  have hU := X.2.2.2.2.1.1
  refine vx_catch (E := xn k) (name := xn k) X.2.2.2.1 (tableOf pre) ⟨a, b9, hp, ct⟩ (tableOf suf) (by rw [htab, hsp]; simp [tableOf]) (fun z hz => ?_) hcov hct (hU.use hlink) (hU.use hcast) hce hcv hcl kk
  obtain ⟨y9, hy, rfl⟩ := List.mem_map.mp hz
  obtain ⟨h1, nm, h2, h3⟩ := hpass y9 hy
  exact Or.inr ⟨h1, nm, hU.use h2, h3⟩
end LAWCALLS
/-- what a wrapper answers: the class's own end, or the number of the exception -/
def LPo {S : Type} (post : S → Prop) (xpost : Nat → Prop) : S ⊕ Nat → Prop := fun u => match u with | .inl v => post v | .inr k => xpost k
def LRo {S : Type} (num : Nat → Int32) : S ⊕ Nat → Option Value := fun u => match u with | .inl _ => some (.int 0) | .inr k => some (.int (num k))
def LQo {S : Type} (D : va_G) (tc : Nat → ClassId) (ob : Nat) (f : Nat → Int64) (ri : S → Int64) (POST : S → Heap → Prop) (H0 : Heap) : S ⊕ Nat → Heap → Prop := fun u H1 => match u with
  | .inl v => va_at D vwCl (ob, .inl (tc 3, 1, .inr (.inl (va_up f 0 (ri v))))) H1 ∧ ∃ H9 : Heap, POST v H9 ∧ H1.size = H9.size ∧ ∀ q, q ≠ ob → H1[q]? = H9[q]?
  | .inr _ => va_at D vwCl (ob, .inl (tc 3, 1, .inr (.inl f))) H1 ∧ ∀ q, q < H0.size → H1[q]? = H0[q]?
def LQdo {S : Type} (D : va_G) (tc : Nat → ClassId) (ob : Nat) (f : Nat → UInt64) (ri : S → UInt64) (POST : S → Heap → Prop) (H0 : Heap) : S ⊕ Nat → Heap → Prop := fun u H1 => match u with
  | .inl v => va_at D vwCl (ob, .inl (tc 4, 1, .inr (.inr (.inr (.inl (va_up f 0 (ri v))))))) H1 ∧ ∃ H9 : Heap, POST v H9 ∧ H1.size = H9.size ∧ ∀ q, q ≠ ob → H1[q]? = H9[q]?
  | .inr _ => va_at D vwCl (ob, .inl (tc 4, 1, .inr (.inr (.inr (.inl f))))) H1 ∧ ∀ q, q < H0.size → H1[q]? = H0[q]?
theorem in01 : vp_in 0 1 := by
  unfold vp_in
  decide
/-- the place of a number in a list, from 1 -/
def xnum : List Nat → Nat → Int32 → Int32
  | [], _, _ => 0
  | a :: r, k, i => if k = a then i else xnum r k (i + 1)
theorem xl_13 : Cond.classLink RL 13 (xn 0) ∈ WX := w_368
theorem xl_15 : Cond.classLink RL 15 (xn 1) ∈ WX := w_448
theorem xc_0 : Cond.castable (xn 0) (xn 0) ∈ WX := w_458
theorem xc_1 : Cond.castable (xn 1) (xn 1) ∈ WX := w_474
theorem xl_34 : Cond.classLink RL 34 (xn 4) ∈ WX := w_527
theorem xc_4 : Cond.castable (xn 4) (xn 4) ∈ WX := w_538
theorem xl_64 : Cond.classLink RL 64 (xn 2) ∈ WX := w_632
theorem xc_2 : Cond.castable (xn 2) (xn 2) ∈ WX := w_645
theorem xl_70 : Cond.classLink RL 70 (xn 3) ∈ WX := w_666
theorem xc_3 : Cond.castable (xn 3) (xn 3) ∈ WX := w_683
theorem xl_157 : Cond.classLink RL 157 (xn 5) ∈ WX := w_1119
theorem xc_5 : Cond.castable (xn 5) (xn 5) ∈ WX := w_1131
theorem mw_163 : MW RL 163 yL_setTemperature cL_setTemperature 5 [(0, 10, 13, 13), (0, 10, 17, 15)] 4 := ⟨⟨by decide +kernel, by decide +kernel, by decide +kernel⟩, w_367, w_0, w_365, w_366⟩
theorem mw_172 : MW RL 172 yL_getTemperature cL_getTemperature 4 [(0, 9, 12, 13)] 3 := ⟨⟨by decide +kernel, by decide +kernel, by decide +kernel⟩, w_494, w_0, w_492, w_493⟩
theorem mw_176 : MW RL 176 yL_setVapour cL_setVapour 6 [(0, 12, 15, 13), (0, 12, 19, 15)] 5 := ⟨⟨by decide +kernel, by decide +kernel, by decide +kernel⟩, w_501, w_0, w_499, w_500⟩
theorem mw_180 : MW RL 180 yL_getVapour cL_getVapour 5 [(0, 10, 13, 13)] 4 := ⟨⟨by decide +kernel, by decide +kernel, by decide +kernel⟩, w_512, w_0, w_510, w_511⟩
theorem mw_183 : MW RL 183 yL_getIce cL_getIce 5 [(0, 10, 13, 13)] 4 := ⟨⟨by decide +kernel, by decide +kernel, by decide +kernel⟩, w_519, w_0, w_517, w_518⟩
theorem mw_186 : MW RL 186 yL_deck cL_deck 4 [(0, 9, 12, 13), (0, 9, 15, 34)] 3 := ⟨⟨by decide +kernel, by decide +kernel, by decide +kernel⟩, w_526, w_0, w_524, w_525⟩
theorem mw_189 : MW RL 189 yL_setCore cL_setCore 4 [(0, 9, 12, 15)] 3 := ⟨⟨by decide +kernel, by decide +kernel, by decide +kernel⟩, w_554, w_0, w_552, w_553⟩
theorem mw_196 : MW RL 196 yL_pressure cL_pressure 4 [(0, 9, 12, 13)] 3 := ⟨⟨by decide +kernel, by decide +kernel, by decide +kernel⟩, w_561, w_0, w_559, w_560⟩
theorem mw_200 : MW RL 200 yL_setTurning cL_setTurning 5 [(0, 10, 13, 13), (0, 10, 17, 15)] 4 := ⟨⟨by decide +kernel, by decide +kernel, by decide +kernel⟩, w_569, w_0, w_567, w_568⟩
theorem mw_203 : MW RL 203 yL_getTurning cL_getTurning 4 [(0, 9, 12, 13)] 3 := ⟨⟨by decide +kernel, by decide +kernel, by decide +kernel⟩, w_580, w_0, w_578, w_579⟩
theorem mw_206 : MW RL 206 yL_getWind cL_getWind 4 [(0, 9, 12, 13)] 3 := ⟨⟨by decide +kernel, by decide +kernel, by decide +kernel⟩, w_587, w_0, w_585, w_586⟩
theorem mw_209 : MW RL 209 yL_getShear cL_getShear 4 [(0, 9, 12, 13)] 3 := ⟨⟨by decide +kernel, by decide +kernel, by decide +kernel⟩, w_594, w_0, w_592, w_593⟩
theorem mw_212 : MW RL 212 yL_stir cL_stir 6 [(0, 12, 15, 13), (0, 12, 19, 15)] 5 := ⟨⟨by decide +kernel, by decide +kernel, by decide +kernel⟩, w_615, w_0, w_613, w_614⟩
theorem mw_215 : MW RL 215 yL_setDrag cL_setDrag 4 [(0, 9, 12, 15)] 3 := ⟨⟨by decide +kernel, by decide +kernel, by decide +kernel⟩, w_624, w_0, w_622, w_623⟩
theorem mw_222 : MW RL 222 yL_addStorm cL_addStorm 6 [(0, 12, 15, 13), (0, 12, 19, 15), (0, 12, 23, 64)] 5 := ⟨⟨by decide +kernel, by decide +kernel, by decide +kernel⟩, w_631, w_0, w_629, w_630⟩
theorem mw_225 : MW RL 225 yL_nameStorm cL_nameStorm 5 [(0, 10, 13, 13), (0, 10, 17, 15), (0, 10, 21, 70)] 4 := ⟨⟨by decide +kernel, by decide +kernel, by decide +kernel⟩, w_665, w_0, w_663, w_664⟩
theorem mw_229 : MW RL 229 yL_findName cL_findName 4 [(0, 9, 12, 15), (0, 9, 15, 34)] 3 := ⟨⟨by decide +kernel, by decide +kernel, by decide +kernel⟩, w_699, w_0, w_697, w_698⟩
theorem mw_233 : MW RL 233 yL_getLongitude cL_getLongitude 4 [(0, 9, 12, 13), (0, 9, 15, 34)] 3 := ⟨⟨by decide +kernel, by decide +kernel, by decide +kernel⟩, w_707, w_0, w_705, w_706⟩
theorem mw_236 : MW RL 236 yL_getSize cL_getSize 4 [(0, 9, 12, 13), (0, 9, 15, 34)] 3 := ⟨⟨by decide +kernel, by decide +kernel, by decide +kernel⟩, w_719, w_0, w_717, w_718⟩
theorem mw_239 : MW RL 239 yL_getAge cL_getAge 4 [(0, 9, 12, 13)] 3 := ⟨⟨by decide +kernel, by decide +kernel, by decide +kernel⟩, w_726, w_0, w_724, w_725⟩
theorem mw_242 : MW RL 242 yL_isThere cL_isThere 4 [(0, 16, 19, 13)] 3 := ⟨⟨by decide +kernel, by decide +kernel, by decide +kernel⟩, w_733, w_0, w_731, w_732⟩
theorem mw_245 : MW RL 245 yL_livesIn cL_livesIn 4 [(0, 9, 12, 13), (0, 9, 15, 34)] 3 := ⟨⟨by decide +kernel, by decide +kernel, by decide +kernel⟩, w_740, w_0, w_738, w_739⟩
theorem mw_248 : MW RL 248 yL_burst cL_burst 5 [(0, 10, 13, 13), (0, 10, 17, 15), (0, 10, 21, 70), (0, 10, 25, 64)] 4 := ⟨⟨by decide +kernel, by decide +kernel, by decide +kernel⟩, w_752, w_0, w_750, w_751⟩
theorem mw_251 : MW RL 251 yL_strike cL_strike 6 [(0, 12, 15, 13), (0, 12, 19, 15), (0, 12, 23, 64)] 5 := ⟨⟨by decide +kernel, by decide +kernel, by decide +kernel⟩, w_772, w_0, w_770, w_771⟩
theorem mw_254 : MW RL 254 yL_getWidth cL_getWidth 4 [(0, 9, 12, 13)] 3 := ⟨⟨by decide +kernel, by decide +kernel, by decide +kernel⟩, w_783, w_0, w_781, w_782⟩
theorem mw_257 : MW RL 257 yL_scarTurns cL_scarTurns 4 [(0, 9, 12, 13)] 3 := ⟨⟨by decide +kernel, by decide +kernel, by decide +kernel⟩, w_790, w_0, w_788, w_789⟩
theorem mw_260 : MW RL 260 yL_turn cL_turn 4 [(0, 9, 12, 15)] 3 := ⟨⟨by decide +kernel, by decide +kernel, by decide +kernel⟩, w_805, w_0, w_803, w_804⟩
theorem mw_263 : MW RL 263 yL_dropProbe cL_dropProbe 7 [(0, 14, 17, 15), (0, 14, 21, 64)] 6 := ⟨⟨by decide +kernel, by decide +kernel, by decide +kernel⟩, w_896, w_0, w_894, w_895⟩
theorem mw_267 : MW RL 267 yL_tick cL_tick 4 [(0, 9, 12, 13), (0, 9, 15, 70)] 3 := ⟨⟨by decide +kernel, by decide +kernel, by decide +kernel⟩, w_962, w_0, w_960, w_961⟩
theorem mw_270 : MW RL 270 yL_sent cL_sent 4 [(0, 9, 12, 13)] 3 := ⟨⟨by decide +kernel, by decide +kernel, by decide +kernel⟩, w_996, w_0, w_994, w_995⟩
theorem mw_273 : MW RL 273 yL_sentAt cL_sentAt 6 [(0, 12, 15, 13), (0, 12, 19, 15), (0, 12, 23, 34)] 5 := ⟨⟨by decide +kernel, by decide +kernel, by decide +kernel⟩, w_1003, w_0, w_1001, w_1002⟩
theorem mw_277 : MW RL 277 yL_lost cL_lost 4 [(0, 9, 12, 13)] 3 := ⟨⟨by decide +kernel, by decide +kernel, by decide +kernel⟩, w_1012, w_0, w_1010, w_1011⟩
theorem mw_280 : MW RL 280 yL_frame cL_frame 4 [(0, 9, 12, 15), (0, 9, 15, 64)] 3 := ⟨⟨by decide +kernel, by decide +kernel, by decide +kernel⟩, w_1019, w_0, w_1017, w_1018⟩
theorem mw_283 : MW RL 283 yL_countSeen cL_countSeen 4 [(0, 9, 12, 13)] 3 := ⟨⟨by decide +kernel, by decide +kernel, by decide +kernel⟩, w_1051, w_0, w_1049, w_1050⟩
theorem mw_286 : MW RL 286 yL_placeIn cL_placeIn 5 [(0, 10, 13, 13), (0, 10, 17, 15), (0, 10, 21, 34)] 4 := ⟨⟨by decide +kernel, by decide +kernel, by decide +kernel⟩, w_1063, w_0, w_1061, w_1062⟩
theorem mw_289 : MW RL 289 yL_drift cL_drift 6 [(0, 12, 15, 13), (0, 12, 19, 15), (0, 12, 23, 34)] 5 := ⟨⟨by decide +kernel, by decide +kernel, by decide +kernel⟩, w_1075, w_0, w_1073, w_1074⟩
theorem mw_293 : MW RL 293 yL_save cL_save 3 [(0, 8, 11, 64)] 2 := ⟨⟨by decide +kernel, by decide +kernel, by decide +kernel⟩, w_1084, w_0, w_1082, w_1083⟩
theorem mw_297 : MW RL 297 yL_load cL_load 4 [(0, 8, 11, 13)] 3 := ⟨⟨by decide +kernel, by decide +kernel, by decide +kernel⟩, w_1091, w_0, w_1089, w_1090⟩
theorem mw_304 : MW RL 304 yL_happening cL_happening 4 [(0, 9, 12, 34)] 3 := ⟨⟨by decide +kernel, by decide +kernel, by decide +kernel⟩, w_1099, w_0, w_1097, w_1098⟩
theorem mw_307 : MW RL 307 yL_happenedTo cL_happenedTo 4 [(0, 9, 12, 34)] 3 := ⟨⟨by decide +kernel, by decide +kernel, by decide +kernel⟩, w_1111, w_0, w_1109, w_1110⟩
theorem mw_315 : MW RL 315 yL_thereShare cL_thereShare 3 [(0, 8, 11, 157)] 2 := ⟨⟨by decide +kernel, by decide +kernel, by decide +kernel⟩, w_1118, w_0, w_1116, w_1117⟩
