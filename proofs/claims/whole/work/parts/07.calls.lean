/-! CONTRACTS AND CALLS -/
def QB {S : Type} (post : S → Prop) (POST : S → Heap → Prop) (rv : S → Option Value) (A : Nat → Prop) : Array Value → State → Outcome → State → Prop := fun _ st oc t => (∃ u : S, oc = .returned (rv u) ∧ post u ∧ POST u t.heap) ∧ va_F A st t
def PB (av : List Value) (D : va_G) (tc : Nat → ClassId) (h0 : Nat) (sa : Nat → Nat) (H0 : Heap) : Array Value → State → Prop := va_Pc av (fun U => KK D tc U ∧ ST h0 sa U U.heap ∧ U.heap = H0)
/-- the six exceptions, by number -/
def xn : Nat → String := fun k => match k with
  | 0 => "java/lang/IndexOutOfBoundsException" | 1 => "java/lang/IllegalArgumentException" | 2 => "java/lang/IllegalStateException" | 3 => "java/lang/UnsupportedOperationException" | 4 => "java/util/NoSuchElementException" | _ => "java/lang/ArithmeticException"
def XB (xpost : Nat → Prop) : String → State → State → Prop := fun E st t => (∃ k : Nat, E = xn k ∧ xpost k) ∧ st.heap.size ≤ t.heap.size ∧ ∀ q : Nat, q < st.heap.size → t.heap[q]? = st.heap[q]?
def MB {S : Type} (l : Launch) (y : MethodName) (code : ByteArray) (nL : Nat) (ret : Option FieldType) (rm : Room) (A : Nat → Prop) (av : List Value) (D : va_G) (tc : Nat → ClassId) (h0 : Nat) (sa : Nat → Nat) (H0 : Heap) (post : S → Prop) (POST : S → Heap → Prop) (rv : S → Option Value) : Prop :=
  Met l y [.code y code nL ret] rm (PB av D tc h0 sa H0) (QB post POST rv A) rm.cells rm.slots A
def MX {S : Type} (l : Launch) (y : MethodName) (code : ByteArray) (nL : Nat) (ret : Option FieldType) (rm : Room) (A : Nat → Prop) (av : List Value) (D : va_G) (tc : Nat → ClassId) (h0 : Nat) (sa : Nat → Nat) (H0 : Heap) (post : S → Prop) (POST : S → Heap → Prop) (rv : S → Option Value) (xpost : Nat → Prop) : Prop :=
  vx_Met l y [.code y code nL ret] rm (PB av D tc h0 sa H0) (QB post POST rv A) (XB xpost) rm.cells rm.slots A
theorem PB.blind {av : List Value} {D : va_G} {tc : Nat → ClassId} {h0 : Nat} {sa : Nat → Nat} {H0 : Heap} : FrameBlind (PB av D tc h0 sa H0) := fun a U g mk h => by
  obtain ⟨h1, h2, h3, h4⟩ := h
  exact ⟨h1, KK.same (s := U) (U := U.calling g mk a) rfl h2, ST.moved (U := U.calling g mk a) (State.WarmedH.refl _) h3, h4⟩
theorem MB.of {S : Type} {l : Launch} {y : MethodName} {code : ByteArray} {nL : Nat} {ret : Option FieldType} {rm : Room} {A : Nat → Prop} {av : List Value} {D : va_G} {tc : Nat → ClassId} {h0 : Nat} {sa : Nat → Nat} {H0 : Heap} {post : S → Prop} {POST : S → Heap → Prop} {rv : S → Option Value} (own : String) (lv : List (Nat × Value))
    (hy : plainName y.cls = true) (ho : y.cls = own) (hlen : (lg_sl av).length ≤ nL) (hlv : lv_args 0 av = lv)
    (body : ∀ (p : Program) (e : Env) (s : State) (m : MethodId) (below : List Frame) (meth : Method) (c : Code) (ls : Array Slot), Cx p c s m meth code nL own D tc → meth.sig.returnType = ret → (meth.name = y.name) → ST h0 sa s s.heap → s.heap = H0 → va_S A s.heap s.heap [] → lv_has ls nL lv →
      W p l e rm s m av.toArray below meth c s.heap [] 0 0 (MQ below (QB post POST rv A) av.toArray s rm.cells rm.slots A) (F0 m 0 ls [])) : MB l y code nL ret rm A av D tc h0 sa H0 post POST rv := by
  refine Met.ofW (cc := code) (maxL := nL) (ret := ret) hy rfl ?_
  intro p e s m args below meth c s₁ B hml hv
  obtain ⟨rfl, hK, hT, hH⟩ := hv
  subst hlv
  have hl := lv_entry av hlen
  rw [lg_entry_eq]
  exact body p e s m below meth c _ ⟨B.exec, B.bytes, hml, ho ▸ findClass_of_methodNamed B.named, hK, B.notSynchronized⟩ B.returns (name_of_methodNamed B.named B.method).1 hT hH va_S.rf hl
theorem MB.ofF {S : Type} {l : Launch} {y : MethodName} {code : ByteArray} {nL : Nat} {ret : Option FieldType} {rm : Room} {A : Nat → Prop} {av : List Value} {D : va_G} {tc : Nat → ClassId} {h0 : Nat} {sa : Nat → Nat} {H0 : Heap} {post : S → Prop} {POST : S → Heap → Prop} {rv : S → Option Value} (own : String) (lv : List (Nat × Value))
    (hy : plainFor y = true) (ho : y.cls = own) (hlen : (lg_sl av).length ≤ nL) (hlv : lv_args 0 av = lv)
    (body : ∀ (p : Program) (e : Env) (s : State) (m : MethodId) (below : List Frame) (meth : Method) (c : Code) (ls : Array Slot), Cx p c s m meth code nL own D tc → meth.sig.returnType = ret → (meth.name = y.name) → ST h0 sa s s.heap → s.heap = H0 → va_S A s.heap s.heap [] → lv_has ls nL lv →
      W p l e rm s m av.toArray below meth c s.heap [] 0 0 (MQ below (QB post POST rv A) av.toArray s rm.cells rm.slots A) (F0 m 0 ls [])) : MB l y code nL ret rm A av D tc h0 sa H0 post POST rv := by
  refine va_MetF (cc := code) (maxL := nL) (ret := ret) hy rfl ?_
  intro p e s m args below meth c s₁ B hml hv
  obtain ⟨rfl, hK, hT, hH⟩ := hv
  subst hlv
  have hl := lv_entry av hlen
  rw [lg_entry_eq]
  exact body p e s m below meth c _ ⟨B.exec, B.bytes, hml, ho ▸ findClass_of_methodNamed B.named, hK, B.notSynchronized⟩ B.returns (name_of_methodNamed B.named B.method).1 hT hH va_S.rf hl
theorem MX.of {S : Type} {l : Launch} {y : MethodName} {code : ByteArray} {nL : Nat} {ret : Option FieldType} {rm : Room} {A : Nat → Prop} {av : List Value} {D : va_G} {tc : Nat → ClassId} {h0 : Nat} {sa : Nat → Nat} {H0 : Heap} {post : S → Prop} {POST : S → Heap → Prop} {rv : S → Option Value} {xpost : Nat → Prop} (own : String) (lv : List (Nat × Value))
    (hy : plainName y.cls = true) (ho : y.cls = own) (hlen : (lg_sl av).length ≤ nL) (hlv : lv_args 0 av = lv)
    (body : ∀ (p : Program) (e : Env) (s : State) (m : MethodId) (below : List Frame) (meth : Method) (c : Code) (ls : Array Slot), Cx p c s m meth code nL own D tc → meth.sig.returnType = ret → (∀ x ∈ c.exceptionTable.toList, False) → ST h0 sa s s.heap → s.heap = H0 → va_S A s.heap s.heap [] → lv_has ls nL lv →
      W p l e rm s m av.toArray below meth c s.heap [] 0 0 (vx_MQ below (QB post POST rv A) (XB xpost) av.toArray s rm.cells rm.slots A) (F0 m 0 ls [])) : MX l y code nL ret rm A av D tc h0 sa H0 post POST rv xpost := by
  refine vx_ofW (cc := code) (maxL := nL) (ret := ret) hy rfl ?_
  intro p e s m args below meth c s₁ B hml hnt hv
  obtain ⟨rfl, hK, hT, hH⟩ := hv
  subst hlv
  have hl := lv_entry av hlen
  rw [lg_entry_eq]
  exact body p e s m below meth c _ ⟨B.exec, B.bytes, hml, ho ▸ findClass_of_methodNamed B.named, hK, B.notSynchronized⟩ B.returns hnt hT hH va_S.rf hl
def notMH (y : MethodName) (n : Nat) : Prop := y.cls ≠ "java/lang/invoke/MethodHandle" ∧ y.cls ≠ "java/lang/invoke/VarHandle" ∧ (parseMethodDescriptor y.desc).map (fun d => d.parameters.length) = some n
/-- a method's words at a call: base; virtual; static; constructor; nest mates -/
def MC (own : String) (index : Nat) (y : MethodName) (code : ByteArray) (nL : Nat) (ret : Option FieldType) (n : Nat) : Prop := notMH y n ∧ Cond.code y code nL ret ∈ WX ∧ Cond.initialized y.cls ∈ WX ∧ Cond.methodLink own index y ∈ WX
def MV (own : String) (index : Nat) (y : MethodName) (code : ByteArray) (nL : Nat) (ret : Option FieldType) (n : Nat) : Prop := MC own index y code nL ret n ∧ Cond.instanceMethod y ∈ WX ∧ Cond.selects y.cls y y ∈ WX
def MS (own : String) (index : Nat) (y : MethodName) (code : ByteArray) (nL : Nat) (ret : Option FieldType) (n : Nat) : Prop := MC own index y code nL ret n ∧ Cond.static y ∈ WX
def MI (own : String) (index : Nat) (y : MethodName) (code : ByteArray) (nL : Nat) (n : Nat) : Prop := MC own index y code nL none n ∧ y.name = "<init>" ∧ Cond.instanceMethod y ∈ WX
def MNb (own : String) (index : Nat) (y : MethodName) (host : String) (code : ByteArray) (nL : Nat) (ret : Option FieldType) (n : Nat) : Prop := notMH y n ∧ Cond.code y code nL ret ∈ WX ∧ Cond.initialized y.cls ∈ WX ∧ Cond.methodLinkNest own index y host ∈ WX
theorem pay1 {s : State} {w : Cond} (hU : KW s) (hw : w ∈ WX) : ∀ z ∈ [w], ∀ (a' : Array Value) (U : State), s.WarmedH U.vm → z.before a' U = true := by
  intro z hz a' U hW
  rw [List.mem_singleton.mp hz]
  exact (hU.warm hW).use hw
theorem cb_of {R : Room} {s : State} {args : Array Value} {own : String} {index : Nat} {y : MethodName} {code : ByteArray} {nL n : Nat} {ret : Option FieldType} {rm : Room} (hU : KW s) (M : MC own index y code nL ret n) (hR : rm.frames + 1 ≤ R.frames ∧ 8 + (nL + 11) + rm.locals ≤ R.locals) : CallB R s args own index y code nL ret [.code y code nL ret] rm rm.cells rm.slots n := by
  obtain ⟨⟨h1, h2, h3⟩, h4, h5, h6⟩ := M
  refine ⟨rfl, rfl, hR.1, hR.2, pay1 hU h4, List.mem_cons_self, hU.use h4, hU.use h5, ⟨h1, h2⟩, fun sig h => ?_, hU.use h6⟩
  rw [h] at h3
  exact (Option.some.inj h3).symm
theorem cn_of {R : Room} {s : State} {args : Array Value} {own host : String} {index : Nat} {y : MethodName} {code : ByteArray} {nL n : Nat} {ret : Option FieldType} {rm : Room} (hU : KW s) (M : MNb own index y host code nL ret n) (hR : rm.frames + 1 ≤ R.frames ∧ 8 + (nL + 11) + rm.locals ≤ R.locals) : va_CN R s args own index y host code nL ret [.code y code nL ret] rm rm.cells rm.slots n := by
  obtain ⟨⟨h1, h2, h3⟩, h4, h5, h6⟩ := M
  refine ⟨⟨rfl, rfl, hR.1, hR.2, pay1 hU h4, List.mem_cons_self⟩, hU.use h4, hU.use h5, ⟨h1, h2⟩, fun sig h => ?_, hU.use h6⟩
  rw [h] at h3
  exact (Option.some.inj h3).symm
section GCALLS
variable {p : Program} {l : Launch} {e : Env} {R : Room} {s : State} {m : MethodId} {args : Array Value} {below : List Frame} {meth : Method} {c : Code} {H : Heap} {locs : List Loc} {cells slots : Nat} {Q : State → Prop}
variable {cc : ByteArray} {nL : Nat} {own : String} {D : va_G} {tc : Nat → ClassId} {pc : Nat} {ls : Array Slot} {rest : List Value} {A A1 : Nat → Prop} {H0 : Heap}
theorem Cx.fix (X : Cx p c s m meth cc nL own D tc) : CallFix p m c cc nL s args WX own := ⟨X.1, X.2.1, X.2.2.1, X.2.2.2.1, fun w hw => X.2.2.2.2.1.1.use hw⟩
theorem PB.pre {av : List Value} {h0 : Nat} {sa : Nat → Nat} (hK : KK D tc s) (hT : ST h0 sa s s.heap) (hS : va_S A s.heap H locs) (hA0 : ∀ q, A q → h0 ≤ q) : ∀ U : State, U.heap = H → s.WarmedH U.vm → PB av D tc h0 sa H av.toArray U := fun U hU hW => ⟨rfl, hK.warm hW, hT.at hS hA0 hU hW, hU⟩
/-- behind a call that returns -/
theorem g_after {S : Type} {post : S → Prop} {POST : S → Heap → Prop} {rv : S → Option Value} {mc ms : Nat} {st0 : List Value} {a : Array Value} (hr : va_Run p l e R s m args below meth c H locs cells slots mc ms (F0 m pc ls st0) rest (QB post POST rv A1 a) A1) (hS : va_S A H0 H locs) (hA : ∀ q, A1 q → A q) (st1 : S → List Value) (hst : ∀ u, (rv u).toList ++ rest = st1 u)
    (kk : ∀ (u : S) (H1 : Heap) (locs1 : List Loc), post u → POST u H1 → H.size ≤ H1.size → (∀ q : Nat, q < H.size → ¬ A1 q → H1[q]? = H[q]?) → va_S A H0 H1 locs1 → W p l e R s m args below meth c H1 locs1 (cells + mc) (slots + ms) Q (F0 m (pc + 3) ls (st1 u))) : W p l e R s m args below meth c H locs cells slots Q (F0 m pc ls st0) := by
  intro T hT X
  obtain ⟨v, st₀, t, T', L, h0, X', hL, e1, e2, ⟨⟨u, hv, hp, hb⟩, hz, hk⟩, st⟩ := hr T hT X
  cases hv
  rw [h0] at hz hk
  rw [← e1] at hb
  have hkk := kk u T'.heap (locs ++ L) hp hb (by rw [e1]; exact hz) (fun q h1 h2 => by rw [e1]; exact hk q h1 h2)
    ⟨Nat.le_trans hS.1 (by rw [e1]; exact hz), fun q h1 h2 => by rw [e1, hk q (Nat.lt_of_lt_of_le h1 hS.1) (fun z => h2 (hA q z))]; exact hS.2.1 q h1 h2, fun q hq => by
      rcases List.mem_append.mp hq with h | h
      · exact hS.2.2 q h
      · exact hA _ (hL q h)⟩
  rw [← hst u] at hkk
  obtain ⟨t2, a1, b1⟩ := hkk T' rfl X'
  exact ⟨t2, st t2 a1, b1⟩
/-- behind a call that returns or throws -/
theorem g_afterX {S : Type} {post : S → Prop} {POST : S → Heap → Prop} {rv : S → Option Value} {xpost : Nat → Prop} {mc ms : Nat} {st0 : List Value} {a : Array Value} (hr : vx_Run p l e R s m args below meth c H locs cells slots mc ms (F0 m pc ls st0) rest (QB post POST rv A1 a) (XB xpost) A1) (hS : va_S A H0 H locs) (hA : ∀ q, A1 q → A q) (st1 : S → List Value) (hst : ∀ u, (rv u).toList ++ rest = st1 u)
    (kx : ∀ (k : Nat) (ce : Cell) (q9 : Addr) (H1 : Heap) (locs1 : List Loc), xpost k → H.size ≤ H1.size → (∀ q : Nat, q < H.size → H1[q]? = H[q]?) → va_S A H0 H1 locs1 → H1[q9]? = some ce → ce.vm = .none → s.vm.findClass (xn k) = some ce.cls → vx_W p l e R s m args below meth c H1 locs1 (cells + mc) (slots + ms) Q (F0 m pc ls rest) q9)
    (kk : ∀ (u : S) (H1 : Heap) (locs1 : List Loc), post u → POST u H1 → H.size ≤ H1.size → (∀ q : Nat, q < H.size → ¬ A1 q → H1[q]? = H[q]?) → va_S A H0 H1 locs1 → W p l e R s m args below meth c H1 locs1 (cells + mc) (slots + ms) Q (F0 m (pc + 3) ls (st1 u))) : W p l e R s m args below meth c H locs cells slots Q (F0 m pc ls st0) := by
  intro T hT X
  rcases hr T hT X with ⟨v, st₀, t, T', L, h0, X', hL, e1, e2, ⟨⟨u, hv, hp, hb⟩, hz, hk⟩, st⟩ | ⟨q9, st₀, t, T', L, E, ce, h0, X', hL, e1, e2, ⟨⟨k, hE, hp⟩, hz, hk⟩, hce, hcv, hcl, st⟩
  · cases hv
    rw [h0] at hz hk
    rw [← e1] at hb
    have hkk := kk u T'.heap (locs ++ L) hp hb (by rw [e1]; exact hz) (fun q h1 h2 => by rw [e1]; exact hk q h1 h2)
      ⟨Nat.le_trans hS.1 (by rw [e1]; exact hz), fun q h1 h2 => by rw [e1, hk q (Nat.lt_of_lt_of_le h1 hS.1) (fun z => h2 (hA q z))]; exact hS.2.1 q h1 h2, fun q hq => by
        rcases List.mem_append.mp hq with h | h
        · exact hS.2.2 q h
        · exact hA _ (hL q h)⟩
    rw [← hst u] at hkk
    obtain ⟨t2, a1, b1⟩ := hkk T' rfl X'
    exact ⟨t2, st t2 a1, b1⟩
  · subst hE
    rw [h0] at hz hk
    obtain ⟨t2, a1, b1⟩ := kx k ce q9 T'.heap (locs ++ L) hp (by rw [e1]; exact hz) (fun q h1 => by rw [e1]; exact hk q h1)
      ⟨Nat.le_trans hS.1 (by rw [e1]; exact hz), fun q h1 h2 => by rw [e1, hk q (Nat.lt_of_lt_of_le h1 hS.1)]; exact hS.2.1 q h1 h2, fun q hq => by
        rcases List.mem_append.mp hq with h | h
        · exact hS.2.2 q h
        · exact hA _ (hL q h)⟩ (by rw [e1]; exact hce) hcv hcl T' rfl X'
    exact ⟨t2, st.trans a1, b1⟩
variable {S : Type} {post : S → Prop} {POST : S → Heap → Prop} {rv : S → Option Value} {xpost : Nat → Prop} {rm : Room} {y : MethodName} {code : ByteArray} {kL n index : Nat} {ret : Option FieldType} {As st0 : List Value} {b h0 : Nat} {sa : Nat → Nat}
/-- the four ways to call: X the walk, M the words, hM the contract -/
theorem g_V (X : Cx p c s m meth cc nL own D tc) (M : MV own index y code kL ret n) (hM : MB l y code kL ret rm A1 (.ref b :: As) D tc h0 sa H post POST rv) (hrc : ∃ cell : Cell, H[b]? = some cell ∧ cell.vm.isStatics = false ∧ s.vm.findClass y.cls = some cell.cls) (hT : ST h0 sa s s.heap) (hS : va_S A s.heap H locs) (hA0 : ∀ q, A q → h0 ≤ q)
    (hd : decode cc pc = .ok (.invokevirtual index, 3)) (hsz : ls.size = nL) (hn : As.length = n) (hst : st0 = As.reverse ++ .ref b :: rest) (hR : rm.frames + 1 ≤ R.frames ∧ 8 + (kL + 11) + rm.locals ≤ R.locals) (hW : (rest.map fun v => v.category).sum ≤ 8) (hf : cells + rm.cells ≤ R.cells ∧ slots + rm.slots ≤ R.slots) :
    va_Run p l e R s m args below meth c H locs cells slots rm.cells rm.slots (F0 m pc ls st0) rest (QB post POST rv A1 (.ref b :: As).toArray) A1 := by
  subst hst
  exact va_runV (C := y.cls) (As := As) (rest := rest) X.fix hM ⟨cb_of X.2.2.2.2.1.1 M.1 hR, X.2.2.2.2.1.1.use M.2.1, X.2.2.2.2.1.1.use M.2.2⟩ ⟨PB.blind, hrc, PB.pre X.2.2.2.2.1 hT hS hA0⟩ rfl hn hsz rfl (lv_room hW) hd hf
theorem g_S (X : Cx p c s m meth cc nL own D tc) (M : MS own index y code kL ret n) (hM : MB l y code kL ret rm A1 As D tc h0 sa H post POST rv) (hT : ST h0 sa s s.heap) (hS : va_S A s.heap H locs) (hA0 : ∀ q, A q → h0 ≤ q)
    (hd : decode cc pc = .ok (.invokestatic index, 3)) (hsz : ls.size = nL) (hn : As.length = n) (hst : st0 = As.reverse ++ rest) (hR : rm.frames + 1 ≤ R.frames ∧ 8 + (kL + 11) + rm.locals ≤ R.locals) (hW : (rest.map fun v => v.category).sum ≤ 8) (hf : cells + rm.cells ≤ R.cells ∧ slots + rm.slots ≤ R.slots) :
    va_Run p l e R s m args below meth c H locs cells slots rm.cells rm.slots (F0 m pc ls st0) rest (QB post POST rv A1 As.toArray) A1 := by
  subst hst
  exact va_runS (As := As) (rest := rest) X.fix hM ⟨cb_of X.2.2.2.2.1.1 M.1 hR, X.2.2.2.2.1.1.use M.2⟩ ⟨PB.blind, PB.pre X.2.2.2.2.1 hT hS hA0⟩ rfl hn hsz rfl (lv_room hW) hd hf
theorem g_I (X : Cx p c s m meth cc nL own D tc) (M : MI own index y code kL n) (hM : MB l y code kL none rm A1 (.ref b :: As) D tc h0 sa H post POST rv) (hT : ST h0 sa s s.heap) (hS : va_S A s.heap H locs) (hA0 : ∀ q, A q → h0 ≤ q)
    (hd : decode cc pc = .ok (.invokespecial index, 3)) (hsz : ls.size = nL) (hn : As.length = n) (hst : st0 = As.reverse ++ .ref b :: rest) (hR : rm.frames + 1 ≤ R.frames ∧ 8 + (kL + 11) + rm.locals ≤ R.locals) (hW : (rest.map fun v => v.category).sum ≤ 8) (hf : cells + rm.cells ≤ R.cells ∧ slots + rm.slots ≤ R.slots) :
    va_Run p l e R s m args below meth c H locs cells slots rm.cells rm.slots (F0 m pc ls st0) rest (QB post POST rv A1 (.ref b :: As).toArray) A1 := by
  subst hst
  exact va_runI (As := As) (rest := rest) X.fix hM ⟨cb_of X.2.2.2.2.1.1 M.1 hR, M.2.1, X.2.2.2.2.1.1.use M.2.2⟩ ⟨PB.blind, PB.pre X.2.2.2.2.1 hT hS hA0⟩ rfl hn hsz rfl (lv_room hW) hd hf
theorem g_IN {host : String} (X : Cx p c s m meth cc nL own D tc) (M : MNb own index y host code kL none n ∧ y.name = "<init>" ∧ Cond.instanceMethod y ∈ WX) (hM : MB l y code kL none rm A1 (.ref b :: As) D tc h0 sa H post POST rv) (hT : ST h0 sa s s.heap) (hS : va_S A s.heap H locs) (hA0 : ∀ q, A q → h0 ≤ q)
    (hd : decode cc pc = .ok (.invokespecial index, 3)) (hsz : ls.size = nL) (hn : As.length = n) (hst : st0 = As.reverse ++ .ref b :: rest) (hR : rm.frames + 1 ≤ R.frames ∧ 8 + (kL + 11) + rm.locals ≤ R.locals) (hW : (rest.map fun v => v.category).sum ≤ 8) (hf : cells + rm.cells ≤ R.cells ∧ slots + rm.slots ≤ R.slots) :
    va_Run p l e R s m args below meth c H locs cells slots rm.cells rm.slots (F0 m pc ls st0) rest (QB post POST rv A1 (.ref b :: As).toArray) A1 := by
  subst hst
  exact va_runIN (As := As) (rest := rest) X.fix hM ⟨cn_of X.2.2.2.2.1.1 M.1 hR, M.2.1, X.2.2.2.2.1.1.use M.2.2⟩ ⟨PB.blind, PB.pre X.2.2.2.2.1 hT hS hA0⟩ rfl hn hsz rfl (lv_room hW) hd hf
theorem g_SN {host : String} (X : Cx p c s m meth cc nL own D tc) (M : MNb own index y host code kL ret n ∧ Cond.static y ∈ WX) (hM : MB l y code kL ret rm A1 As D tc h0 sa H post POST rv) (hT : ST h0 sa s s.heap) (hS : va_S A s.heap H locs) (hA0 : ∀ q, A q → h0 ≤ q)
    (hd : decode cc pc = .ok (.invokestatic index, 3)) (hsz : ls.size = nL) (hn : As.length = n) (hst : st0 = As.reverse ++ rest) (hR : rm.frames + 1 ≤ R.frames ∧ 8 + (kL + 11) + rm.locals ≤ R.locals) (hW : (rest.map fun v => v.category).sum ≤ 8) (hf : cells + rm.cells ≤ R.cells ∧ slots + rm.slots ≤ R.slots) :
    va_Run p l e R s m args below meth c H locs cells slots rm.cells rm.slots (F0 m pc ls st0) rest (QB post POST rv A1 As.toArray) A1 := by
  subst hst
  exact va_runSN (As := As) (rest := rest) X.fix hM ⟨cn_of X.2.2.2.2.1.1 M.1 hR, X.2.2.2.2.1.1.use M.2, trivial⟩ ⟨PB.blind, PB.pre X.2.2.2.2.1 hT hS hA0⟩ rfl hn hsz rfl (lv_room hW) hd hf
theorem g_VX (X : Cx p c s m meth cc nL own D tc) (M : MV own index y code kL ret n) (hM : MX l y code kL ret rm A1 (.ref b :: As) D tc h0 sa H post POST rv xpost) (hrc : ∃ cell : Cell, H[b]? = some cell ∧ cell.vm.isStatics = false ∧ s.vm.findClass y.cls = some cell.cls) (hT : ST h0 sa s s.heap) (hS : va_S A s.heap H locs) (hA0 : ∀ q, A q → h0 ≤ q)
    (hd : decode cc pc = .ok (.invokevirtual index, 3)) (hsz : ls.size = nL) (hn : As.length = n) (hst : st0 = As.reverse ++ .ref b :: rest) (hR : rm.frames + 1 ≤ R.frames ∧ 8 + (kL + 11) + rm.locals ≤ R.locals) (hW : (rest.map fun v => v.category).sum ≤ 8) (hf : cells + rm.cells ≤ R.cells ∧ slots + rm.slots ≤ R.slots) :
    vx_Run p l e R s m args below meth c H locs cells slots rm.cells rm.slots (F0 m pc ls st0) rest (QB post POST rv A1 (.ref b :: As).toArray) (XB xpost) A1 := by
  subst hst
  exact vx_runV (C := y.cls) (As := As) (rest := rest) X.fix hM ⟨cb_of X.2.2.2.2.1.1 M.1 hR, X.2.2.2.2.1.1.use M.2.1, X.2.2.2.2.1.1.use M.2.2⟩ ⟨PB.blind, hrc, PB.pre X.2.2.2.2.1 hT hS hA0⟩ rfl hn hsz rfl (lv_room hW) hd hf
theorem g_SX (X : Cx p c s m meth cc nL own D tc) (M : MS own index y code kL ret n) (hM : MX l y code kL ret rm A1 As D tc h0 sa H post POST rv xpost) (hT : ST h0 sa s s.heap) (hS : va_S A s.heap H locs) (hA0 : ∀ q, A q → h0 ≤ q)
    (hd : decode cc pc = .ok (.invokestatic index, 3)) (hsz : ls.size = nL) (hn : As.length = n) (hst : st0 = As.reverse ++ rest) (hR : rm.frames + 1 ≤ R.frames ∧ 8 + (kL + 11) + rm.locals ≤ R.locals) (hW : (rest.map fun v => v.category).sum ≤ 8) (hf : cells + rm.cells ≤ R.cells ∧ slots + rm.slots ≤ R.slots) :
    vx_Run p l e R s m args below meth c H locs cells slots rm.cells rm.slots (F0 m pc ls st0) rest (QB post POST rv A1 As.toArray) (XB xpost) A1 := by
  subst hst
  exact vx_runS (As := As) (rest := rest) X.fix hM ⟨cb_of X.2.2.2.2.1.1 M.1 hR, X.2.2.2.2.1.1.use M.2⟩ ⟨PB.blind, PB.pre X.2.2.2.2.1 hT hS hA0⟩ rfl hn hsz rfl (lv_room hW) hd hf
/-- the object of a block as a receiver -/
theorem Blk.recv {sh : Sh} {ad : Nat → Nat} {w : Dt} (hB : Blk D tc A sh ad w H) (X : Cx p c s m meth cc nL own D tc) (i : Nat) {ci : Nat} {fs : List (Option Value)} (hs : sh i = some (.inl (ci, fs))) {q : vw_C} (hc : vwCl[ci]? = some q) : ∃ cell : Cell, H[ad i]? = some cell ∧ cell.vm.isStatics = false ∧ s.vm.findClass q.1 = some cell.cls :=
  va_recv X.2.2.2.2.1.2.1 (hB.at1 i hs) (ci := ci) (q0 := 0) hc rfl
/-- ends -/
theorem e_i (X : Cx p c s m meth cc nL own D tc) {mc ms : Nat} {v : Int32} (hr : meth.sig.returnType = some .int) (hd : decode cc pc = .ok (.ireturn, 1)) (hS : va_S A s.heap H locs) (u : S) (hrv : rv u = some (.int v)) (hp : post u) (hP : POST u H) (hk : cells ≤ mc ∧ slots ≤ ms) : W p l e R s m args below meth c H locs cells slots (MQ below (QB post POST rv A) args s mc ms A) (F0 m pc ls [.int v]) := by
  refine W.widen hk.1 hk.2 ?_
  exact W.iret X.1 X.2.1 hr (fun t ht hW => ⟨⟨u, by rw [hrv], hp, by rw [ht]; exact hP⟩, hS.F ht⟩) hS.2.2 hd X.2.2.2.2.2
theorem e_z (X : Cx p c s m meth cc nL own D tc) {mc ms : Nat} {v : Int32} {ty : FieldType} (hr : meth.sig.returnType = some ty) (hn : narrow ty (.int v) = .int v) (hd : decode cc pc = .ok (.ireturn, 1)) (hS : va_S A s.heap H locs) (u : S) (hrv : rv u = some (.int v)) (hp : post u) (hP : POST u H) (hk : cells ≤ mc ∧ slots ≤ ms) : W p l e R s m args below meth c H locs cells slots (MQ below (QB post POST rv A) args s mc ms A) (F0 m pc ls [.int v]) := by
  refine W.widen hk.1 hk.2 ?_
  exact W.zret X.1 X.2.1 hr hn (fun t ht hW => ⟨⟨u, by rw [hrv], hp, by rw [ht]; exact hP⟩, hS.F ht⟩) hS.2.2 hd X.2.2.2.2.2
theorem e_v (X : Cx p c s m meth cc nL own D tc) {mc ms : Nat} (hr : meth.sig.returnType = none) (hd : decode cc pc = .ok (.return_, 1)) (hS : va_S A s.heap H locs) (u : S) (hrv : rv u = none) (hp : post u) (hP : POST u H) (hk : cells ≤ mc ∧ slots ≤ ms) : W p l e R s m args below meth c H locs cells slots (MQ below (QB post POST rv A) args s mc ms A) (F0 m pc ls []) := by
  refine W.widen hk.1 hk.2 ?_
  exact W.vret X.1 X.2.1 hr (fun t ht hW => ⟨⟨u, by rw [hrv], hp, by rw [ht]; exact hP⟩, hS.F ht⟩) hS.2.2 hd X.2.2.2.2.2
theorem e_l (X : Cx p c s m meth cc nL own D tc) {mc ms : Nat} {v : Int64} (hr : meth.sig.returnType = some .long) (hd : decode cc pc = .ok (.lreturn, 1)) (hS : va_S A s.heap H locs) (u : S) (hrv : rv u = some (.long v)) (hp : post u) (hP : POST u H) (hk : cells ≤ mc ∧ slots ≤ ms) : W p l e R s m args below meth c H locs cells slots (MQ below (QB post POST rv A) args s mc ms A) (F0 m pc ls [.long v]) := by
  refine W.widen hk.1 hk.2 ?_
  exact W.lret X.1 X.2.1 hr (fun t ht hW => ⟨⟨u, by rw [hrv], hp, by rw [ht]; exact hP⟩, hS.F ht⟩) hS.2.2 hd X.2.2.2.2.2
theorem e_f (X : Cx p c s m meth cc nL own D tc) {mc ms : Nat} {v : UInt32} (hr : meth.sig.returnType = some .float) (hd : decode cc pc = .ok (.freturn, 1)) (hS : va_S A s.heap H locs) (u : S) (hrv : rv u = some (.float v)) (hp : post u) (hP : POST u H) (hk : cells ≤ mc ∧ slots ≤ ms) : W p l e R s m args below meth c H locs cells slots (MQ below (QB post POST rv A) args s mc ms A) (F0 m pc ls [.float v]) := by
  refine W.widen hk.1 hk.2 ?_
  exact W.fret X.1 X.2.1 hr (fun t ht hW => ⟨⟨u, by rw [hrv], hp, by rw [ht]; exact hP⟩, hS.F ht⟩) hS.2.2 hd X.2.2.2.2.2
theorem e_d (X : Cx p c s m meth cc nL own D tc) {mc ms : Nat} {v : UInt64} (hr : meth.sig.returnType = some .double) (hd : decode cc pc = .ok (.dreturn, 1)) (hS : va_S A s.heap H locs) (u : S) (hrv : rv u = some (.double v)) (hp : post u) (hP : POST u H) (hk : cells ≤ mc ∧ slots ≤ ms) : W p l e R s m args below meth c H locs cells slots (MQ below (QB post POST rv A) args s mc ms A) (F0 m pc ls [.double v]) := by
  refine W.widen hk.1 hk.2 ?_
  exact W.dret X.1 X.2.1 hr (fun t ht hW => ⟨⟨u, by rw [hrv], hp, by rw [ht]; exact hP⟩, hS.F ht⟩) hS.2.2 hd X.2.2.2.2.2
theorem e_a (X : Cx p c s m meth cc nL own D tc) {mc ms : Nat} {v : Value} {rt : FieldType} (hr : meth.sig.returnType = some rt) (hrt : (∃ n, rt = .object n) ∨ ∃ t, rt = .array t) (hv : v = .null ∨ ∃ a, v = .ref a) (hd : decode cc pc = .ok (.areturn, 1)) (hS : va_S A s.heap H locs) (u : S) (hrv : rv u = some v) (hp : post u) (hP : POST u H) (hk : cells ≤ mc ∧ slots ≤ ms) : W p l e R s m args below meth c H locs cells slots (MQ below (QB post POST rv A) args s mc ms A) (F0 m pc ls [v]) := by
  refine W.widen hk.1 hk.2 ?_
  exact W.aret X.1 X.2.1 hr hrt hv (fun t ht hW => ⟨⟨u, by rw [hrv], hp, by rw [ht]; exact hP⟩, hS.F ht⟩) hS.2.2 hd X.2.2.2.2.2
/-- a throw that isn't caught here -/
theorem e_x (X : Cx p c s m meth cc nL own D tc) {mc ms k : Nat} {ce : Cell} {q9 : Addr} {Qc : Array Value → State → Outcome → State → Prop} (hnt : ∀ x ∈ c.exceptionTable.toList, False) (hold : s.heap.size ≤ H.size ∧ ∀ q : Nat, q < s.heap.size → H[q]? = s.heap[q]?) (hce : H[q9]? = some ce) (hcv : ce.vm = .none) (hcl : s.vm.findClass (xn k) = some ce.cls) (hx : xpost k) (hS : va_S A s.heap H locs) (hk : cells ≤ mc ∧ slots ≤ ms) :
    vx_W p l e R s m args below meth c H locs cells slots (vx_MQ below Qc (XB xpost) args s mc ms A) (F0 m pc ls rest) q9 :=
  vx_out (fun x hx => (hnt x hx).elim) X.2.2.2.2.2 hce hcv hcl (fun t ht _ => ⟨⟨k, rfl, hx⟩, by rw [ht]; exact hold.1, fun q hq => by rw [ht]; exact hold.2 q hq⟩) hS.2.2 hk.1 hk.2
/-- throw new E("text"), not caught here -/
def TK (own : String) (ik ic k : Nat) (names : List String) : Prop := Bundle.fit (xn k) = true ∧ (∀ n ∈ names, Bundle.fit n = true) ∧ Cond.classLink own ik (xn k) ∈ WX ∧ Cond.initialized (xn k) ∈ WX ∧
  ∃ Y0 r ix, ∃ by9 : ByteArray, names = Y0 :: r ∧ (decode by9 0 = .ok (.aload_n 0, 1) ∧ decode by9 1 = .ok (.aload_n 1, 1) ∧ decode by9 2 = .ok (.invokespecial ix, 3) ∧ decode by9 5 = .ok (.return_, 1)) ∧ ∀ w ∈ atN own ic (xn k) Y0 r ix by9, w ∈ WX
theorem wx_ot : ∀ w ∈ WX, vx_ot w = true := fun w hw => by
  have h1 := (List.mem_filter.mp hw).2
  simp only [wx_ok, Bool.and_eq_true] at h1
  simp [vx_ot, h1.1]
theorem TK.good {own : String} {ik k : Nat} {ws : List Cond} (h : ∀ w ∈ ws, w ∈ WX) : ∀ w ∈ Cond.classLink own ik (xn k) :: Cond.initialized (xn k) :: ws, vx_ot w = true := by
  intro w hw
  rcases List.mem_cons.mp hw with rfl | hw
  · rfl
  · rcases List.mem_cons.mp hw with rfl | hw
    · rfl
    · exact wx_ot w (h w hw)
theorem g_throw (X : Cx p c s m meth cc nL "Bandworld" D tc) {ik is ic k mc ms : Nat} {names : List String} {text : String} {Qc : Array Value → State → Outcome → State → Prop} (hlf : l.stackTraces = false) (T : TK "Bandworld" ik ic k names) (hstr : (is, text) ∈ strX) (hT : ST h0 sa s s.heap) (hnt : ∀ x ∈ c.exceptionTable.toList, False) (hA0 : ∀ q, A q → h0 ≤ q) (hS : va_S A s.heap s.heap locs) (hsz : ls.size = nL)
    (d0 : decode cc pc = .ok (.new ik, 3)) (d3 : decode cc (pc + 3) = .ok (.dup, 1)) (d4 : decode cc (pc + 4) = .ok (.ldc is, 2)) (d6 : decode cc (pc + 6) = .ok (.invokespecial ic, 3)) (d9 : decode cc (pc + 9) = .ok (.athrow, 1))
    (hR : names.length + 3 < R.frames ∧ (rest.map fun v => v.category).sum + (13 * (names.length + 1) + 43) ≤ R.locals ∧ cells + 1 ≤ R.cells ∧ slots + 6 ≤ R.slots ∧ cells + 1 ≤ mc ∧ slots + 6 ≤ ms) (hx : xpost k) :
    W p l e R s m args below meth c s.heap locs cells slots (vx_MQ below Qc (XB xpost) args s mc ms A) (F0 m pc ls rest) := by
  have hU := X.2.2.2.2.1.1
  obtain ⟨a, ha⟩ := X.2.2.2.2.1.2.2.2.2.2.1 _ hstr
  obtain ⟨Y0, r, ix, by9, rfl, hby, hat⟩ := T.2.2.2.2
  exact throwN (A := A) (own := "Bandworld") X.1 X.2.1 hlf hby (T.2.1 _ List.mem_cons_self) X.2.2.2.1 T.1 (fun n hn => T.2.1 n (List.mem_cons_of_mem _ hn)) (hU.use T.2.2.1) (hU.use T.2.2.2.1) ha (fun w hw => hU.use (hat w hw)) (TK.good hat) (hT.2.2.2.2.2.2.1.narrow hA0) (hT.2.2.2.2.2.2.2.1.narrow hA0) hS (hsz.trans X.2.2.1.symm) d0 d3 d4 d6 d9 (fun x hx => (hnt x hx).elim) hR.1 hR.2.1 hR.2.2.1 hR.2.2.2.1 X.2.2.2.2.2
    (fun t _ hz ho => ⟨⟨k, rfl, hx⟩, hz, ho⟩) hS.2.2 hR.2.2.2.2.1 hR.2.2.2.2.2
theorem g_throwW (X : Cx p c s m meth cc nL "Bandworld" D tc) {ik is ic k mc ms : Nat} {names : List String} {text : String} {Qc : Array Value → State → Outcome → State → Prop} (hlf : l.stackTraces = false) (T : TK "Bandworld" ik ic k names) (hstr : (is, text) ∈ strX) (hT : ST h0 sa s s.heap) (hnt : ∀ x ∈ c.exceptionTable.toList, False) (hA0 : ∀ q, A q → h0 ≤ q) (hS : va_S A s.heap s.heap locs) (hsz : ls.size = nL)
    (d0 : decode cc pc = .ok (.new ik, 3)) (d3 : decode cc (pc + 3) = .ok (.dup, 1)) (d4 : decode cc (pc + 4) = .ok (.ldc_w is, 3)) (d7 : decode cc (pc + 7) = .ok (.invokespecial ic, 3)) (d10 : decode cc (pc + 10) = .ok (.athrow, 1))
    (hR : names.length + 3 < R.frames ∧ (rest.map fun v => v.category).sum + (13 * (names.length + 1) + 43) ≤ R.locals ∧ cells + 1 ≤ R.cells ∧ slots + 6 ≤ R.slots ∧ cells + 1 ≤ mc ∧ slots + 6 ≤ ms) (hx : xpost k) :
    W p l e R s m args below meth c s.heap locs cells slots (vx_MQ below Qc (XB xpost) args s mc ms A) (F0 m pc ls rest) := by
  have hU := X.2.2.2.2.1.1
  obtain ⟨a, ha⟩ := X.2.2.2.2.1.2.2.2.2.2.1 _ hstr
  obtain ⟨Y0, r, ix, by9, rfl, hby, hat⟩ := T.2.2.2.2
  exact throwNW (A := A) (own := "Bandworld") X.1 X.2.1 hlf hby (T.2.1 _ List.mem_cons_self) X.2.2.2.1 T.1 (fun n hn => T.2.1 n (List.mem_cons_of_mem _ hn)) (hU.use T.2.2.1) (hU.use T.2.2.2.1) ha (fun w hw => hU.use (hat w hw)) (TK.good hat) (hT.2.2.2.2.2.2.1.narrow hA0) (hT.2.2.2.2.2.2.2.1.narrow hA0) hS (hsz.trans X.2.2.1.symm) d0 d3 d4 d7 d10 (fun x hx => (hnt x hx).elim) hR.1 hR.2.1 hR.2.2.1 hR.2.2.2.1 X.2.2.2.2.2
    (fun t _ hz ho => ⟨⟨k, rfl, hx⟩, hz, ho⟩) hS.2.2 hR.2.2.2.2.1 hR.2.2.2.2.2
end GCALLS
