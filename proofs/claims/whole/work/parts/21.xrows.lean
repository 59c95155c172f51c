/-! ROWS over the store: calls of interfaces, new cells, casts -/
def MO (own : String) (index : Nat) : Prop := Cond.methodLink own index objectInit ∈ WX ∧ Cond.instanceMethod objectInit ∈ WX ∧ Cond.code objectInit ⟨#[0xb1]⟩ 1 none ∈ WX
def MF (own : String) (index : Nat) (C : String) (x y : MethodName) (code : ByteArray) (nL : Nat) (ret : Option FieldType) (n : Nat) : Prop := notMH x n ∧ Cond.code y code nL ret ∈ WX ∧ Cond.initialized y.cls ∈ WX ∧ Cond.methodLink own index x ∈ WX ∧ Cond.declares x ∈ WX ∧ Cond.interfaceMethod x.cls x.cls x.name x.desc ∈ WX ∧ Cond.selects C x y ∈ WX ∧ Cond.instanceMethod y ∈ WX ∧ Cond.publicMethod y ∈ WX ∧ Cond.unhidden C x.name x.desc ∈ WX ∧ Cond.castable C x.cls ∈ WX
def NW (own : String) (index ci : Nat) (tys : Nat → FieldType) (N : Nat) : Prop := ∃ (C : String) (T : u_T), CK ci C T N tys ∧ Cond.classLink own index C ∈ WX ∧ Cond.instantiable C N ∈ WX ∧ Cond.initialized C ∈ WX
theorem va_arr {s : State} {args : Array Value} {ty : FieldType} (h : (Cond.arrayClass ty).before #[] s = true) : (Cond.arrayClass ty).before args s = true := h
section XROWS
variable {p : Program} {l : Launch} {e : Env} {R : Room} {s : State} {m : MethodId} {args : Array Value} {below : List Frame} {meth : Method} {c : Code} {H : Heap} {locs : List Loc} {cells slots : Nat} {Q : State → Prop}
variable {cc : ByteArray} {nL : Nat} {own : String} {D : va_G} {tc : Nat → ClassId} {pc : Nat} {ls : Array Slot} {rest : List Value} {A A1 : Nat → Prop} {H0 : Heap} {sh : Sh} {ad : Nat → Nat} {w : Dt}
/-- behind a call of an interface -/
theorem g_after5 {S : Type} {post : S → Prop} {POST : S → Heap → Prop} {rv : S → Option Value} {mc ms : Nat} {st0 : List Value} {a : Array Value} (hr : va_Run5 p l e R s m args below meth c H locs cells slots mc ms (F0 m pc ls st0) rest (QB post POST rv A1 a) A1) (hS : va_S A H0 H locs) (hA : ∀ q, A1 q → A q) (st1 : S → List Value) (hst : ∀ u, (rv u).toList ++ rest = st1 u)
    (kk : ∀ (u : S) (H1 : Heap) (locs1 : List Loc), post u → POST u H1 → H.size ≤ H1.size → (∀ q : Nat, q < H.size → ¬ A1 q → H1[q]? = H[q]?) → va_S A H0 H1 locs1 → W p l e R s m args below meth c H1 locs1 (cells + mc) (slots + ms) Q (F0 m (pc + 5) ls (st1 u))) : W p l e R s m args below meth c H locs cells slots Q (F0 m pc ls st0) := by
  intro T hT X
  obtain ⟨v, st₀, t, T', L, h0, X', hL, e1, e2, ⟨⟨u, hv, hp, hb⟩, hz, hk⟩, st⟩ := hr T hT X
  cases hv
  rw [h0] at hz hk
  rw [← e1] at hb
  have hkk := kk u T'.heap (locs ++ L) hp hb (by rw [e1]; exact hz) (fun q h1 h2 => by rw [e1]; exact hk q h1 h2)
    ⟨Nat.le_trans hS.1 (by rw [e1]; exact hz), fun q h1 h2 => by rw [e1, hk q (Nat.lt_of_lt_of_le h1 hS.1) (fun z => h2 (hA q z))]; exact hS.2.1 q h1 h2, fun q hq => by
      rcases List.mem_append.mp hq with h | h
      · exact hS.2.2 q h
      · exact hA _ (hL q h)⟩
  rw [← hst u] at hkk
  obtain ⟨t2, a1, b1⟩ := hkk T' rfl X'
  exact ⟨t2, st t2 a1, b1⟩
theorem kn_of (hK : KK D tc s) {ci N : Nat} {C : String} {T : u_T} (h : vwCl[ci]? = some (C, T, N)) : u_Kn s C T N (D.1 ci) (D.2 ci) := hK.2.1.1 ci _ h
/-- a made object's class -/
theorem recv1 (hK : KK D tc s) {ci N a : Nat} {C : String} {T : u_T} {fs : List Value} (hc : vwCl[ci]? = some (C, T, N)) (h : va_at D vwCl (a, .inr (ci, fs)) H) : ∃ cell : Cell, H[a]? = some cell ∧ cell.vm.isStatics = false ∧ s.vm.findClass C = some cell.cls := by
  obtain ⟨q', h1, cell, g1, g2, g3, -⟩ := h
  cases hc.symm.trans h1
  exact ⟨cell, g1, by rw [g3]; rfl, by rw [g2]; exact (kn_of hK hc).2.1⟩
variable {S : Type} {post : S → Prop} {POST : S → Heap → Prop} {rv : S → Option Value} {rm : Room} {x y : MethodName} {code : ByteArray} {kL n index count : Nat} {ret : Option FieldType} {As st0 : List Value} {b h0 : Nat} {sa : Nat → Nat}
theorem g_F {ci N : Nat} {C : String} {T : u_T} {fs : List Value} (X : Cx p c s m meth cc nL own D tc) (M : MF own index C x y code kL ret n) (hM : MB l y code kL ret rm A1 (.ref b :: As) D tc h0 sa H post POST rv) (hc : vwCl[ci]? = some (C, T, N)) (hat : va_at D vwCl (b, .inr (ci, fs)) H) (hT : ST h0 sa s s.heap) (hS : va_S A s.heap H locs) (hA0 : ∀ q, A q → h0 ≤ q)
    (hd : decode cc pc = .ok (.invokeinterface index count, 5)) (hsz : ls.size = nL) (hn : As.length = n) (hst : st0 = As.reverse ++ .ref b :: rest) (hR : rm.frames + 1 ≤ R.frames ∧ 8 + (kL + 11) + rm.locals ≤ R.locals) (hW : (rest.map fun v => v.category).sum ≤ 8) (hf : cells + rm.cells ≤ R.cells ∧ slots + rm.slots ≤ R.slots) :
    va_Run5 p l e R s m args below meth c H locs cells slots rm.cells rm.slots (F0 m pc ls st0) rest (QB post POST rv A1 (.ref b :: As).toArray) A1 := by
  subst hst
  have hK := X.2.2.2.2.1
  have hU := hK.1
  obtain ⟨⟨m1, m2, m3⟩, m4, m5, m6, m7, m8, m9, m10, m11, m12, m13⟩ := M
  refine va_runF (x := x) (y := y) (C := C) (cC := D.1 ci) (As := As) (rest := rest) (kn_of hK hc).2 X.fix hM ⟨⟨rfl, rfl, hR.1, hR.2, pay1 hU m4, List.mem_cons_self⟩, hU.use m6, hU.use m7, hU.use m8, hU.use m9, hU.use m10, hU.use m11, hU.use m12, hU.use m13, hU.use m5, hU.use m4, ⟨m1, m2⟩, fun sig h => ?_⟩ ⟨PB.blind, recv1 hK hc hat, PB.pre hK hT hS hA0⟩ rfl hn hsz rfl (lv_room hW) hd hf
  rw [h] at m3
  exact (Option.some.inj m3).symm
/-- an object is made -/
theorem x_new {ci N : Nat} {tys : Nat → FieldType} (X : Cx p c s m meth cc nL own D tc) (M : NW own index ci tys N) {fs : List Value} (hfs : ∀ j, j < N → defaultValue (tys j) = vp_V fs j) (hS : va_S A H0 H locs) (hA : ∀ q, H0.size ≤ q → A q) (hcs : cells + 1 ≤ R.cells ∧ slots + N ≤ R.slots) (hd : decode cc pc = .ok (.new index, 3))
    (kk : ∀ (q : Nat) (H1 : Heap), H.size ≤ q → va_at D vwCl (q, .inr (ci, fs)) H1 → A q → H.size ≤ H1.size → q < H1.size → (∀ x, x < H.size → H1[x]? = H[x]?) → va_S A H0 H1 locs → W p l e R s m args below meth c H1 locs (cells + 1) (slots + N) Q (F0 m (pc + 3) ls (.ref q :: rest))) : W p l e R s m args below meth c H locs cells slots Q (F0 m pc ls rest) := by
  obtain ⟨C, T, ⟨hc, hin, hty, -⟩, m1, m2, m3⟩ := M
  obtain ⟨hx, hb, -, hown, hK, -⟩ := X
  have hU := hK.1
  have hkn := kn_of hK hc
  refine W.newcK hx hb hown (hU.use m1) (hU.use m2) (hU.use m3) rfl hd hcs.1 hcs.2 hkn.2.1 rfl fun H1 kC hkC e1 z1 o1 => ?_
  exact kk H.size H1 (Nat.le_refl _) ⟨_, hc, (u_born (args := #[]) tys (fun w hw => hU.use hw) hin hkn hkC e1 hty).to hfs⟩ (hA _ hS.1) (by omega) (by omega) o1 ⟨Nat.le_trans hS.1 (by omega), fun x h1 h2 => (o1 x (Nat.lt_of_lt_of_le h1 hS.1)).trans (hS.2.1 x h1 h2), hS.2.2⟩
theorem nm_int (hK : KK D tc s) : s.vm.findClass "[I" = some (tc 0) := (hK.2.1.2 0 _ rfl).2
/-- a row of ints is made -/
theorem x_newa (X : Cx p c s m meth cc nL own D tc) {n : Int32} {N : Nat} (hn : ¬ n < 0) (hN : n.toNatClampNeg = N) (hb4 : N * 4 ≤ 536870912) (hS : va_S A H0 H locs) (hA : ∀ q, H0.size ≤ q → A q) (hcs : cells + 1 ≤ R.cells ∧ slots + N ≤ R.slots) (hd : decode cc pc = .ok (.newarray .int, 2))
    (kk : ∀ (q : Nat) (H1 : Heap), H.size ≤ q → va_at D vwCl (q, s_in tc (.inr (0, N, none)) (fun _ => 0)) H1 → A q → H.size ≤ H1.size → q < H1.size → (∀ x, x < H.size → H1[x]? = H[x]?) → va_S A H0 H1 locs → W p l e R s m args below meth c H1 locs (cells + 1) (slots + N) Q (F0 m (pc + 2) ls (.ref q :: rest))) : W p l e R s m args below meth c H locs cells slots Q (F0 m pc ls (.int n :: rest)) := by
  obtain ⟨hx, hb, -, hown, hK, -⟩ := X
  have harr : (Cond.arrayClass (newarray.typeOf .int)).before args s = true := va_arr (hK.2.2.2.1 .int (by decide))
  refine va_newaK hx hb harr rfl hd rfl hn hN hb4 hcs.1 hcs.2 rfl fun H1 cA e1 z1 o1 hAr hNm => ?_
  cases (nm_int hK).symm.trans hNm
  exact kk H.size H1 (Nat.le_refl _) e1 (hA _ hS.1) (by omega) (by omega) o1 ⟨Nat.le_trans hS.1 (by omega), fun x h1 h2 => (o1 x (Nat.lt_of_lt_of_le h1 hS.1)).trans (hS.2.1 x h1 h2), hS.2.2⟩
/-- a row of references is made -/
theorem x_newq (X : Cx p c s m meth cc nL own D tc) {C : String} (hin : C ∈ aoList) (hcl : Cond.classLink own index C ∈ WX) {k : Nat} (hty : (TY tc)[k]? = some (tc k, .object C)) {n : Int32} {N : Nat} (hn : ¬ n < 0) (hN : n.toNatClampNeg = N) (hb4 : N * 4 ≤ 536870912) (hS : va_S A H0 H locs) (hA : ∀ q, H0.size ≤ q → A q) (hcs : cells + 1 ≤ R.cells ∧ slots + N ≤ R.slots) (hd : decode cc pc = .ok (.anewarray index, 3))
    (kk : ∀ (q : Nat) (H1 : Heap), H.size ≤ q → va_at D vwCl (q, .inl (tc k, N, .inr (.inr (.inr (.inr (fun _ => none)))))) H1 → A q → H.size ≤ H1.size → q < H1.size → (∀ x, x < H.size → H1[x]? = H[x]?) → va_S A H0 H1 locs → W p l e R s m args below meth c H1 locs (cells + 1) (slots + N) Q (F0 m (pc + 3) ls (.ref q :: rest))) : W p l e R s m args below meth c H locs cells slots Q (F0 m pc ls (.int n :: rest)) := by
  subst hN
  obtain ⟨hx, hb, -, hown, hK, -⟩ := X
  refine W.anew hx hb hown (hK.1.use hcl) (va_AO.use (hK.2.2.1 C hin)) rfl hd rfl hn hb4 hcs.1 hcs.2 fun cA kA comp f1 f2 f3 f4 => ?_
  have hra := (hK.2.1.2 k _ hty).2
  obtain ⟨-, -, -, -, -, g4⟩ := hra
  cases g4.symm.trans f1
  generalize hH1 : H.push ({ cls := tc k, slots := Array.replicate n.toNatClampNeg .null, vm := .none } : Cell) = H1
  have z1 : H1.size = H.size + 1 := by rw [← hH1, Array.size_push]
  have e1 : H1[H.size]? = some (arrV (tc k) n.toNatClampNeg (fun _ => .null)) := by rw [← hH1, Array.getElem?_push_size, ← arrV_new]
  have o1 : ∀ q : Nat, q < H.size → H1[q]? = H[q]? := fun q hq => by rw [← hH1, Array.getElem?_push, if_neg (Nat.ne_of_lt hq)]
  exact kk H.size H1 (Nat.le_refl _) e1 (hA _ hS.1) (by omega) (by omega) o1 ⟨Nat.le_trans hS.1 (by omega), fun x h1 h2 => (o1 x (Nat.lt_of_lt_of_le h1 hS.1)).trans (hS.2.1 x h1 h2), hS.2.2⟩
/-- ten rows of three ints -/
theorem x_mna (X : Cx p c s m meth cc nL own D tc) (hcl : Cond.classLink own index "[[I" ∈ WX) (hS : va_S A H0 H locs) (hA : ∀ q, H0.size ≤ q → A q) (hcs : cells + 11 ≤ R.cells ∧ slots + 40 ≤ R.slots) (hd : decode cc pc = .ok (.multianewarray index 2, 4))
    (kk : ∀ (q : Nat) (rr : Nat → Nat) (H1 : Heap), H.size ≤ q → (∀ j, j < 10 → q < rr j) → (∀ i j, i < 10 → j < 10 → rr i = rr j → i = j) → va_at D vwCl (q, .inl (tc 5, 10, .inr (.inr (.inr (.inr (fun j => if j < 10 then some (rr j) else none)))))) H1 → (∀ j, j < 10 → va_at D vwCl (rr j, s_in tc (.inr (0, 3, none)) (fun _ => 0)) H1) → (∀ x, H.size ≤ x → A x) → H.size ≤ H1.size → q < H1.size → (∀ j, j < 10 → rr j < H1.size) → (∀ x, x < H.size → H1[x]? = H[x]?) → va_S A H0 H1 locs → W p l e R s m args below meth c H1 locs (cells + 11) (slots + 40) Q (F0 m (pc + 4) ls (.ref q :: rest))) : W p l e R s m args below meth c H locs cells slots Q (F0 m pc ls (.int 3 :: .int 10 :: rest)) := by
  obtain ⟨hx, hb, -, hown, hK, -⟩ := X
  have harr : (Cond.arrayClass .int).before args s = true := va_arr (hK.2.2.2.1 .int (by decide))
  intro T hT Xs
  obtain ⟨vm₁, cA, comp, -, fA, fC, -, -, X', step⟩ := Xs.multianewarray2F hx hown (ty := .int) (hK.1.use hcl) (va_AOA.use hK.2.2.2.2.1) harr (g := F0 m pc ls (.int 3 :: .int 10 :: rest)) rfl (by rw [hb]; exact hd) rfl (by decide) (by decide) (by decide) (by decide) (by decide) rfl rfl hcs.1 hcs.2
  cases (nm_int hK).symm.trans fC
  cases ((hK.2.1.2 5 _ rfl).2 : s.vm.findClass "[[I" = some (tc 5)).symm.trans fA
  have hten : (10 : Int32).toNatClampNeg = 10 := rfl
  have hthree : (3 : Int32).toNatClampNeg = 3 := rfl
  rw [hten, hthree] at X' step
  generalize hF : Jvm.Free.Multi.fill (T.setVm vm₁) (tc 5) (tc 0) 10 3 (defaultValue .int) 10 = F at X' step
  have hTh : (T.setVm vm₁).heap = H := hT
  obtain ⟨f1, f2, -, -⟩ := Jvm.Free.Multi.fill_facts (T.setVm vm₁) (tc 5) (tc 0) 10 3 (defaultValue .int) 10
  rw [hF, hTh] at f1 f2
  have hold : ∀ x : Nat, x < H.size → F.heap[x]? = H[x]? := fun x hx => by
    have := Jvm.Free.Multi.fill_old (T.setVm vm₁) (tc 5) (tc 0) 10 3 (defaultValue .int) (a := x) (by rw [hTh]; exact hx) 10
    rw [hF, hTh] at this
    exact this
  have hrow : ∀ j : Nat, j < 10 → F.heap[H.size + 1 + j]? = some (Jvm.Free.Multi.innerC (tc 0) 3 (defaultValue .int)) := fun j hj => by
    have := Jvm.Free.Multi.fill_inner (T.setVm vm₁) (tc 5) (tc 0) 10 3 (defaultValue .int) 10 j hj
    rw [hF, hTh] at this
    exact this
  obtain ⟨t, b1, b2⟩ := kk H.size (fun j => H.size + 1 + j) F.heap (Nat.le_refl _) (fun j _ => by omega) (fun i j _ _ h => by omega) (by
      show F.heap[H.size]? = some (vp_cell _ _)
      rw [f2, vp_cell_q]
      exact congrArg some (vr_outer (tc 5) 10 H.size 10)) (fun j hj => hrow j hj) (fun x hx => hA x (Nat.le_trans hS.1 hx)) (by omega) (by omega) (fun j hj => by omega) hold ⟨Nat.le_trans hS.1 (by omega), fun x h1 h2 => (hold x (Nat.lt_of_lt_of_le h1 hS.1)).trans (hS.2.1 x h1 h2), hS.2.2⟩ F rfl X'
  refine ⟨t, ?_, b2⟩
  have := step t
  rw [hT] at this
  exact this b1
/-- a cast to its own class -/
theorem x_cast {ci N a : Nat} {C : String} {T : u_T} {fs : List Value} (X : Cx p c s m meth cc nL own D tc) (hcl : Cond.classLink own index C ∈ WX) (hc : vwCl[ci]? = some (C, T, N)) (hat : va_at D vwCl (a, .inr (ci, fs)) H) (hd : decode cc pc = .ok (.checkcast index, 3))
    (kk : W p l e R s m args below meth c H locs cells slots Q (F0 m (pc + 3) ls (.ref a :: rest))) : W p l e R s m args below meth c H locs cells slots Q (F0 m pc ls (.ref a :: rest)) := by
  obtain ⟨hx, hb, -, hown, hK, -⟩ := X
  exact va_castS hx hb hown (hK.1.use hcl) (kn_of hK hc).2 (recv1 hK hc hat) hd kk
theorem x_casta {a N : Nat} {W0 : Nat → Int32} (X : Cx p c s m meth cc nL own D tc) (hcl : Cond.classLink own index "[I" ∈ WX) (hat : va_at D vwCl (a, s_in tc (.inr (0, N, none)) W0) H) (hd : decode cc pc = .ok (.checkcast index, 3))
    (kk : W p l e R s m args below meth c H locs cells slots Q (F0 m (pc + 3) ls (.ref a :: rest))) : W p l e R s m args below meth c H locs cells slots Q (F0 m pc ls (.ref a :: rest)) := by
  obtain ⟨hx, hb, -, hown, hK, -⟩ := X
  exact va_castA (ws := [(a, s_in tc (.inr (0, N, none)) W0)]) hx hb hown (hK.1.use hcl) (fun k q hk => by
    have hz : k < 1 := (List.getElem?_eq_some_iff.mp hk).1
    rw [show k = 0 by omega] at hk
    cases hk
    exact hat) 0 rfl (nm_int hK) hd kk
/-- fields of nest mates -/
theorem g_getN (X : Cx p c s m meth cc nL own D tc) {index ci k : Nat} {ty : FieldType} {fin : Bool} {host : String} (hd : decode cc pc = .ok (.getfield index, 3)) (F : FN own index ci k ty fin host) (hB : Blk D tc A sh ad w H) (i : Nat) {fs : List (Option Value)} (hs : sh i = some (.inl (ci, fs))) {v : Value} (hv : fs[k]?.map (fun o => o.getD (.int (w i k))) = some v)
    (kk : W p l e R s m args below meth c H locs cells slots Q (F0 m (pc + 3) ls (v :: rest))) : W p l e R s m args below meth c H locs cells slots Q (F0 m pc ls (.ref (ad i) :: rest)) := by
  obtain ⟨C, T, N, tys, ⟨hc, hin, hty, hnm⟩, hk, hl, -, -⟩ := F
  obtain ⟨hx, hb, -, hown, hK, -⟩ := X
  exact va_getN (ci := ci) (fs := s_fs fs (w i)) hx hb (fun z hz => hK.1.use hz) hin hown hK.2.1 (hB.at1 i hs) 0 rfl hc k hk (hK.1.use hl) (fun _ h => h) (by rw [s_fs_get]; exact hv) hd kk
theorem g_putiN (X : Cx p c s m meth cc nL own D tc) {index ci k : Nat} {ty : FieldType} {host : String} (hd : decode cc pc = .ok (.putfield index, 3)) (F : FN own index ci k ty false host) {a : Nat} {W0 : Nat → Int32} {fs : List (Option Value)} (hB : Blk D tc A (S1 (.inl (ci, fs))) (fun _ => a) (fun _ => W0) H) (hS : va_S A H0 H locs) {x : Int32} (hl0 : fs[k]? = some none) (hn : narrow ty (.int x) = .int x) (hfit : fits ty (.int x) = true)
    (kk : ∀ (H1 : Heap) (locs1 : List Loc), Blk D tc A (S1 (.inl (ci, fs))) (fun _ => a) (up2 (fun _ => W0) 0 k x) H1 → (∀ q, q ≠ a → H1[q]? = H[q]?) → va_S A H0 H1 locs1 → W p l e R s m args below meth c H1 locs1 cells slots Q (F0 m (pc + 3) ls rest)) : W p l e R s m args below meth c H locs cells slots Q (F0 m pc ls (.int x :: .ref a :: rest)) := by
  obtain ⟨C, T, N, tys, ⟨hc, hin, hty, hnm⟩, hk, hl, ht, hfin⟩ := F
  obtain ⟨hx, hb, -, hown, hK, -⟩ := X
  have hts : ∀ z ∈ WX, z.before args s = true := fun z hz => hK.1.use hz
  have hap := va_apart (own := own) hts hin tys hty hnm hK.2.1 hc
  have hB0 := hB
  obtain ⟨⟨r, h1, cell, q1, q2, q3, q4⟩, hA⟩ := hB.1 0 (.inl (ci, fs)) rfl
  have hr : r = (C, T, N) := Option.some.inj (h1.symm.trans hc)
  subst hr
  obtain ⟨hSl, hfc, kC, hkC, hkind⟩ := hK.2.1.1 ci _ hc
  obtain ⟨cf, kf, fi, f, hi, hsl⟩ := hSl k hk
  have hlay := hts _ (hin _ (u_in_lay hk))
  unfold u_lay at hlay
  rw [if_neg (by rw [hfin]; decide)] at hlay
  have hst := (u_facts hfc hkC (u_lays hts hin hk) hi).1
  have h6 := u_store (v := .int x) hfc hkC hkind hlay hi (hty k hk) (by rw [ht]; exact hn) (by rw [ht]; exact hfit)
  refine va_WputK hx hb hown (hts _ hl) hi hst (by rw [q2]; exact h6) q1 q3 (by rw [hsl]; exact k2_hasslot (q4 k hk)) rfl rfl hd fun H' e1 e2 e3 => ?_
  rw [hsl] at e1
  have hkl : k < fs.length := (List.getElem?_eq_some_iff.mp hl0).1
  refine kk H' _ (hB0.put 0 rfl rfl ?_ e3 (fun _ _ => rfl) (fun j hj => up2_ne hj)) e3 (hS.put e2 e3 hA)
  rw [up2_row]
  show va_at D vwCl (a, .inr (ci, s_fs fs (upd W0 k x))) H'
  rw [← s_fs_set hl0]
  exact ⟨_, hc, t_OB.to (V := updV (vp_V (s_fs fs W0)) k (.int x)) ⟨_, e1, q2, q3, t_set q4 hap hk (.int x)⟩ (fun j _ => vp_updV_set (by rw [s_fs_len]; exact hkl) (.int x) j)⟩
end XROWS
theorem mo_X8_3 : MO RX8 3 := ⟨w_44, w_45, w_46⟩
theorem mo_X0_3 : MO RX0 3 := ⟨w_98, w_45, w_46⟩
theorem mo_X1_3 : MO RX1 3 := ⟨w_58, w_45, w_46⟩
theorem mo_X2_3 : MO RX2 3 := ⟨w_1028, w_45, w_46⟩
theorem mo_X3_3 : MO RX3 3 := ⟨w_184, w_45, w_46⟩
theorem mo_X4_3 : MO RX4 3 := ⟨w_905, w_45, w_46⟩
theorem mo_X5_3 : MO RX5 3 := ⟨w_163, w_45, w_46⟩
theorem mo_X6_3 : MO RX6 3 := ⟨w_120, w_45, w_46⟩
theorem mo_X7_1 : MO RX7 1 := ⟨w_52, w_45, w_46⟩
theorem mf_X13_7 : MF RX13 7 "java/util/ArrayList" ⟨"java/util/List", "size", "()I"⟩ yJx4a65c_size_8abf5 cJx4a65c_size_8abf5 1 (Option.some FieldType.int) 0 := ⟨⟨by decide +kernel, by decide +kernel, by decide +kernel⟩, w_1430, w_12, w_1422, w_1424, w_1423, w_1426, w_1428, w_1429, w_1427, w_1425⟩
theorem mo_X13_25 : MO RX13 25 := ⟨w_1153, w_45, w_46⟩
theorem mf_X13_142 : MF RX13 142 "java/util/ArrayList" ⟨"java/util/List", "add", "(Ljava/lang/Object;)Z"⟩ yJx4a65c_add_9ea2d cJx4a65c_add_9ea2d 2 (Option.some FieldType.boolean) 1 := ⟨⟨by decide +kernel, by decide +kernel, by decide +kernel⟩, w_1486, w_12, w_1479, w_1481, w_1480, w_1482, w_1484, w_1485, w_1483, w_1425⟩
theorem mf_X13_163 : MF RX13 163 "java/util/ArrayList" ⟨"java/util/List", "get", "(I)Ljava/lang/Object;"⟩ yJx4a65c_get_915e3 cJx4a65c_get_915e3 2 (Option.some (FieldType.object "java/lang/Object")) 1 := ⟨⟨by decide +kernel, by decide +kernel, by decide +kernel⟩, w_1570, w_12, w_1563, w_1565, w_1564, w_1566, w_1568, w_1569, w_1567, w_1425⟩
theorem mf_X13_250 : MF RX13 250 "java/util/ArrayList" ⟨"java/util/List", "remove", "(I)Ljava/lang/Object;"⟩ yJx4a65c_remove_915e3 cJx4a65c_remove_915e3 4 (Option.some (FieldType.object "java/lang/Object")) 1 := ⟨⟨by decide +kernel, by decide +kernel, by decide +kernel⟩, w_1810, w_12, w_1803, w_1805, w_1804, w_1806, w_1808, w_1809, w_1807, w_1425⟩
theorem mf_X13_256 : MF RX13 256 "java/util/ArrayList" ⟨"java/util/List", "isEmpty", "()Z"⟩ yJx4a65c_isEmpty_aae02 cJx4a65c_isEmpty_aae02 1 (Option.some FieldType.boolean) 0 := ⟨⟨by decide +kernel, by decide +kernel, by decide +kernel⟩, w_1824, w_12, w_1817, w_1819, w_1818, w_1820, w_1822, w_1823, w_1821, w_1425⟩
theorem mf_X13_272 : MF RX13 272 "java/util/ArrayList" ⟨"java/util/List", "iterator", "()Ljava/util/Iterator;"⟩ yJx4a65c_iterator_32c93 cJx4a65c_iterator_32c93 1 (Option.some (FieldType.object "java/util/Iterator")) 0 := ⟨⟨by decide +kernel, by decide +kernel, by decide +kernel⟩, w_1677, w_12, w_1921, w_1672, w_1671, w_1673, w_1675, w_1676, w_1674, w_1425⟩
theorem mf_X13_276 : MF RX13 276 "java/util/ArrayList$Itr" ⟨"java/util/Iterator", "hasNext", "()Z"⟩ yJx35411_hasNext_aae02 cJx35411_hasNext_aae02 1 (Option.some FieldType.boolean) 0 := ⟨⟨by decide +kernel, by decide +kernel, by decide +kernel⟩, w_1706, w_32, w_1923, w_1700, w_1699, w_1702, w_1704, w_1705, w_1703, w_1701⟩
theorem mf_X13_281 : MF RX13 281 "java/util/ArrayList$Itr" ⟨"java/util/Iterator", "next", "()Ljava/lang/Object;"⟩ yJx35411_next_0502b cJx35411_next_0502b 3 (Option.some (FieldType.object "java/lang/Object")) 0 := ⟨⟨by decide +kernel, by decide +kernel, by decide +kernel⟩, w_1715, w_32, w_1925, w_1710, w_1709, w_1711, w_1713, w_1714, w_1712, w_1701⟩
theorem mo_X9_1 : MO RX9 1 := ⟨w_1909, w_45, w_46⟩
theorem mf_X9_16 : MF RX9 16 "java/util/ArrayList" ⟨"java/util/List", "iterator", "()Ljava/util/Iterator;"⟩ yJx4a65c_iterator_32c93 cJx4a65c_iterator_32c93 1 (Option.some (FieldType.object "java/util/Iterator")) 0 := ⟨⟨by decide +kernel, by decide +kernel, by decide +kernel⟩, w_1677, w_12, w_1951, w_1672, w_1671, w_1673, w_1675, w_1676, w_1674, w_1425⟩
theorem mf_X9_22 : MF RX9 22 "java/util/ArrayList$Itr" ⟨"java/util/Iterator", "hasNext", "()Z"⟩ yJx35411_hasNext_aae02 cJx35411_hasNext_aae02 1 (Option.some FieldType.boolean) 0 := ⟨⟨by decide +kernel, by decide +kernel, by decide +kernel⟩, w_1706, w_32, w_1953, w_1700, w_1699, w_1702, w_1704, w_1705, w_1703, w_1701⟩
theorem mf_X9_28 : MF RX9 28 "java/util/ArrayList$Itr" ⟨"java/util/Iterator", "next", "()Ljava/lang/Object;"⟩ yJx35411_next_0502b cJx35411_next_0502b 3 (Option.some (FieldType.object "java/lang/Object")) 0 := ⟨⟨by decide +kernel, by decide +kernel, by decide +kernel⟩, w_1715, w_32, w_1955, w_1710, w_1709, w_1711, w_1713, w_1714, w_1712, w_1701⟩
theorem mo_X10_1 : MO RX10 1 := ⟨w_1758, w_45, w_46⟩
theorem mo_X11_3 : MO RX11 3 := ⟨w_1440, w_45, w_46⟩
theorem mo_X12_3 : MO RX12 3 := ⟨w_1159, w_45, w_46⟩
theorem mf_X12_59 : MF RX12 59 "java/util/ArrayList" ⟨"java/util/List", "iterator", "()Ljava/util/Iterator;"⟩ yJx4a65c_iterator_32c93 cJx4a65c_iterator_32c93 1 (Option.some (FieldType.object "java/util/Iterator")) 0 := ⟨⟨by decide +kernel, by decide +kernel, by decide +kernel⟩, w_1677, w_12, w_1670, w_1672, w_1671, w_1673, w_1675, w_1676, w_1674, w_1425⟩
theorem mf_X12_65 : MF RX12 65 "java/util/ArrayList$Itr" ⟨"java/util/Iterator", "hasNext", "()Z"⟩ yJx35411_hasNext_aae02 cJx35411_hasNext_aae02 1 (Option.some FieldType.boolean) 0 := ⟨⟨by decide +kernel, by decide +kernel, by decide +kernel⟩, w_1706, w_32, w_1698, w_1700, w_1699, w_1702, w_1704, w_1705, w_1703, w_1701⟩
theorem mf_X12_71 : MF RX12 71 "java/util/ArrayList$Itr" ⟨"java/util/Iterator", "next", "()Ljava/lang/Object;"⟩ yJx35411_next_0502b cJx35411_next_0502b 3 (Option.some (FieldType.object "java/lang/Object")) 0 := ⟨⟨by decide +kernel, by decide +kernel, by decide +kernel⟩, w_1715, w_32, w_1708, w_1710, w_1709, w_1711, w_1713, w_1714, w_1712, w_1701⟩
theorem mf_X12_81 : MF RX12 81 "java/util/ArrayList" ⟨"java/util/List", "add", "(Ljava/lang/Object;)Z"⟩ yJx4a65c_add_9ea2d cJx4a65c_add_9ea2d 2 (Option.some FieldType.boolean) 1 := ⟨⟨by decide +kernel, by decide +kernel, by decide +kernel⟩, w_1486, w_12, w_1622, w_1481, w_1480, w_1482, w_1484, w_1485, w_1483, w_1425⟩
theorem mf_X12_89 : MF RX12 89 "java/util/ArrayList" ⟨"java/util/List", "addAll", "(Ljava/util/Collection;)Z"⟩ yJx4a65c_addAll_f0b43 cJx4a65c_addAll_f0b43 6 (Option.some FieldType.boolean) 1 := ⟨⟨by decide +kernel, by decide +kernel, by decide +kernel⟩, w_1987, w_12, w_1980, w_1982, w_1981, w_1983, w_1985, w_1986, w_1984, w_1425⟩
theorem mf_X12_115 : MF RX12 115 "java/util/ArrayList" ⟨"java/util/List", "size", "()I"⟩ yJx4a65c_size_8abf5 cJx4a65c_size_8abf5 1 (Option.some FieldType.int) 0 := ⟨⟨by decide +kernel, by decide +kernel, by decide +kernel⟩, w_1430, w_12, w_1620, w_1424, w_1423, w_1426, w_1428, w_1429, w_1427, w_1425⟩
theorem mf_X12_130 : MF RX12 130 "java/util/ArrayList" ⟨"java/util/List", "get", "(I)Ljava/lang/Object;"⟩ yJx4a65c_get_915e3 cJx4a65c_get_915e3 2 (Option.some (FieldType.object "java/lang/Object")) 1 := ⟨⟨by decide +kernel, by decide +kernel, by decide +kernel⟩, w_1570, w_12, w_1738, w_1565, w_1564, w_1566, w_1568, w_1569, w_1567, w_1425⟩
theorem mo_Jxa1e45_1 : MO RJxa1e45 1 := ⟨w_1172, w_45, w_46⟩
theorem mf_Jx4a65c_42 : MF RJx4a65c 42 "java/util/ArrayList" ⟨"java/util/Collection", "toArray", "()[Ljava/lang/Object;"⟩ yJx4a65c_toArray_d5877 cJx4a65c_toArray_d5877 1 (Option.some (FieldType.array (FieldType.object "java/lang/Object"))) 0 := ⟨⟨by decide +kernel, by decide +kernel, by decide +kernel⟩, w_1997, w_12, w_1989, w_1991, w_1990, w_1993, w_1995, w_1996, w_1994, w_1992⟩
theorem mo_Jx35411_7 : MO RJx35411 7 := ⟨w_1683, w_45, w_46⟩
theorem nw_X8_9 : NW RX8 9 11 tyX7 6 := ⟨RX7, TX7, ck11, w_47, w_48, w_2⟩
theorem nw_X8_24 : NW RX8 24 8 tyX4 15 := ⟨RX4, TX4, ck8, w_224, w_901, w_33⟩
theorem nw_X8_30 : NW RX8 30 6 tyX2 4 := ⟨RX2, TX2, ck6, w_226, w_1024, w_36⟩
theorem nw_X7_7 : NW RX7 7 5 tyX1 8 := ⟨RX1, TX1, ck5, w_53, w_54, w_3⟩
theorem nw_X7_16 : NW RX7 16 4 tyX0 4 := ⟨RX0, TX0, ck4, w_93, w_94, w_4⟩
theorem nw_X7_23 : NW RX7 23 10 tyX6 8 := ⟨RX6, TX6, ck10, w_115, w_116, w_5⟩
theorem nw_X7_30 : NW RX7 30 9 tyX5 4 := ⟨RX5, TX5, ck9, w_158, w_159, w_6⟩
theorem nw_X7_37 : NW RX7 37 7 tyX3 3 := ⟨RX3, TX3, ck7, w_179, w_180, w_7⟩
theorem nw_L_8 : NW RL 8 12 tyX8 9 := ⟨RX8, TX8, ck12, w_39, w_40, w_1⟩
theorem nw_L_160 : NW RL 160 17 tyX13 5 := ⟨RX13, TX13, ck17, w_1148, w_1149, w_8⟩
theorem nw_X13_31 : NW RX13 31 16 tyX12 12 := ⟨RX12, TX12, ck16, w_1154, w_1155, w_9⟩
theorem nw_X13_38 : NW RX13 38 3 tyJx4a65c 3 := ⟨RJx4a65c, TJx4a65c, ck3, w_1239, w_1162, w_12⟩
theorem nw_X13_128 : NW RX13 128 15 tyX11 7 := ⟨RX11, TX11, ck15, w_1435, w_1436, w_26⟩
theorem nw_X13_220 : NW RX13 220 14 tyX10 10 := ⟨RX10, TX10, ck14, w_1753, w_1754, w_34⟩
theorem nw_X13_268 : NW RX13 268 13 tyX9 2 := ⟨RX9, TX9, ck13, w_1904, w_1905, w_37⟩
theorem nw_X9_7 : NW RX9 7 3 tyJx4a65c 3 := ⟨RJx4a65c, TJx4a65c, ck3, w_1910, w_1162, w_12⟩
theorem nw_X9_32 : NW RX9 32 15 tyX11 7 := ⟨RX11, TX11, ck15, w_1956, w_1436, w_26⟩
theorem nw_X10_7 : NW RX10 7 3 tyJx4a65c 3 := ⟨RJx4a65c, TJx4a65c, ck3, w_1759, w_1162, w_12⟩
theorem nw_X11_10 : NW RX11 10 15 tyX11 7 := ⟨RX11, TX11, ck15, w_1932, w_1436, w_26⟩
theorem nw_X12_10 : NW RX12 10 16 tyX12 12 := ⟨RX12, TX12, ck16, w_1969, w_1155, w_9⟩
theorem nw_X12_30 : NW RX12 30 3 tyJx4a65c 3 := ⟨RJx4a65c, TJx4a65c, ck3, w_1161, w_1162, w_12⟩
theorem nw_X12_75 : NW RX12 75 15 tyX11 7 := ⟨RX11, TX11, ck15, w_1731, w_1436, w_26⟩
theorem nw_Jx4a65c_267 : NW RJx4a65c 267 2 tyJx35411 4 := ⟨RJx35411, TJx35411, ck2, w_1678, w_1679, w_32⟩
