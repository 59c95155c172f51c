/-! THE BASE: words, classes, statics, blocks of cells, rows over blocks -/
def KW (U : State) : Prop := ∀ w ∈ WX, w.before #[] U = true
theorem KW.use {s : State} {args : Array Value} {w : Cond} (h : KW s) (hw : w ∈ WX) : w.before args s = true := by
  have h1 := (List.mem_filter.mp hw).2
  simp only [wx_ok, Bool.and_eq_true] at h1
  exact va_tabs h1.1 rfl (h w hw)
theorem KW.warm {s U : State} (hW : s.WarmedH U.vm) (h : KW s) : KW U := by
  intro w hw
  have h1 := (List.mem_filter.mp hw).2
  simp only [wx_ok, Bool.and_eq_true, Bool.or_eq_true] at h1
  obtain ⟨ho, hk | hk⟩ := h1
  · have := Cond.onTables_warmH (T := U) (args' := #[]) hW ho hk (h w hw)
    rwa [State.setVm_self] at this
  · exact va_tabs (u := s.setVm U.vm) ho rfl (Cond.before_shiftedFace (State.Shifted.of_warmed hW) w hk (h w hw))
theorem KW.same {u U : State} (e : u.vm = U.vm) (h : KW u) : KW U := by
  intro w hw
  have h1 := (List.mem_filter.mp hw).2
  simp only [wx_ok, Bool.and_eq_true] at h1
  exact va_tabs h1.1 e (h w hw)
/-- the classes of arrays, by number -/
def TY (tc : Nat → ClassId) : List (ClassId × FieldType) := [(tc 0, .int), (tc 1, .boolean), (tc 2, .char), (tc 3, .long), (tc 4, .double), (tc 5, .array .int), (tc 6, .object "Bandworld$World"), (tc 7, .object "Bandworld$Probe"), (tc 8, .object "Bandworld$Frame"), (tc 9, .object "java/lang/Object")]
def aoList : List String := ["Bandworld$World", "Bandworld$Probe", "Bandworld$Frame", "java/lang/Object"]
def acList : List FieldType := [.int, .boolean, .char, .long, .double]
/-- the texts of Bandworld's exceptions -/
def strX : List (Nat × String) := [(357, "there is no such number"), (359, "a number is out of range"), (75, "there is no ice of this vapour"), (113, "both belts are no neighbours"), (365, "there is no room for another one"), (361, "there is no such name"), (158, "the storm is gone, or another one has the name"), (165, "no storm that is there has the name"), (353, "the storm is gone"), (182, "the storm lives on in none that is there"), (188, "the column is not warm enough"), (349, "there is no such probe"), (242, "the probe is dead"), (253, "a record has no such thing"), (255, "there is no such record"), (351, "there is no such frame"), (286, "the frame does not have the name"), (291, "a frame does not have the name, or no turn is between"), (309, "there is no such save"), (355, "there is no such happening"), (324, "there were no storms")]
/-- native methods, the class object of Object[] -/
def natL : List MethodName := [arraycopyName, ⟨"java/lang/Object", "getClass", "()Ljava/lang/Class;"⟩, ⟨"java/lang/Object", "clone", "()Ljava/lang/Object;"⟩]
def KN (U : State) : Prop := (∀ x ∈ natL, (Cond.native x).before #[] U = true) ∧ va_Dc U ∧ ∃ mi, va_Mi "[Ljava/lang/Object;" mi U
theorem KN.moved {u U : State} (hvm : u.vm.Alike U.vm) (h : KN u) : KN U := ⟨fun x hx => by
  have h1 := h.1 x hx
  rw [← Cond.native_setVm hvm x] at h1
  exact va_tabs (A := #[]) (A' := #[]) (u := u.setVm U.vm) rfl rfl h1, h.2.1.moved hvm, h.2.2.imp fun _ q => q.moved hvm⟩
theorem KN.nat {U : State} {args : Array Value} {x : MethodName} (h : KN U) (hx : x ∈ natL) : (Cond.native x).before args U = true := va_any rfl (h.1 x hx)
def KK (D : va_G) (tc : Nat → ClassId) (U : State) : Prop := KW U ∧ va_K D vwCl (TY tc) U ∧ (∀ C ∈ aoList, va_AO C U) ∧ (∀ ty ∈ acList, (Cond.arrayClass ty).before #[] U = true) ∧ va_AOA .int U ∧ (∀ z ∈ strX, ∃ a, vk_R "Bandworld" z.1 z.2 a U) ∧ KN U
theorem KK.warm {D : va_G} {tc : Nat → ClassId} {s U : State} (hW : s.WarmedH U.vm) (h : KK D tc s) : KK D tc U := ⟨KW.warm hW h.1, h.2.1.moved hW.alike, fun C hC => (h.2.2.1 C hC).moved hW.alike, fun ty hty => word_at hW (Or.inr ⟨ty, rfl⟩) (h.2.2.2.1 ty hty), over_moved hW.alike h.2.2.2.2.1, fun z hz => (h.2.2.2.2.2.1 z hz).imp fun _ q => q.warm hW, h.2.2.2.2.2.2.moved hW.alike⟩
theorem KK.same {D : va_G} {tc : Nat → ClassId} {s U : State} (e : s.vm = U.vm) (h : KK D tc s) : KK D tc U := h.warm (by rw [← e]; exact State.WarmedH.refl _)
-- STATICS: sa 0 WIDTHS, sa 1 HELD_BY_DEGREE, sa 2 FREEZING, sa 3 the empty row of ArrayList
def fWid : Nat → Int32 := fun k => match k with
  | 0 => 2 | 1 => 4 | 2 => 6 | 3 => 8 | 4 => 9 | 5 => 10 | 6 => 10 | 7 => 9 | 8 => 8 | 9 => 6 | 10 => 4 | 11 => 2 | _ => 0
def fHel : Nat → Int32 := fun k => match k with
  | 0 => 40 | 1 => 60 | 2 => 90 | _ => 0
def fFre : Nat → Int32 := fun k => match k with
  | 0 => 120 | 1 => 180 | 2 => 240 | _ => 0
abbrev old (h0 : Nat) : Nat → Prop := fun q => h0 ≤ q
/-- what the model rests on: the empty row, its two texts, a text's switch -/
def SX (h0 : Nat) (sa : Nat → Nat) (U : State) (H : Heap) : Prop :=
  va_T (.object "java/lang/Object") (sa 3) 0 (fun _ => .null) (old h0) U H ∧ va_O "[Ljava/lang/Object;" (sa 3) (old h0) U H ∧
  vk_S 2 [6, 3] [[50, 52, 54, 56, 57, 57], [108, 116, 105]] (fun i => sa (10 + i)) (fun i => sa (20 + i)) (old h0) U H ∧
  vk_R "BandworldModel" 17 "246899" (sa 10) U ∧ vk_R "BandworldModel" 263 "lti" (sa 11) U ∧
  va_Z "java/lang/String" "COMPACT_STRINGS" "Z" (.int 1) (old h0) U H ∧ va_Zq "jdk/internal/util/Preconditions" "SIOOBE_FORMATTER" "Ljava/util/function/BiFunction;" (old h0) U H ∧ va_Mi "[Ljava/lang/Object;" (sa 30) U
theorem SX.moved {h0 : Nat} {sa : Nat → Nat} {u U : State} {H : Heap} (hW : u.WarmedH U.vm) (h : SX h0 sa u H) : SX h0 sa U H :=
  ⟨h.1.moved hW.alike, h.2.1.moved hW.alike, h.2.2.1.moved hW.alike, h.2.2.2.1.warm hW, h.2.2.2.2.1.warm hW, h.2.2.2.2.2.1.moved hW.alike, h.2.2.2.2.2.2.1.moved hW.alike, h.2.2.2.2.2.2.2.moved hW.alike⟩
theorem SX.kept {h0 : Nat} {sa : Nat → Nat} {U : State} {H H1 : Heap} (h : SX h0 sa U H) (hq : ∀ a : Nat, a < H.size → ¬ old h0 a → H1[a]? = H[a]?) : SX h0 sa U H1 :=
  ⟨h.1.kept hq, h.2.1.kept hq, h.2.2.1.kept hq, h.2.2.2.1, h.2.2.2.2.1, h.2.2.2.2.2.1.kept hq, h.2.2.2.2.2.2.1.kept hq, h.2.2.2.2.2.2.2⟩
def ST (h0 : Nat) (sa : Nat → Nat) (U : State) (H : Heap) : Prop :=
  va_Z "Bandworld$Belts" "WIDTHS" "[I" (.ref (sa 0)) (old h0) U H ∧ va_T .int (sa 0) 12 (fun k => .int (fWid k)) (old h0) U H ∧
  va_Z "Bandworld$Column" "HELD_BY_DEGREE" "[I" (.ref (sa 1)) (old h0) U H ∧ va_T .int (sa 1) 3 (fun k => .int (fHel k)) (old h0) U H ∧
  va_Z "Bandworld$Column" "FREEZING" "[I" (.ref (sa 2)) (old h0) U H ∧ va_T .int (sa 2) 3 (fun k => .int (fFre k)) (old h0) U H ∧
  vx_Zq Bundle.tN "UNASSIGNED_STACK" Bundle.steD (old h0) U H ∧ vx_Zq Bundle.tN "SUPPRESSED_SENTINEL" Bundle.listD (old h0) U H ∧
  va_Z "java/util/ArrayList" "DEFAULTCAPACITY_EMPTY_ELEMENTDATA" "[Ljava/lang/Object;" (.ref (sa 3)) (old h0) U H ∧ sa 3 < h0 ∧ SX h0 sa U H
theorem ST.moved {h0 : Nat} {sa : Nat → Nat} {u U : State} {H : Heap} (hW : u.WarmedH U.vm) (h : ST h0 sa u H) : ST h0 sa U H := by
  have hvm := hW.alike
  obtain ⟨h1, h2, h3, h4, h5, h6, h7, h8, h9, h10, h11⟩ := h
  exact ⟨h1.moved hvm, h2.moved hvm, h3.moved hvm, h4.moved hvm, h5.moved hvm, h6.moved hvm, h7.moved hvm, h8.moved hvm, h9.moved hvm, h10, h11.moved hW⟩
theorem ST.kept {h0 : Nat} {sa : Nat → Nat} {U : State} {H H1 : Heap} (h : ST h0 sa U H) (hq : ∀ a : Nat, a < H.size → ¬ old h0 a → H1[a]? = H[a]?) : ST h0 sa U H1 := by
  obtain ⟨h1, h2, h3, h4, h5, h6, h7, h8, h9, h10, h11⟩ := h
  exact ⟨h1.kept hq, h2.kept hq, h3.kept hq, h4.kept hq, h5.kept hq, h6.kept hq, h7.kept hq, h8.kept hq, h9.kept hq, h10, h11.kept hq⟩
theorem ST.at {h0 : Nat} {sa : Nat → Nat} {s U : State} {A : Nat → Prop} {H : Heap} {locs : List Loc} (h : ST h0 sa s s.heap) (hS : va_S A s.heap H locs) (hA : ∀ q, A q → h0 ≤ q) (hU : U.heap = H) (hW : s.WarmedH U.vm) : ST h0 sa U U.heap := by
  rw [hU]
  exact (h.kept (fun a ha hn => hS.2.1 a ha (fun z => hn (hA a z)))).moved hW
-- BLOCKS: shapes of cells by number; w the ints that they hold
abbrev Bd : Type := (Nat → Int32) ⊕ (Nat → Int64) ⊕ (Nat → UInt32) ⊕ (Nat → UInt64) ⊕ (Nat → Option Nat)
abbrev Sc : Type := (Nat × List (Option Value)) ⊕ (Nat × Nat × Option Bd)
abbrev Sh : Type := Nat → Option Sc
abbrev Dt : Type := Nat → Nat → Int32
def s_fs : List (Option Value) → (Nat → Int32) → List Value
  | [], _ => []
  | o :: r, w => o.getD (.int (w 0)) :: s_fs r (fun k => w (k + 1))
def s_in (tc : Nat → ClassId) (c : Sc) (w : Nat → Int32) : va_E := match c with
  | .inl o => .inr (o.1, s_fs o.2 w)
  | .inr (t, n, none) => .inl (tc t, n, .inl w)
  | .inr (t, n, some b) => .inl (tc t, n, b)
def up2 (w : Dt) (i k : Nat) (x : Int32) : Dt := fun a b => if a = i ∧ b = k then x else w a b
theorem up2_ne {w : Dt} {i k j : Nat} {x : Int32} (h : j ≠ i) : up2 w i k x j = w j := by
  funext b
  simp [up2, h]
theorem up2_row (w : Dt) (i k : Nat) (x : Int32) : up2 w i k x i = upd (w i) k x := by
  funext b
  simp [up2, upd]
theorem s_fs_get : ∀ (fs : List (Option Value)) (w : Nat → Int32) (k : Nat), (s_fs fs w)[k]? = fs[k]?.map (fun o => o.getD (.int (w k)))
  | [], _, k => by simp [s_fs]
  | o :: r, w, 0 => by simp [s_fs]
  | o :: r, w, k + 1 => by simp [s_fs, s_fs_get r]
theorem s_fs_len : ∀ (fs : List (Option Value)) (w : Nat → Int32), (s_fs fs w).length = fs.length
  | [], _ => rfl
  | o :: r, w => by simp [s_fs, s_fs_len r]
theorem s_fs_set {fs : List (Option Value)} {w : Nat → Int32} {k : Nat} {x : Int32} (h : fs[k]? = some none) : (s_fs fs w).set k (.int x) = s_fs fs (upd w k x) := by
  apply List.ext_getElem?
  intro j
  rw [List.getElem?_set, s_fs_get, s_fs_get, s_fs_len]
  by_cases hj : k = j
  · subst hj
    obtain ⟨hl, hv⟩ := List.getElem?_eq_some_iff.mp h
    simp [h, hl, upd, hv]
  · have hj' : ¬ j = k := fun q => hj q.symm
    simp [hj, upd, hj']
theorem s_fs_setv {fs : List (Option Value)} {w : Nat → Int32} {k : Nat} {v : Value} : (s_fs fs w).set k v = s_fs (fs.set k (some v)) w := by
  apply List.ext_getElem?
  intro j
  rw [List.getElem?_set, s_fs_get, s_fs_get, s_fs_len, List.getElem?_set]
  by_cases hj : k = j
  · subst hj
    by_cases hl : k < fs.length
    · simp [hl]
    · simp [hl]
  · simp [hj]
def Blk (D : va_G) (tc : Nat → ClassId) (A : Nat → Prop) (sh : Sh) (ad : Nat → Nat) (w : Dt) (H : Heap) : Prop :=
  (∀ (i : Nat) (c : Sc), sh i = some c → va_at D vwCl (ad i, s_in tc c (w i)) H ∧ A (ad i)) ∧ ∀ (i j : Nat) (c d : Sc), sh i = some c → sh j = some d → ad i = ad j → i = j
theorem Blk.at1 {D : va_G} {tc : Nat → ClassId} {A : Nat → Prop} {sh : Sh} {ad : Nat → Nat} {w : Dt} {H : Heap} (h : Blk D tc A sh ad w H) (i : Nat) {c : Sc} (hs : sh i = some c) : va_P D vwCl [(ad i, s_in tc c (w i))] H := by
  intro k q hk
  have hz : k < 1 := (List.getElem?_eq_some_iff.mp hk).1
  rw [show k = 0 by omega] at hk
  cases hk
  exact (h.1 i c hs).1
theorem Blk.lt {D : va_G} {tc : Nat → ClassId} {A : Nat → Prop} {sh : Sh} {ad : Nat → Nat} {w : Dt} {H : Heap} (h : Blk D tc A sh ad w H) {i : Nat} {c : Sc} (hs : sh i = some c) : ad i < H.size := (h.1 i c hs).1.lt
theorem Blk.in {D : va_G} {tc : Nat → ClassId} {A : Nat → Prop} {sh : Sh} {ad : Nat → Nat} {w : Dt} {H : Heap} (h : Blk D tc A sh ad w H) {i : Nat} {c : Sc} (hs : sh i = some c) : A (ad i) := (h.1 i c hs).2
theorem Blk.kept {D : va_G} {tc : Nat → ClassId} {A : Nat → Prop} {sh : Sh} {ad : Nat → Nat} {w : Dt} {H H1 : Heap} (h : Blk D tc A sh ad w H) (hq : ∀ q, q < H.size → A q → H1[q]? = H[q]?) : Blk D tc A sh ad w H1 :=
  ⟨fun i c hs => ⟨(h.1 i c hs).1.kept (hq _ (h.lt hs) (h.in hs)), h.in hs⟩, h.2⟩
theorem Blk.kept1 {D : va_G} {tc : Nat → ClassId} {A : Nat → Prop} {sh : Sh} {ad : Nat → Nat} {w : Dt} {H H1 : Heap} {a : Nat} (h : Blk D tc A sh ad w H) (oq : ∀ q, q ≠ a → H1[q]? = H[q]?) (ha : ¬ A a) : Blk D tc A sh ad w H1 :=
  h.kept fun q _ hA => oq q fun e => ha (e ▸ hA)
theorem Blk.mono {D : va_G} {tc : Nat → ClassId} {A B : Nat → Prop} {sh : Sh} {ad : Nat → Nat} {w : Dt} {H : Heap} (h : Blk D tc A sh ad w H) (hAB : ∀ i c, sh i = some c → A (ad i) → B (ad i)) : Blk D tc B sh ad w H :=
  ⟨fun i c hs => ⟨(h.1 i c hs).1, hAB i c hs (h.in hs)⟩, h.2⟩
/-- one cell of a block written -/
theorem Blk.put {D : va_G} {tc : Nat → ClassId} {A : Nat → Prop} {sh sh' : Sh} {ad : Nat → Nat} {w w' : Dt} {H H1 : Heap} (h : Blk D tc A sh ad w H) (i : Nat) {c c' : Sc} (hs : sh i = some c) (hs' : sh' i = some c') (he : va_at D vwCl (ad i, s_in tc c' (w' i)) H1)
    (oq : ∀ q, q ≠ ad i → H1[q]? = H[q]?) (hsh : ∀ j, j ≠ i → sh' j = sh j) (hw : ∀ j, j ≠ i → w' j = w j) : Blk D tc A sh' ad w' H1 := by
  refine ⟨fun j d hj => ?_, fun j k d d' hj hk e => ?_⟩
  · by_cases hji : j = i
    · subst hji
      cases hs'.symm.trans hj
      exact ⟨he, h.in hs⟩
    · rw [hsh j hji] at hj
      rw [hw j hji]
      exact ⟨(h.1 j d hj).1.kept (oq _ (fun e => hji (h.2 j i d c hj hs e))), h.in hj⟩
  · by_cases hji : j = i <;> by_cases hki : k = i
    · rw [hji, hki]
    · subst hji
      rw [hsh k hki] at hk
      exact h.2 j k c d' hs hk e
    · subst hki
      rw [hsh j hji] at hj
      exact h.2 j k d c hj hs e
    · rw [hsh j hji] at hj
      rw [hsh k hki] at hk
      exact h.2 j k d d' hj hk e
/-- what a walk needs of its method -/
def Cx (p : Program) (c : Code) (s : State) (m : MethodId) (meth : Method) (cc : ByteArray) (nL : Nat) (own : String) (D : va_G) (tc : Nat → ClassId) : Prop :=
  p.tables.exec = Jvm.exec ∧ c.code = cc ∧ c.maxLocals = nL ∧ s.vm.findClass own = some m.cls ∧ KK D tc s ∧ meth.locks = false
/-- a class by its number: its words, types, names apart -/
def CK (ci : Nat) (C : String) (T : u_T) (N : Nat) (ty : Nat → FieldType) : Prop := vwCl[ci]? = some (C, T, N) ∧ (∀ w ∈ u_ws C T N, w ∈ WX) ∧ (∀ k, k < N → parseFieldDescriptor (T k).2.2.1 = some (ty k)) ∧ ∀ a, a < N → ∀ b, b < N → a ≠ b → (T a).2.1 ≠ (T b).2.1
/-- a field k of the class ci, linked by the entry index of own -/
def FK (own : String) (index ci k : Nat) (ty : FieldType) (fin : Bool) : Prop := ∃ (C : String) (T : u_T) (N : Nat) (tys : Nat → FieldType) (ref : String), CK ci C T N tys ∧ k < N ∧ Cond.fieldLink own index ref (T k).2.1 (T k).2.2.1 ∈ WX ∧ ((T k).1 = ref ∨ Cond.sameField ref (T k).1 (T k).2.1 (T k).2.2.1 ∈ WX) ∧ tys k = ty ∧ (T k).2.2.2 = fin
theorem fk_of {own : String} {index ci k : Nat} {ty : FieldType} {fin : Bool} {C : String} {T : u_T} {N : Nat} {tys : Nat → FieldType} (hc : CK ci C T N tys) (hk : k < N) (hl : Cond.fieldLink own index (T k).1 (T k).2.1 (T k).2.2.1 ∈ WX) (ht : tys k = ty) (hf : (T k).2.2.2 = fin) : FK own index ci k ty fin :=
  ⟨C, T, N, tys, _, hc, hk, hl, Or.inl rfl, ht, hf⟩
section GROWS
variable {p : Program} {l : Launch} {e : Env} {R : Room} {s : State} {m : MethodId} {args : Array Value} {below : List Frame} {meth : Method} {c : Code} {H : Heap} {locs : List Loc} {cells slots : Nat} {Q : State → Prop}
variable {cc : ByteArray} {nL : Nat} {own : String} {D : va_G} {tc : Nat → ClassId} {pc : Nat} {ls : Array Slot} {rest : List Value} {A : Nat → Prop} {sh : Sh} {ad : Nat → Nat} {w : Dt} {H0 : Heap}
theorem fk_same {ref O n d : String} (hK : KK D tc s) (h : O = ref ∨ Cond.sameField ref O n d ∈ WX) : ∀ x, s.fieldFound? O n d = some x → s.fieldFound? ref n d = some x := by
  intro x hx
  rcases h with h | h
  · rw [← h]; exact hx
  · exact u_same (args := #[]) (hK.1.use h) x hx
/-- a field is read -/
theorem g_get (X : Cx p c s m meth cc nL own D tc) {index ci k : Nat} {ty : FieldType} {fin : Bool} (hd : decode cc pc = .ok (.getfield index, 3)) (F : FK own index ci k ty fin) (hB : Blk D tc A sh ad w H) (i : Nat) {fs : List (Option Value)} (hs : sh i = some (.inl (ci, fs))) {v : Value} (hv : fs[k]?.map (fun o => o.getD (.int (w i k))) = some v)
    (kk : W p l e R s m args below meth c H locs cells slots Q (F0 m (pc + 3) ls (v :: rest))) : W p l e R s m args below meth c H locs cells slots Q (F0 m pc ls (.ref (ad i) :: rest)) := by
  obtain ⟨C, T, N, tys, ref, ⟨hc, hin, hty, hnm⟩, hk, hl, hsm, -, -⟩ := F
  obtain ⟨hx, hb, -, hown, hK, -⟩ := X
  exact va_get (ci := ci) (fs := s_fs fs (w i)) hx hb (fun z hz => hK.1.use hz) hin hown hK.2.1 (hB.at1 i hs) 0 rfl hc k hk (hK.1.use hl) (fk_same hK hsm) (by rw [s_fs_get]; exact hv) hd kk
/-- a field is written -/
theorem g_putv (X : Cx p c s m meth cc nL own D tc) {index ci k : Nat} {ty : FieldType} (hd : decode cc pc = .ok (.putfield index, 3)) (F : FK own index ci k ty false) (hB : Blk D tc A sh ad w H) (hS : va_S A H0 H locs) (i : Nat) {fs : List (Option Value)} (hs : sh i = some (.inl (ci, fs))) {v : Value} (hl0 : k < fs.length) (hn : narrow ty v = v) (hfit : fits ty v = true)
    (kk : ∀ (H1 : Heap) (locs1 : List Loc), va_at D vwCl (ad i, .inr (ci, (s_fs fs (w i)).set k v)) H1 → (∀ q, q ≠ ad i → H1[q]? = H[q]?) → H1.size = H.size → va_S A H0 H1 locs1 → W p l e R s m args below meth c H1 locs1 cells slots Q (F0 m (pc + 3) ls rest)) : W p l e R s m args below meth c H locs cells slots Q (F0 m pc ls (v :: .ref (ad i) :: rest)) := by
  obtain ⟨C, T, N, tys, ref, ⟨hc, hin, hty, hnm⟩, hk, hl, hsm, ht, hfin⟩ := F
  obtain ⟨hx, hb, -, hown, hK, -⟩ := X
  have hts : ∀ z ∈ WX, z.before args s = true := fun z hz => hK.1.use hz
  have hap := va_apart (own := own) hts hin tys hty hnm hK.2.1 hc
  obtain ⟨⟨r, h1, cell, q1, q2, q3, q4⟩, hA⟩ := hB.1 i _ hs
  have hr : r = (C, T, N) := Option.some.inj (h1.symm.trans hc)
  subst hr
  obtain ⟨hSl, hfc, kC, hkC, hkind⟩ := hK.2.1.1 ci _ hc
  obtain ⟨cf, kf, fi, f, hi, hsl⟩ := hSl k hk
  have hlay := hts _ (hin _ (u_in_lay hk))
  unfold u_lay at hlay
  rw [if_neg (by rw [hfin]; decide)] at hlay
  have hst := (u_facts hfc hkC (u_lays hts hin hk) hi).1
  have h6 := u_store (v := v) hfc hkC hkind hlay hi (hty k hk) (by rw [ht]; exact hn) (by rw [ht]; exact hfit)
  refine W.putK hx hb (f := f) ⟨hown, hts _ hl, ⟨_, _, _, fk_same hK hsm _ hi⟩, hst⟩ (by rw [q2]; exact h6) q1 q3 (by rw [hsl]; exact k2_hasslot (q4 k hk)) rfl rfl hd fun H' e1 e2 e3 => ?_
  rw [hsl] at e1 ⊢
  exact kk H' _ ⟨_, hc, t_OB.to (V := updV (vp_V (s_fs fs (w i))) k v) ⟨_, e1, q2, q3, t_set q4 hap hk v⟩ (fun j _ => vp_updV_set (by rw [s_fs_len]; exact hl0) v j)⟩ e3 e2 (hS.put e2 e3 hA)
theorem g_puti (X : Cx p c s m meth cc nL own D tc) {index ci k : Nat} {ty : FieldType} (hd : decode cc pc = .ok (.putfield index, 3)) (F : FK own index ci k ty false) (hB : Blk D tc A sh ad w H) (hS : va_S A H0 H locs) (i : Nat) {fs : List (Option Value)} (hs : sh i = some (.inl (ci, fs))) {x : Int32} (hl0 : fs[k]? = some none) (hn : narrow ty (.int x) = .int x) (hfit : fits ty (.int x) = true)
    (kk : ∀ (H1 : Heap) (locs1 : List Loc), Blk D tc A sh ad (up2 w i k x) H1 → (∀ q, q ≠ ad i → H1[q]? = H[q]?) → va_S A H0 H1 locs1 → W p l e R s m args below meth c H1 locs1 cells slots Q (F0 m (pc + 3) ls rest)) : W p l e R s m args below meth c H locs cells slots Q (F0 m pc ls (.int x :: .ref (ad i) :: rest)) := by
  refine g_putv X hd F hB hS i hs (List.getElem?_eq_some_iff.mp hl0).1 hn hfit fun H1 locs1 e1 e3 e2 hS1 => ?_
  refine kk H1 locs1 (hB.put i hs hs ?_ e3 (fun _ _ => rfl) (fun j hj => up2_ne hj)) e3 hS1
  rw [up2_row]
  show va_at D vwCl (ad i, .inr (ci, s_fs fs (upd (w i) k x))) H1
  rw [← s_fs_set hl0]
  exact e1
/-- rows of ints, booleans, chars -/
theorem g_iald (X : Cx p c s m meth cc nL own D tc) (hd : decode cc pc = .ok (.iaload, 1)) (hB : Blk D tc A sh ad w H) (i : Nat) {n : Nat} (hs : sh i = some (.inr (0, n, none))) {x : Int32} (hin : vp_in x n) {k : Nat} (hk : x.toNatClampNeg = k)
    (kk : W p l e R s m args below meth c H locs cells slots Q (F0 m (pc + 1) ls (.int (w i k) :: rest))) : W p l e R s m args below meth c H locs cells slots Q (F0 m pc ls (.int x :: .ref (ad i) :: rest)) := by
  subst hk
  exact va_iald X.1 X.2.1 X.2.2.2.2.1.2.1 (hB.at1 i hs) 0 0 rfl rfl hin hd kk
theorem g_zald (X : Cx p c s m meth cc nL own D tc) (hd : decode cc pc = .ok (.baload, 1)) (hB : Blk D tc A sh ad w H) (i : Nat) {n : Nat} (hs : sh i = some (.inr (1, n, none))) {x : Int32} (hin : vp_in x n) {k : Nat} (hk : x.toNatClampNeg = k)
    (kk : W p l e R s m args below meth c H locs cells slots Q (F0 m (pc + 1) ls (.int (w i k) :: rest))) : W p l e R s m args below meth c H locs cells slots Q (F0 m pc ls (.int x :: .ref (ad i) :: rest)) := by
  subst hk
  exact va_zald X.1 X.2.1 X.2.2.2.2.1.2.1 (hB.at1 i hs) 0 1 rfl rfl hin hd kk
theorem g_cald (X : Cx p c s m meth cc nL own D tc) (hd : decode cc pc = .ok (.caload, 1)) (hB : Blk D tc A sh ad w H) (i : Nat) {n : Nat} (hs : sh i = some (.inr (2, n, none))) {x : Int32} (hin : vp_in x n) {k : Nat} (hk : x.toNatClampNeg = k)
    (kk : W p l e R s m args below meth c H locs cells slots Q (F0 m (pc + 1) ls (.int (w i k) :: rest))) : W p l e R s m args below meth c H locs cells slots Q (F0 m pc ls (.int x :: .ref (ad i) :: rest)) := by
  subst hk
  exact va_cald X.1 X.2.1 X.2.2.2.2.1.2.1 (hB.at1 i hs) 0 2 rfl rfl hin hd kk
theorem g_lald (X : Cx p c s m meth cc nL own D tc) (hd : decode cc pc = .ok (.laload, 1)) (hB : Blk D tc A sh ad w H) (i : Nat) {n : Nat} {f : Nat → Int64} (hs : sh i = some (.inr (3, n, some (.inr (.inl f))))) {x : Int32} (hin : vp_in x n) {k : Nat} (hk : x.toNatClampNeg = k)
    (kk : W p l e R s m args below meth c H locs cells slots Q (F0 m (pc + 1) ls (.long (f k) :: rest))) : W p l e R s m args below meth c H locs cells slots Q (F0 m pc ls (.int x :: .ref (ad i) :: rest)) := by
  subst hk
  exact va_lald X.1 X.2.1 X.2.2.2.2.1.2.1 (hB.at1 i hs) 0 3 rfl rfl hin hd kk
theorem g_alen (X : Cx p c s m meth cc nL own D tc) (hd : decode cc pc = .ok (.arraylength, 1)) (hB : Blk D tc A sh ad w H) (i : Nat) {t n : Nat} (hs : sh i = some (.inr (t, n, none))) {q : ClassId × FieldType} (ht : (TY tc)[t]? = some q) (hq : q.1 = tc t)
    (kk : W p l e R s m args below meth c H locs cells slots Q (F0 m (pc + 1) ls (.int (nI n) :: rest))) : W p l e R s m args below meth c H locs cells slots Q (F0 m pc ls (.ref (ad i) :: rest)) := by
  obtain ⟨q1, q2⟩ := q
  subst hq
  exact va_alen (v := nI n) X.1 X.2.1 X.2.2.2.2.1.2.1 (hB.at1 i hs) 0 t rfl ht rfl hd kk
theorem g_row {cA : ClassId} {a n k : Nat} {f : Nat → Int32} {y : Int32} {v : Value} (hv : v = .int y) {H1 : Heap} (e1 : H1[a]? = some ((vp_cell cA (n, .inl f)).setSlot k v)) : va_at D vwCl (a, .inl (cA, n, .inl (upd f k y))) H1 := by
  subst hv
  show H1[a]? = some (vp_cell _ _)
  rw [e1]
  rw [vp_cell_i, vp_cell_i, arrV_store]
  congr 2
  funext q
  by_cases hq : q = k
  · subst hq
    simp [updV, upd]
  · simp [updV, upd, hq]
theorem g_iast (X : Cx p c s m meth cc nL own D tc) (hd : decode cc pc = .ok (.iastore, 1)) (hB : Blk D tc A sh ad w H) (hS : va_S A H0 H locs) (i : Nat) {n : Nat} (hs : sh i = some (.inr (0, n, none))) {x y : Int32} (hin : vp_in x n) {k : Nat} (hk : x.toNatClampNeg = k)
    (kk : ∀ (H1 : Heap) (locs1 : List Loc), Blk D tc A sh ad (up2 w i k y) H1 → (∀ q, q ≠ ad i → H1[q]? = H[q]?) → va_S A H0 H1 locs1 → W p l e R s m args below meth c H1 locs1 cells slots Q (F0 m (pc + 1) ls rest)) : W p l e R s m args below meth c H locs cells slots Q (F0 m pc ls (.int y :: .int x :: .ref (ad i) :: rest)) := by
  subst hk
  have hA := hB.in hs
  refine W.iast X.1 X.2.1 (hB.at1 i hs 0 _ rfl) ((X.2.2.2.2.1.2.1.2 0 _ rfl).1 n (fun j => .int (w i j))) (fun q => by cases q) (by show ¬ (x < 0 ∨ (arrV _ _ _).slots.size ≤ _); rw [arrV_size]; exact hin) rfl rfl hd fun H1 e1 z oq => ?_
  refine kk H1 _ (hB.put i hs hs ?_ oq (fun _ _ => rfl) (fun j hj => up2_ne hj)) oq (hS.put z oq hA)
  rw [up2_row]
  exact g_row rfl e1
theorem g_zast (X : Cx p c s m meth cc nL own D tc) (hd : decode cc pc = .ok (.bastore, 1)) (hB : Blk D tc A sh ad w H) (hS : va_S A H0 H locs) (i : Nat) {n : Nat} (hs : sh i = some (.inr (1, n, none))) {x y : Int32} (hin : vp_in x n) {k : Nat} (hk : x.toNatClampNeg = k) (hn : narrow .boolean (.int y) = .int y)
    (kk : ∀ (H1 : Heap) (locs1 : List Loc), Blk D tc A sh ad (up2 w i k y) H1 → (∀ q, q ≠ ad i → H1[q]? = H[q]?) → va_S A H0 H1 locs1 → W p l e R s m args below meth c H1 locs1 cells slots Q (F0 m (pc + 1) ls rest)) : W p l e R s m args below meth c H locs cells slots Q (F0 m pc ls (.int y :: .int x :: .ref (ad i) :: rest)) := by
  subst hk
  have hA := hB.in hs
  refine W.zast X.1 X.2.1 (hB.at1 i hs 0 _ rfl) ((X.2.2.2.2.1.2.1.2 1 _ rfl).1 n (fun j => .int (w i j))) (fun q => by cases q) (by show ¬ (x < 0 ∨ (arrV _ _ _).slots.size ≤ _); rw [arrV_size]; exact hin) rfl rfl hd fun H1 e1 z oq => ?_
  refine kk H1 _ (hB.put i hs hs ?_ oq (fun _ _ => rfl) (fun j hj => up2_ne hj)) oq (hS.put z oq hA)
  rw [up2_row]
  exact g_row hn e1
theorem g_cast (X : Cx p c s m meth cc nL own D tc) (hd : decode cc pc = .ok (.castore, 1)) (hB : Blk D tc A sh ad w H) (hS : va_S A H0 H locs) (i : Nat) {n : Nat} (hs : sh i = some (.inr (2, n, none))) {x y : Int32} (hin : vp_in x n) {k : Nat} (hk : x.toNatClampNeg = k) (hn : narrow .char (.int y) = .int y)
    (kk : ∀ (H1 : Heap) (locs1 : List Loc), Blk D tc A sh ad (up2 w i k y) H1 → (∀ q, q ≠ ad i → H1[q]? = H[q]?) → va_S A H0 H1 locs1 → W p l e R s m args below meth c H1 locs1 cells slots Q (F0 m (pc + 1) ls rest)) : W p l e R s m args below meth c H locs cells slots Q (F0 m pc ls (.int y :: .int x :: .ref (ad i) :: rest)) := by
  subst hk
  have hA := hB.in hs
  refine W.cast X.1 X.2.1 (hB.at1 i hs 0 _ rfl) ((X.2.2.2.2.1.2.1.2 2 _ rfl).1 n (fun j => .int (w i j))) (fun q => by cases q) (by show ¬ (x < 0 ∨ (arrV _ _ _).slots.size ≤ _); rw [arrV_size]; exact hin) rfl rfl hd fun H1 e1 z oq => ?_
  refine kk H1 _ (hB.put i hs hs ?_ oq (fun _ _ => rfl) (fun j hj => up2_ne hj)) oq (hS.put z oq hA)
  rw [up2_row]
  exact g_row hn e1
/-- a row of rows: the row at x is the cell number j -/
theorem g_aaldA (X : Cx p c s m meth cc nL own D tc) (hd : decode cc pc = .ok (.aaload, 1)) (hB : Blk D tc A sh ad w H) (i : Nat) {n : Nat} {f : Nat → Option Nat} (hs : sh i = some (.inr (5, n, some (.inr (.inr (.inr (.inr f))))))) {x : Int32} (hin : vp_in x n) {v : Value} (hv : va_rf (f x.toNatClampNeg) = v)
    (kk : W p l e R s m args below meth c H locs cells slots Q (F0 m (pc + 1) ls (v :: rest))) : W p l e R s m args below meth c H locs cells slots Q (F0 m pc ls (.int x :: .ref (ad i) :: rest)) := by
  subst hv
  have hlt : x.toNatClampNeg < n := Nat.not_le.mp fun q => hin (Or.inr q)
  exact W.aald (v := va_rf (f x.toNatClampNeg)) (ty := .array .int) X.1 X.2.1 (hB.at1 i hs 0 _ rfl) ((X.2.2.2.2.1.2.1.2 5 _ rfl).1 n (fun j => va_rf (f j))) rfl (fun q => by cases q) (by show ¬ (x < 0 ∨ (arrV _ _ _).slots.size ≤ _); rw [arrV_size]; exact hin) (by show (arrV _ _ _).slots[_]? = _; rw [arrV_read _ _ hlt]) rfl rfl hd kk
theorem g_aaldQ (X : Cx p c s m meth cc nL own D tc) (hd : decode cc pc = .ok (.aaload, 1)) (hB : Blk D tc A sh ad w H) (i : Nat) {t n : Nat} {C : String} {f : Nat → Option Nat} (hs : sh i = some (.inr (t, n, some (.inr (.inr (.inr (.inr f))))))) (ht : (TY tc)[t]? = some (tc t, .object C)) {x : Int32} (hin : vp_in x n) {v : Value} (hv : va_rf (f x.toNatClampNeg) = v)
    (kk : W p l e R s m args below meth c H locs cells slots Q (F0 m (pc + 1) ls (v :: rest))) : W p l e R s m args below meth c H locs cells slots Q (F0 m pc ls (.int x :: .ref (ad i) :: rest)) := by
  subst hv
  exact va_aldq X.1 X.2.1 X.2.2.2.2.1.2.1 (hB.at1 i hs) 0 t rfl ht hin hd kk
/-- static rows of ints -/
theorem g_gets (X : Cx p c s m meth cc nL own D tc) {index : Nat} {C n d : String} {v : Value} {h0 : Nat} (hd : decode cc pc = .ok (.getstatic index, 3)) (hl : Cond.fieldLink own index C n d ∈ WX) (hZ : va_Z C n d v (old h0) s s.heap) (hS : va_S A s.heap H locs) (hA0 : ∀ q, A q → h0 ≤ q)
    (kk : W p l e R s m args below meth c H locs cells slots Q (F0 m (pc + 3) ls (v :: rest))) : W p l e R s m args below meth c H locs cells slots Q (F0 m pc ls rest) :=
  va_gets X.1 X.2.1 (hZ.narrow hA0) hS X.2.2.2.1 (X.2.2.2.2.1.1.use hl) (fun _ h => h) hd kk
theorem g_sald (X : Cx p c s m meth cc nL own D tc) {t N h0 : Nat} {f : Nat → Int32} (hd : decode cc pc = .ok (.iaload, 1)) (hT : va_T .int t N (fun k => .int (f k)) (old h0) s s.heap) (hS : va_S A s.heap H locs) (hA0 : ∀ q, A q → h0 ≤ q) {x : Int32} (hin : vp_in x N) {k : Nat} (hk : x.toNatClampNeg = k)
    (kk : W p l e R s m args below meth c H locs cells slots Q (F0 m (pc + 1) ls (.int (f k) :: rest))) : W p l e R s m args below meth c H locs cells slots Q (F0 m pc ls (.int x :: .ref t :: rest)) := by
  subst hk
  exact va_ti X.1 X.2.1 (hT.narrow hA0) hS hin rfl hd kk
theorem g_slen (X : Cx p c s m meth cc nL own D tc) {t N h0 : Nat} {f : Nat → Value} {ty : FieldType} (hd : decode cc pc = .ok (.arraylength, 1)) (hT : va_T ty t N f (old h0) s s.heap) (hS : va_S A s.heap H locs) (hA0 : ∀ q, A q → h0 ≤ q)
    (kk : W p l e R s m args below meth c H locs cells slots Q (F0 m (pc + 1) ls (.int (nI N) :: rest))) : W p l e R s m args below meth c H locs cells slots Q (F0 m pc ls (.ref t :: rest)) :=
  va_tlen X.1 X.2.1 (hT.narrow hA0) hS rfl hd kk
/-- Math.max, min, abs -/
theorem g_max (X : Cx p c s m meth cc nL own D tc) (hsz : ls.size = nL) {index : Nat} (hd : decode cc pc = .ok (.invokestatic index, 3)) (hl : Cond.methodLink own index Lib.Math.max.name ∈ WX) (hs : Cond.static Lib.Math.max.name ∈ WX) (hi : Cond.initialized "java/lang/Math" ∈ WX) (hc : Cond.code Lib.Math.max.name Lib.Math.max.code 2 (some .int) ∈ WX)
    (hR : 1 ≤ R.frames ∧ (rest.map fun v => v.category).sum + 13 ≤ R.locals ∧ cells ≤ R.cells ∧ slots ≤ R.slots) {x y : Int32}
    (kk : W p l e R s m args below meth c H locs cells slots Q (F0 m (pc + 3) ls (.int (if x < y then y else x) :: rest))) : W p l e R s m args below meth c H locs cells slots Q (F0 m pc ls (.int y :: .int x :: rest)) := by
  have hU := X.2.2.2.2.1.1
  exact va_mmax X.1 X.2.1 (X.2.2.1.trans hsz.symm) X.2.2.2.1 (hU.use hl) (hU.use hs) (hU.use hi) (hU.use hc) hR.1 hR.2.1 hR.2.2.1 hR.2.2.2 hd kk
theorem g_min (X : Cx p c s m meth cc nL own D tc) (hsz : ls.size = nL) {index : Nat} (hd : decode cc pc = .ok (.invokestatic index, 3)) (hl : Cond.methodLink own index Lib.Math.min.name ∈ WX) (hs : Cond.static Lib.Math.min.name ∈ WX) (hi : Cond.initialized "java/lang/Math" ∈ WX) (hc : Cond.code Lib.Math.min.name Lib.Math.min.code 2 (some .int) ∈ WX)
    (hR : 1 ≤ R.frames ∧ (rest.map fun v => v.category).sum + 13 ≤ R.locals ∧ cells ≤ R.cells ∧ slots ≤ R.slots) {x y : Int32}
    (kk : W p l e R s m args below meth c H locs cells slots Q (F0 m (pc + 3) ls (.int (if y < x then y else x) :: rest))) : W p l e R s m args below meth c H locs cells slots Q (F0 m pc ls (.int y :: .int x :: rest)) := by
  have hU := X.2.2.2.2.1.1
  exact va_mmin X.1 X.2.1 (X.2.2.1.trans hsz.symm) X.2.2.2.1 (hU.use hl) (hU.use hs) (hU.use hi) (hU.use hc) hR.1 hR.2.1 hR.2.2.1 hR.2.2.2 hd kk
theorem g_abs (X : Cx p c s m meth cc nL own D tc) (hsz : ls.size = nL) {index : Nat} (hd : decode cc pc = .ok (.invokestatic index, 3)) (hl : Cond.methodLink own index Lib.Math.abs.name ∈ WX) (hs : Cond.static Lib.Math.abs.name ∈ WX) (hi : Cond.initialized "java/lang/Math" ∈ WX) (hc : Cond.code Lib.Math.abs.name Lib.Math.abs.code 1 (some .int) ∈ WX)
    (hR : 1 ≤ R.frames ∧ (rest.map fun v => v.category).sum + 13 ≤ R.locals ∧ cells ≤ R.cells ∧ slots ≤ R.slots) {x : Int32}
    (kk : W p l e R s m args below meth c H locs cells slots Q (F0 m (pc + 3) ls (.int (if 0 ≤ x then x else 0 - x) :: rest))) : W p l e R s m args below meth c H locs cells slots Q (F0 m pc ls (.int x :: rest)) := by
  have hU := X.2.2.2.2.1.1
  exact va_mabs X.1 X.2.1 (X.2.2.1.trans hsz.symm) X.2.2.2.1 (hU.use hl) (hU.use hs) (hU.use hi) (hU.use hc) hR.1 hR.2.1 hR.2.2.1 hR.2.2.2 hd kk
end GROWS
