/-! THE CALLS OF THE LAW, BY KIND -/
theorem bud0 {c a N R : Nat} (h : c + N ≤ R) (ha : Nat.ble a N = true) : c + a ≤ R := Nat.le_trans (Nat.add_le_add_left (Nat.le_of_ble_eq_true ha) _) h
theorem bud1 {c k a N R : Nat} (h : c + N ≤ R) (ha : Nat.ble (k + a) N = true) : c + k + a ≤ R := by
  have := Nat.le_of_ble_eq_true ha
  omega
theorem lgc_eq {x y : Int64} (h : x = y) : lg_cmp x y = 0 := Classical.byContradiction fun z => lg_ne0 z h
section LAWGEN
variable {p : Program} {l : Launch} {e : Env} {R : Room} {s : State} {m : MethodId} {args : Array Value} {below : List Frame} {meth : Method} {c : Code} {H : Heap} {locs : List Loc} {cells slots : Nat} {Q : State → Prop}
variable {cc : ByteArray} {nL : Nat} {own : String} {D : va_G} {tc : Nat → ClassId} {pc : Nat} {ls : Array Slot} {rest : List Value}
variable {S : Type} {post : S → Prop} {xpost : Nat → Prop} {num : Nat → Int32} {ri : S → Int64} {wf : S → Dt} {rm : Room} {y : MethodName} {code : ByteArray} {kL na index : Nat} {ret : Option FieldType} {hh : List (Nat × Nat × Nat × Nat)} {As st0 : List Value} {sa : Nat → Nat} {rv : S → Option Value}
variable {O : Nat → Nat} {q ob od : Nat} {f : Nat → Int64} {g : Nat → UInt64} {ad ar : Nat → Nat} {sp : Option Nat} {sd pd fd : Nat → Nat → Nat} {sums : Nat → Int64} {r w : Dt} {ns : Nat} {sw : Nat → Dt} {np : Nat} {pw : Nat → Dt} {nf : Nat} {fw : Nat → Dt} {spw : Dt} {t n : Nat → Nat} {rr : Nat → Nat → Nat} {ww : Dt}
theorem lc_ro (X : Cx p c s m meth cc nL own D tc) (hN : NC s) (M : MW own index y code kL hh na) (hT : ST s.heap.size sa s s.heap) (hS : va_S (old s.heap.size) s.heap H locs) (hI : (LI D tc s.heap.size (sa 3) O q ob od f g ad ar sp sd pd fd sums r w ns sw np pw nf fw spw t n rr ww H))  (hM : ML l y code kL hh rm (fun x : Nat => False ∨ x = ob) As D tc s.heap.size sa H (LPo post xpost) (LQo D tc ob f ri (fun _ H1 => H1 = H) H) (LRo num)) (hd : decode cc pc = .ok (.invokestatic index, 3)) (hsz : ls.size = nL) (hn : As.length = na) (hst : st0 = As.reverse ++ rest) (hR : rm.frames + 1 ≤ R.frames ∧ 8 + (kL + 11) + rm.locals ≤ R.locals) (hW : (rest.map fun v => v.category).sum ≤ 8) (hf : cells + rm.cells ≤ R.cells ∧ slots + rm.slots ≤ R.slots)
    (kk : ∀ (H1 : Heap) (locs1 : List Loc) (O1 : Nat → Nat) (f1 : Nat → Int64) (k1 : Int32) , va_S (old s.heap.size) s.heap H1 locs1 → (LI D tc s.heap.size (sa 3) O1 q ob od f1 g ad ar sp sd pd fd sums r w ns sw np pw nf fw spw t n rr ww H1) → ((∃ u, post u ∧ k1 = 0 ∧ f1 0 = ri u) ∨ ∃ k, xpost k ∧ k1 = num k) → W p l e R s m args below meth c H1 locs1 (cells + rm.cells) (slots + rm.slots) Q (F0 m (pc + 3) ls (.int k1 :: rest))) : W p l e R s m args below meth c H locs cells slots Q (F0 m pc ls st0) := by
  refine g_after (A := old s.heap.size) (g_L X hN M hM hT hS (fun _ h => h) hd hsz hn hst hR hW hf) hS (fun x h => h.elim False.elim (fun e => e ▸ hI.2.2.1.2.2.1)) (fun u => (LRo num u).toList ++ rest) (fun _ => rfl) (fun u H1 locs1 hp hP hz hk hS9 => ?_)
  cases u with
  | inl v =>
    obtain ⟨hat, H9, hB, hz9, oq⟩ := hP
    subst hB
    exact kk H1 locs1 _ _ 0 hS9 (hI.oL hz9 hat oq) (Or.inl ⟨v, hp, rfl, va_up_self _ _ _⟩)
  | inr k =>
    obtain ⟨hat, hq⟩ := hP
    exact kk H1 locs1 _ f (num k)  hS9 (hI.keep hz 0 hq) (Or.inr ⟨k, hp, rfl⟩)
theorem lc_w (X : Cx p c s m meth cc nL own D tc) (hN : NC s) (M : MW own index y code kL hh na) (hT : ST s.heap.size sa s s.heap) (hS : va_S (old s.heap.size) s.heap H locs) (hI : (LI D tc s.heap.size (sa 3) O q ob od f g ad ar sp sd pd fd sums r w ns sw np pw nf fw spw t n rr ww H))  (hM : ML l y code kL hh rm (fun x : Nat => Rg s.heap.size O H.size 2 x ∨ x = ob) As D tc s.heap.size sa H (LPo post xpost) (LQo D tc ob f ri (fun u H1 => Blk D tc (Rg s.heap.size O H.size 2) (shW ad) ad (wf u) H1) H) (LRo num)) (hd : decode cc pc = .ok (.invokestatic index, 3)) (hsz : ls.size = nL) (hn : As.length = na) (hst : st0 = As.reverse ++ rest) (hR : rm.frames + 1 ≤ R.frames ∧ 8 + (kL + 11) + rm.locals ≤ R.locals) (hW : (rest.map fun v => v.category).sum ≤ 8) (hf : cells + rm.cells ≤ R.cells ∧ slots + rm.slots ≤ R.slots)
    (kk : ∀ (H1 : Heap) (locs1 : List Loc) (O1 : Nat → Nat) (f1 : Nat → Int64) (k1 : Int32) (w1 : Dt), va_S (old s.heap.size) s.heap H1 locs1 → (LI D tc s.heap.size (sa 3) O1 q ob od f1 g ad ar sp sd pd fd sums r w1 ns sw np pw nf fw spw t n rr ww H1) → ((∃ u, post u ∧ k1 = 0 ∧ f1 0 = ri u ∧ w1 = wf u) ∨ ∃ k, xpost k ∧ k1 = num k ∧ w1 = w) → W p l e R s m args below meth c H1 locs1 (cells + rm.cells) (slots + rm.slots) Q (F0 m (pc + 3) ls (.int k1 :: rest))) : W p l e R s m args below meth c H locs cells slots Q (F0 m pc ls st0) := by
  refine g_after (A := old s.heap.size) (g_L X hN M hM hT hS (fun _ h => h) hd hsz hn hst hR hW hf) hS (fun x h => h.elim (fun e => e.2.1) (fun e => e ▸ hI.2.2.1.2.2.1)) (fun u => (LRo num u).toList ++ rest) (fun _ => rfl) (fun u H1 locs1 hp hP hz hk hS9 => ?_)
  cases u with
  | inl v =>
    obtain ⟨hat, H9, hB, hz9, oq⟩ := hP
    have hB1 := hB.kept (H1 := H1) (fun x _ hx => oq x (fun e => (by subst e; exact hx.ne hI.2.2.1.2 (by decide))))
    exact kk H1 locs1 _ _ 0 _ hS9 (hI.wld hz hat hk hB1) (Or.inl ⟨v, hp, rfl, va_up_self _ _ _, rfl⟩)
  | inr k =>
    obtain ⟨hat, hq⟩ := hP
    exact kk H1 locs1 _ f (num k) w hS9 (hI.keep hz 0 hq) (Or.inr ⟨k, hp, rfl, rfl⟩)
theorem lc_p (X : Cx p c s m meth cc nL own D tc) (hN : NC s) (M : MW own index y code kL hh na) (hT : ST s.heap.size sa s s.heap) (hS : va_S (old s.heap.size) s.heap H locs) (hI : (LI D tc s.heap.size (sa 3) O q ob od f g ad ar sp sd pd fd sums r w ns sw np pw nf fw spw t n rr ww H)) (k0 : Nat) (hM : ML l y code kL hh rm (fun x : Nat => Rg s.heap.size O H.size (11 + 3 * k0) x ∨ x = ob) As D tc s.heap.size sa H (LPo post xpost) (LQo D tc ob f ri (fun u H1 => Blk D tc (Rg s.heap.size O H.size (11 + 3 * k0)) (shPr (pd k0)) (pd k0) (wf u) H1) H) (LRo num)) (hd : decode cc pc = .ok (.invokestatic index, 3)) (hsz : ls.size = nL) (hn : As.length = na) (hst : st0 = As.reverse ++ rest) (hR : rm.frames + 1 ≤ R.frames ∧ 8 + (kL + 11) + rm.locals ≤ R.locals) (hW : (rest.map fun v => v.category).sum ≤ 8) (hf : cells + rm.cells ≤ R.cells ∧ slots + rm.slots ≤ R.slots)
    (kk : ∀ (H1 : Heap) (locs1 : List Loc) (O1 : Nat → Nat) (f1 : Nat → Int64) (k1 : Int32) (pw1 : Nat → Dt), va_S (old s.heap.size) s.heap H1 locs1 → (LI D tc s.heap.size (sa 3) O1 q ob od f1 g ad ar sp sd pd fd sums r w ns sw np pw1 nf fw spw t n rr ww H1) → ((∃ u, post u ∧ k1 = 0 ∧ f1 0 = ri u ∧ pw1 = va_up pw k0 (wf u)) ∨ ∃ k, xpost k ∧ k1 = num k ∧ pw1 = pw) → W p l e R s m args below meth c H1 locs1 (cells + rm.cells) (slots + rm.slots) Q (F0 m (pc + 3) ls (.int k1 :: rest))) : W p l e R s m args below meth c H locs cells slots Q (F0 m pc ls st0) := by
  refine g_after (A := old s.heap.size) (g_L X hN M hM hT hS (fun _ h => h) hd hsz hn hst hR hW hf) hS (fun x h => h.elim (fun e => e.2.1) (fun e => e ▸ hI.2.2.1.2.2.1)) (fun u => (LRo num u).toList ++ rest) (fun _ => rfl) (fun u H1 locs1 hp hP hz hk hS9 => ?_)
  cases u with
  | inl v =>
    obtain ⟨hat, H9, hB, hz9, oq⟩ := hP
    have hB1 := hB.kept (H1 := H1) (fun x _ hx => oq x (fun e => (by subst e; exact hx.ne hI.2.2.1.2 (by omega))))
    exact kk H1 locs1 _ _ 0 _ hS9 (hI.prb hz hat hk hB1) (Or.inl ⟨v, hp, rfl, va_up_self _ _ _, rfl⟩)
  | inr k =>
    obtain ⟨hat, hq⟩ := hP
    exact kk H1 locs1 _ f (num k) pw hS9 (hI.keep hz 0 hq) (Or.inr ⟨k, hp, rfl, rfl⟩)
theorem lc_dp {post : (Nat → Nat) → Prop} {r9 : Dt} {ri9 : Int64} {d9 : Dt} (X : Cx p c s m meth cc nL own D tc) (hN : NC s) (M : MW own index y code kL hh na) (hT : ST s.heap.size sa s s.heap) (hS : va_S (old s.heap.size) s.heap H locs) (hI : (LI D tc s.heap.size (sa 3) O q ob od f g ad ar sp sd pd fd sums r w ns sw np pw nf fw spw t n rr ww H)) (hM : ML l y code kL hh rm (fun x : Nat => (Rg s.heap.size O H.size 1 x ∨ H.size ≤ x) ∨ x = ob) As D tc s.heap.size sa H (LPo post xpost) (LQo D tc ob f (fun _ => ri9) (fun u H1 => Blk D tc (Rg s.heap.size O H.size 1) (shR (ad 0) sp ns (np + 1) nf sd (va_up pd np u) fd sums ar) ar r9 H1 ∧ Blk D tc (fun x => H.size ≤ x) (shPr u) u d9 H1) H) (LRo num)) (hd : decode cc pc = .ok (.invokestatic index, 3)) (hsz : ls.size = nL) (hn : As.length = na) (hst : st0 = As.reverse ++ rest) (hR : rm.frames + 1 ≤ R.frames ∧ 8 + (kL + 11) + rm.locals ≤ R.locals) (hW : (rest.map fun v => v.category).sum ≤ 8) (hf : cells + rm.cells ≤ R.cells ∧ slots + rm.slots ≤ R.slots)
    (kk : ∀ (H1 : Heap) (locs1 : List Loc) (O1 : Nat → Nat) (f1 : Nat → Int64) (k1 : Int32) (r1 : Dt) (c1 : Nat) (a1 : Nat → Nat → Nat) (d1 : Nat → Dt), va_S (old s.heap.size) s.heap H1 locs1 → (LI D tc s.heap.size (sa 3) O1 q ob od f1 g ad ar sp sd a1 fd sums r1 w ns sw c1 d1 nf fw spw t n rr ww H1) → ((∃ u, post u ∧ k1 = 0 ∧ f1 0 = ri9 ∧ r1 = r9 ∧ c1 = np + 1 ∧ d1 = va_up pw np d9) ∨ ∃ k, xpost k ∧ k1 = num k ∧ r1 = r ∧ c1 = np ∧ d1 = pw) → W p l e R s m args below meth c H1 locs1 (cells + rm.cells) (slots + rm.slots) Q (F0 m (pc + 3) ls (.int k1 :: rest))) : W p l e R s m args below meth c H locs cells slots Q (F0 m pc ls st0) := by
  refine g_after (A := old s.heap.size) (g_L X hN M hM hT hS (fun _ h => h) hd hsz hn hst hR hW hf) hS (fun x h => h.elim (fun e => e.elim (fun e => e.2.1) (fun e => Nat.le_trans hI.2.2.2.2 e)) (fun e => e ▸ hI.2.2.1.2.2.1)) (fun u => (LRo num u).toList ++ rest) (fun _ => rfl) (fun u H1 locs1 hp hP hz hk hS9 => ?_)
  cases u with
  | inl v =>
    obtain ⟨hat, H9, hB, hz9, oq⟩ := hP
    have hob : ∀ x, x < H.size ∨ H.size ≤ x → x ≠ ob → H1[x]? = H9[x]? := fun x _ h => oq x h
    have hobn : ¬ H.size ≤ ob := fun h => by have := hI.2.2.1.2.2.2; omega
    have hB1 := hB.1.kept (H1 := H1) (fun x _ hx => oq x (fun e => (by subst e; exact hx.ne hI.2.2.1.2 (by decide))))
    have hB2 := hB.2.kept (H1 := H1) (fun x _ hx => oq x (fun e => hobn (e ▸ hx)))
    exact kk H1 locs1 _ _ 0 r9 (np + 1) _ (va_up pw np d9) hS9 (hI.root (j := (11 + 3 * np)) (sw1 := sw) (pw1 := (va_up pw np d9)) (fw1 := fw) hz hat hk hB1 (fun k hk => Or.inl ⟨hk, rfl, rfl⟩) (fun k hk => by
      by_cases e : k = np
      · subst e
        exact Or.inr ⟨rfl, by rw [va_up_self, va_up_self]; exact hB2⟩
      · exact Or.inl ⟨by omega, va_up_ne _ _ e, va_up_ne _ _ e⟩) (fun k hk => Or.inl ⟨hk, rfl, rfl⟩)) (Or.inl ⟨v, hp, rfl, va_up_self _ _ _, rfl, rfl, rfl⟩)
  | inr k =>
    obtain ⟨hat, hq⟩ := hP
    exact kk H1 locs1 _ f (num k) r np _ pw hS9 (hI.keep hz 0 hq) (Or.inr ⟨k, hp, rfl, rfl, rfl, rfl⟩)
theorem lc_fr {post : ((Nat → Nat) × Dt) → Prop} {r9 : Dt} {ri9 : Int64} (X : Cx p c s m meth cc nL own D tc) (hN : NC s) (M : MW own index y code kL hh na) (hT : ST s.heap.size sa s s.heap) (hS : va_S (old s.heap.size) s.heap H locs) (hI : (LI D tc s.heap.size (sa 3) O q ob od f g ad ar sp sd pd fd sums r w ns sw np pw nf fw spw t n rr ww H)) (hM : ML l y code kL hh rm (fun x : Nat => (Rg s.heap.size O H.size 1 x ∨ H.size ≤ x) ∨ x = ob) As D tc s.heap.size sa H (LPo post xpost) (LQo D tc ob f (fun _ => ri9) (fun u H1 => Blk D tc (Rg s.heap.size O H.size 1) (shR (ad 0) sp ns np (nf + 1) sd pd (va_up fd nf u.1) sums ar) ar r9 H1 ∧ Blk D tc (fun x => H.size ≤ x) (shFr u.1) u.1 u.2 H1) H) (LRo num)) (hd : decode cc pc = .ok (.invokestatic index, 3)) (hsz : ls.size = nL) (hn : As.length = na) (hst : st0 = As.reverse ++ rest) (hR : rm.frames + 1 ≤ R.frames ∧ 8 + (kL + 11) + rm.locals ≤ R.locals) (hW : (rest.map fun v => v.category).sum ≤ 8) (hf : cells + rm.cells ≤ R.cells ∧ slots + rm.slots ≤ R.slots)
    (kk : ∀ (H1 : Heap) (locs1 : List Loc) (O1 : Nat → Nat) (f1 : Nat → Int64) (k1 : Int32) (r1 : Dt) (c1 : Nat) (a1 : Nat → Nat → Nat) (d1 : Nat → Dt), va_S (old s.heap.size) s.heap H1 locs1 → (LI D tc s.heap.size (sa 3) O1 q ob od f1 g ad ar sp sd pd a1 sums r1 w ns sw np pw c1 d1 spw t n rr ww H1) → ((∃ u, post u ∧ k1 = 0 ∧ f1 0 = ri9 ∧ r1 = r9 ∧ c1 = nf + 1 ∧ d1 = va_up fw nf u.2) ∨ ∃ k, xpost k ∧ k1 = num k ∧ r1 = r ∧ c1 = nf ∧ d1 = fw) → W p l e R s m args below meth c H1 locs1 (cells + rm.cells) (slots + rm.slots) Q (F0 m (pc + 3) ls (.int k1 :: rest))) : W p l e R s m args below meth c H locs cells slots Q (F0 m pc ls st0) := by
  refine g_after (A := old s.heap.size) (g_L X hN M hM hT hS (fun _ h => h) hd hsz hn hst hR hW hf) hS (fun x h => h.elim (fun e => e.elim (fun e => e.2.1) (fun e => Nat.le_trans hI.2.2.2.2 e)) (fun e => e ▸ hI.2.2.1.2.2.1)) (fun u => (LRo num u).toList ++ rest) (fun _ => rfl) (fun u H1 locs1 hp hP hz hk hS9 => ?_)
  cases u with
  | inl v =>
    obtain ⟨hat, H9, hB, hz9, oq⟩ := hP
    have hob : ∀ x, x < H.size ∨ H.size ≤ x → x ≠ ob → H1[x]? = H9[x]? := fun x _ h => oq x h
    have hobn : ¬ H.size ≤ ob := fun h => by have := hI.2.2.1.2.2.2; omega
    have hB1 := hB.1.kept (H1 := H1) (fun x _ hx => oq x (fun e => (by subst e; exact hx.ne hI.2.2.1.2 (by decide))))
    have hB2 := hB.2.kept (H1 := H1) (fun x _ hx => oq x (fun e => hobn (e ▸ hx)))
    exact kk H1 locs1 _ _ 0 r9 (nf + 1) _ (va_up fw nf v.2) hS9 (hI.root (j := (12 + 3 * nf)) (sw1 := sw) (pw1 := pw) (fw1 := (va_up fw nf v.2)) hz hat hk hB1 (fun k hk => Or.inl ⟨hk, rfl, rfl⟩) (fun k hk => Or.inl ⟨hk, rfl, rfl⟩) (fun k hk => by
      by_cases e : k = nf
      · subst e
        exact Or.inr ⟨rfl, by rw [va_up_self, va_up_self]; exact hB2⟩
      · exact Or.inl ⟨by omega, va_up_ne _ _ e, va_up_ne _ _ e⟩)) (Or.inl ⟨v, hp, rfl, va_up_self _ _ _, rfl, rfl, rfl⟩)
  | inr k =>
    obtain ⟨hat, hq⟩ := hP
    exact kk H1 locs1 _ f (num k) r nf _ fw hS9 (hI.keep hz 0 hq) (Or.inr ⟨k, hp, rfl, rfl, rfl, rfl⟩)
theorem lc_sv {post : ((Nat → Nat) × Dt × Int64) → Prop} {r9 : Dt} {ri9 : Int64} (X : Cx p c s m meth cc nL own D tc) (hN : NC s) (M : MW own index y code kL hh na) (hT : ST s.heap.size sa s s.heap) (hS : va_S (old s.heap.size) s.heap H locs) (hI : (LI D tc s.heap.size (sa 3) O q ob od f g ad ar sp sd pd fd sums r w ns sw np pw nf fw spw t n rr ww H)) (hM : ML l y code kL hh rm (fun x : Nat => (Rg s.heap.size O H.size 1 x ∨ H.size ≤ x) ∨ x = ob) As D tc s.heap.size sa H (LPo post xpost) (LQo D tc ob f (fun _ => ri9) (fun u H1 => Blk D tc (Rg s.heap.size O H.size 1) (shR (ad 0) sp (ns + 1) np nf (va_up sd ns u.1) pd fd (va_up sums ns u.2.2) ar) ar r9 H1 ∧ Blk D tc (fun x => H.size ≤ x) (shW u.1) u.1 u.2.1 H1) H) (LRo num)) (hd : decode cc pc = .ok (.invokestatic index, 3)) (hsz : ls.size = nL) (hn : As.length = na) (hst : st0 = As.reverse ++ rest) (hR : rm.frames + 1 ≤ R.frames ∧ 8 + (kL + 11) + rm.locals ≤ R.locals) (hW : (rest.map fun v => v.category).sum ≤ 8) (hf : cells + rm.cells ≤ R.cells ∧ slots + rm.slots ≤ R.slots)
    (kk : ∀ (H1 : Heap) (locs1 : List Loc) (O1 : Nat → Nat) (f1 : Nat → Int64) (k1 : Int32) (r1 : Dt) (c1 : Nat) (a1 : Nat → Nat → Nat) (d1 : Nat → Dt) (m1 : Nat → Int64), va_S (old s.heap.size) s.heap H1 locs1 → (LI D tc s.heap.size (sa 3) O1 q ob od f1 g ad ar sp a1 pd fd m1 r1 w c1 d1 np pw nf fw spw t n rr ww H1) → ((∃ u, post u ∧ k1 = 0 ∧ f1 0 = ri9 ∧ r1 = r9 ∧ c1 = ns + 1 ∧ d1 = va_up sw ns u.2.1 ∧ m1 = va_up sums ns u.2.2) ∨ ∃ k, xpost k ∧ k1 = num k ∧ r1 = r ∧ c1 = ns ∧ d1 = sw ∧ m1 = sums) → W p l e R s m args below meth c H1 locs1 (cells + rm.cells) (slots + rm.slots) Q (F0 m (pc + 3) ls (.int k1 :: rest))) : W p l e R s m args below meth c H locs cells slots Q (F0 m pc ls st0) := by
  refine g_after (A := old s.heap.size) (g_L X hN M hM hT hS (fun _ h => h) hd hsz hn hst hR hW hf) hS (fun x h => h.elim (fun e => e.elim (fun e => e.2.1) (fun e => Nat.le_trans hI.2.2.2.2 e)) (fun e => e ▸ hI.2.2.1.2.2.1)) (fun u => (LRo num u).toList ++ rest) (fun _ => rfl) (fun u H1 locs1 hp hP hz hk hS9 => ?_)
  cases u with
  | inl v =>
    obtain ⟨hat, H9, hB, hz9, oq⟩ := hP
    have hob : ∀ x, x < H.size ∨ H.size ≤ x → x ≠ ob → H1[x]? = H9[x]? := fun x _ h => oq x h
    have hobn : ¬ H.size ≤ ob := fun h => by have := hI.2.2.1.2.2.2; omega
    have hB1 := hB.1.kept (H1 := H1) (fun x _ hx => oq x (fun e => (by subst e; exact hx.ne hI.2.2.1.2 (by decide))))
    have hB2 := hB.2.kept (H1 := H1) (fun x _ hx => oq x (fun e => hobn (e ▸ hx)))
    exact kk H1 locs1 _ _ 0 r9 (ns + 1) _ (va_up sw ns v.2.1) (va_up sums ns v.2.2) hS9 (hI.root (j := (10 + 3 * ns)) (sw1 := (va_up sw ns v.2.1)) (pw1 := pw) (fw1 := fw) hz hat hk hB1 (fun k hk => by
      by_cases e : k = ns
      · subst e
        exact Or.inr ⟨rfl, by rw [va_up_self, va_up_self]; exact hB2⟩
      · exact Or.inl ⟨by omega, va_up_ne _ _ e, va_up_ne _ _ e⟩) (fun k hk => Or.inl ⟨hk, rfl, rfl⟩) (fun k hk => Or.inl ⟨hk, rfl, rfl⟩)) (Or.inl ⟨v, hp, rfl, va_up_self _ _ _, rfl, rfl, rfl, rfl⟩)
  | inr k =>
    obtain ⟨hat, hq⟩ := hP
    exact kk H1 locs1 _ f (num k) r ns _ sw sums hS9 (hI.keep hz 0 hq) (Or.inr ⟨k, hp, rfl, rfl, rfl, rfl, rfl⟩)
theorem lc_rod {rid : S → UInt64} (X : Cx p c s m meth cc nL own D tc) (hN : NC s) (M : MW own index y code kL hh na) (hT : ST s.heap.size sa s s.heap) (hS : va_S (old s.heap.size) s.heap H locs) (hI : (LI D tc s.heap.size (sa 3) O q ob od f g ad ar sp sd pd fd sums r w ns sw np pw nf fw spw t n rr ww H)) (hM : ML l y code kL hh rm (fun x : Nat => False ∨ x = od) As D tc s.heap.size sa H (LPo post xpost) (LQdo D tc od g rid (fun _ H1 => H1 = H) H) (LRo num)) (hd : decode cc pc = .ok (.invokestatic index, 3)) (hsz : ls.size = nL) (hn : As.length = na) (hst : st0 = As.reverse ++ rest) (hR : rm.frames + 1 ≤ R.frames ∧ 8 + (kL + 11) + rm.locals ≤ R.locals) (hW : (rest.map fun v => v.category).sum ≤ 8) (hf : cells + rm.cells ≤ R.cells ∧ slots + rm.slots ≤ R.slots)
    (kk : ∀ (H1 : Heap) (locs1 : List Loc) (O1 : Nat → Nat) (g1 : Nat → UInt64) (k1 : Int32), va_S (old s.heap.size) s.heap H1 locs1 → (LI D tc s.heap.size (sa 3) O1 q ob od f g1 ad ar sp sd pd fd sums r w ns sw np pw nf fw spw t n rr ww H1) → ((∃ u, post u ∧ k1 = 0 ∧ g1 0 = rid u) ∨ ∃ k, xpost k ∧ k1 = num k) → W p l e R s m args below meth c H1 locs1 (cells + rm.cells) (slots + rm.slots) Q (F0 m (pc + 3) ls (.int k1 :: rest))) : W p l e R s m args below meth c H locs cells slots Q (F0 m pc ls st0) := by
  refine g_after (A := old s.heap.size) (g_L X hN M hM hT hS (fun _ h => h) hd hsz hn hst hR hW hf) hS (fun x h => h.elim False.elim (fun e => e ▸ hI.2.2.2.1.2.2.1)) (fun u => (LRo num u).toList ++ rest) (fun _ => rfl) (fun u H1 locs1 hp hP hz hk hS9 => ?_)
  cases u with
  | inl v =>
    obtain ⟨hat, H9, hB, hz9, oq⟩ := hP
    subst hB
    exact kk H1 locs1 _ _ 0 hS9 (hI.oD hz9 hat oq) (Or.inl ⟨v, hp, rfl, va_up_self _ _ _⟩)
  | inr k =>
    obtain ⟨hat, hq⟩ := hP
    exact kk H1 locs1 _ g (num k) hS9 (hI.keep hz 0 hq) (Or.inr ⟨k, hp, rfl⟩)
theorem lm_r {b : Nat} (X : Cx p c s m meth cc nL own D tc) (M : MV own index y code kL ret na) (hT : ST s.heap.size sa s s.heap) (hS : va_S (old s.heap.size) s.heap H locs) (hI : (LI D tc s.heap.size (sa 3) O q ob od f g ad ar sp sd pd fd sums r w ns sw np pw nf fw spw t n rr ww H)) (hM : MB l y code kL ret rm (fun _ : Nat => False) (.ref b :: As) D tc s.heap.size sa H post (fun _ H1 => H1 = H) rv) (hrc : ∃ cell : Cell, H[b]? = some cell ∧ cell.vm.isStatics = false ∧ s.vm.findClass y.cls = some cell.cls) (hd : decode cc pc = .ok (.invokevirtual index, 3)) (hsz : ls.size = nL) (hn : As.length = na) (hst : st0 = As.reverse ++ .ref b :: rest) (hR : rm.frames + 1 ≤ R.frames ∧ 8 + (kL + 11) + rm.locals ≤ R.locals) (hW : (rest.map fun v => v.category).sum ≤ 8) (hf : cells + rm.cells ≤ R.cells ∧ slots + rm.slots ≤ R.slots)
    (kk : ∀ (u : S) (locs1 : List Loc), post u → va_S (old s.heap.size) s.heap H locs1 → W p l e R s m args below meth c H locs1 (cells + rm.cells) (slots + rm.slots) Q (F0 m (pc + 3) ls ((rv u).toList ++ rest))) : W p l e R s m args below meth c H locs cells slots Q (F0 m pc ls st0) := by
  refine g_after (A := old s.heap.size) (g_V X M hM hrc hT hS (fun _ h => h) hd hsz hn hst hR hW hf) hS (fun _ h => h.elim) (fun u => (rv u).toList ++ rest) (fun _ => rfl) (fun u H1 locs1 hp hP hz hk hS9 => ?_)
  subst hP
  exact kk u locs1 hp hS9
theorem lm_w (X : Cx p c s m meth cc nL own D tc) (M : MV own index y code kL ret na) (hT : ST s.heap.size sa s s.heap) (hS : va_S (old s.heap.size) s.heap H locs) (hI : (LI D tc s.heap.size (sa 3) O q ob od f g ad ar sp sd pd fd sums r w ns sw np pw nf fw spw t n rr ww H)) (hM : MB l y code kL ret rm (Rg s.heap.size O H.size 4) (.ref q :: As) D tc s.heap.size sa H post (fun u H1 => SB D tc (sa 3) (Rg s.heap.size O H.size 4) t n rr (wf u) H1) rv) (hrc : ∃ cell : Cell, H[q]? = some cell ∧ cell.vm.isStatics = false ∧ s.vm.findClass y.cls = some cell.cls) (hd : decode cc pc = .ok (.invokevirtual index, 3)) (hsz : ls.size = nL) (hn : As.length = na) (hst : st0 = As.reverse ++ .ref q :: rest) (hR : rm.frames + 1 ≤ R.frames ∧ 8 + (kL + 11) + rm.locals ≤ R.locals) (hW : (rest.map fun v => v.category).sum ≤ 8) (hf : cells + rm.cells ≤ R.cells ∧ slots + rm.slots ≤ R.slots)
    (kk : ∀ (u : S) (H1 : Heap) (locs1 : List Loc) (O1 : Nat → Nat), post u → va_S (old s.heap.size) s.heap H1 locs1 → (LI D tc s.heap.size (sa 3) O1 q ob od f g ad ar sp sd pd fd sums r w ns sw np pw nf fw spw t n rr (wf u) H1) → W p l e R s m args below meth c H1 locs1 (cells + rm.cells) (slots + rm.slots) Q (F0 m (pc + 3) ls ((rv u).toList ++ rest))) : W p l e R s m args below meth c H locs cells slots Q (F0 m pc ls st0) := by
  refine g_after (A := old s.heap.size) (g_V X M hM hrc hT hS (fun _ h => h) hd hsz hn hst hR hW hf) hS (fun _ h => h.2.1) (fun u => (rv u).toList ++ rest) (fun _ => rfl) (fun u H1 locs1 hp hP hz hk hS9 => ?_)
  exact kk u H1 locs1 _ hp hS9 (hI.mod hz (fun x h1 h2 => hk x h1 (fun z => h2 (Or.inl z))) (hP.mono fun x _ hx => Or.inl hx) hI.2.1.2)
theorem lm_g {tf nF : S → Nat → Nat} {rf : S → Nat → Nat → Nat} (X : Cx p c s m meth cc nL own D tc) (M : MV own index y code kL ret na) (hT : ST s.heap.size sa s s.heap) (hS : va_S (old s.heap.size) s.heap H locs) (hI : (LI D tc s.heap.size (sa 3) O q ob od f g ad ar sp sd pd fd sums r w ns sw np pw nf fw spw t n rr ww H)) (hM : MB l y code kL ret rm (fun x : Nat => Rg s.heap.size O H.size 4 x ∨ H.size ≤ x) (.ref q :: As) D tc s.heap.size sa H post (fun u H1 => SB D tc (sa 3) (fun x : Nat => Rg s.heap.size O H.size 4 x ∨ H.size ≤ x) (tf u) (nF u) (rf u) (wf u) H1 ∧ Ext t (tf u)) rv) (hrc : ∃ cell : Cell, H[q]? = some cell ∧ cell.vm.isStatics = false ∧ s.vm.findClass y.cls = some cell.cls) (hd : decode cc pc = .ok (.invokevirtual index, 3)) (hsz : ls.size = nL) (hn : As.length = na) (hst : st0 = As.reverse ++ .ref q :: rest) (hR : rm.frames + 1 ≤ R.frames ∧ 8 + (kL + 11) + rm.locals ≤ R.locals) (hW : (rest.map fun v => v.category).sum ≤ 8) (hf : cells + rm.cells ≤ R.cells ∧ slots + rm.slots ≤ R.slots)
    (kk : ∀ (u : S) (H1 : Heap) (locs1 : List Loc) (O1 : Nat → Nat), post u → va_S (old s.heap.size) s.heap H1 locs1 → (LI D tc s.heap.size (sa 3) O1 q ob od f g ad ar sp sd pd fd sums r w ns sw np pw nf fw spw (tf u) (nF u) (rf u) (wf u) H1) → W p l e R s m args below meth c H1 locs1 (cells + rm.cells) (slots + rm.slots) Q (F0 m (pc + 3) ls ((rv u).toList ++ rest))) : W p l e R s m args below meth c H locs cells slots Q (F0 m pc ls st0) := by
  have hA9 : ∀ x, (Rg s.heap.size O H.size 4 x ∨ H.size ≤ x) → s.heap.size ≤ x := fun x h => h.elim (fun h => h.2.1) (fun h => Nat.le_trans hI.2.2.2.2 h)
  refine g_after (A := old s.heap.size) (g_V X M hM hrc hT hS (fun _ h => h) hd hsz hn hst hR hW hf) hS hA9 (fun u => (rv u).toList ++ rest) (fun _ => rfl) (fun u H1 locs1 hp hP hz hk hS9 => ?_)
  exact kk u H1 locs1 _ hp hS9 (hI.mod hz hk hP.1 ((hP.2 q (by rw [hI.2.1.2]; decide)).trans hI.2.1.2))
theorem lc_sd {post : Int32 × Option Nat × Dt → Prop} (X : Cx p c s m meth cc nL own D tc) (M : MV own index y code kL ret na) (hT : ST s.heap.size sa s s.heap) (hS : va_S (old s.heap.size) s.heap H locs) (hI : (LI D tc s.heap.size (sa 3) O q ob od f g ad ar sp sd pd fd sums r w ns sw np pw nf fw spw t n rr ww H)) (hM : MB l y code kL ret rm (fun x : Nat => Rg s.heap.size O H.size 1 x ∨ Rg s.heap.size O H.size 3 x ∨ H.size ≤ x) [.ref (ar 0)] D tc s.heap.size sa H post (fun u H1 => Blk D tc (fun x => Rg s.heap.size O H.size 1 x ∧ x < H.size) (shR (ad 0) u.2.1 ns np nf sd pd fd sums ar) ar r H1 ∧ SPR D tc (fun x => (Rg s.heap.size O H.size 3 x ∧ x < H.size) ∨ H.size ≤ x) u.2.1 u.2.2 H1) (fun u => some (.int u.1))) (hrc : ∃ cell : Cell, H[ar 0]? = some cell ∧ cell.vm.isStatics = false ∧ s.vm.findClass y.cls = some cell.cls) (hd : decode cc pc = .ok (.invokevirtual index, 3)) (hsz : ls.size = nL) (hn : ([] : List Value).length = na) (hst : st0 = ([] : List Value).reverse ++ .ref (ar 0) :: rest) (hR : rm.frames + 1 ≤ R.frames ∧ 8 + (kL + 11) + rm.locals ≤ R.locals) (hW : (rest.map fun v => v.category).sum ≤ 8) (hf : cells + rm.cells ≤ R.cells ∧ slots + rm.slots ≤ R.slots)
    (kk : ∀ (u : Int32 × Option Nat × Dt) (H1 : Heap) (locs1 : List Loc) (O1 : Nat → Nat), post u → va_S (old s.heap.size) s.heap H1 locs1 → (LI D tc s.heap.size (sa 3) O1 q ob od f g ad ar u.2.1 sd pd fd sums r w ns sw np pw nf fw u.2.2 t n rr ww H1) → W p l e R s m args below meth c H1 locs1 (cells + rm.cells) (slots + rm.slots) Q (F0 m (pc + 3) ls (.int u.1 :: rest))) : W p l e R s m args below meth c H locs cells slots Q (F0 m pc ls st0) := by
  have hA9 : ∀ x, (Rg s.heap.size O H.size 1 x ∨ Rg s.heap.size O H.size 3 x ∨ H.size ≤ x) → s.heap.size ≤ x := fun x h => h.elim (fun h => h.2.1) (fun h => h.elim (fun h => h.2.1) (fun h => Nat.le_trans hI.2.2.2.2 h))
  refine g_after (A := old s.heap.size) (g_V X M hM hrc hT hS (fun _ h => h) hd hsz hn hst hR hW hf) hS hA9 (fun u => .int u.1 :: rest) (fun _ => rfl) (fun u H1 locs1 hp hP hz hk hS9 => ?_)
  exact kk u H1 locs1 _ hp hS9 (hI.spr hz hk hP.1 hP.2)
end LAWGEN
