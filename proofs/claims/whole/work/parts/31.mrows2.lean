/-! ROWS for the model's methods: what may be null, fresh cells, new objects as told to the pure side -/
theorem sz_of {H H1 : Heap} {a : Nat} (oq : ∀ q, q ≠ a → H1[q]? = H[q]?) (ha : a < H1.size) : H.size ≤ H1.size := by
  refine Nat.le_of_not_lt fun h => ?_
  have h1 := oq H1.size (fun e => by omega)
  rw [Array.getElem?_eq_none (Nat.le_refl _), Array.getElem?_eq_getElem h] at h1
  cases h1
section OPT
variable {p : Program} {l : Launch} {e : Env} {R : Room} {s : State} {m : MethodId} {args : Array Value} {below : List Frame} {meth : Method} {c : Code} {H : Heap} {locs : List Loc} {cells slots : Nat} {Q : State → Prop}
variable {cc : ByteArray} {pc : Nat} {ls : Array Slot} {rest : List Value}
theorem lv_aload_nO (hexec : p.tables.exec = Jvm.exec) (hb : c.code = cc) {k : Fin 4} {i : Nat} {o : Option Nat} (hdg : decode cc pc = .ok (.aload_n k, 1)) (hi : (k : Nat) = i) (hl : ls[i]? = some (.val (va_rf o))) (kk : W p l e R s m args below meth c H locs cells slots Q (F0 m (pc + 1) ls (va_rf o :: rest))) : W p l e R s m args below meth c H locs cells slots Q (F0 m pc ls rest) := by
  cases o with
  | none => exact lv_aload_nN hexec hb hdg hi hl kk
  | some x => exact lv_aload_n hexec hb hdg hi hl kk
theorem lv_aloadO (hexec : p.tables.exec = Jvm.exec) (hb : c.code = cc) {i : Nat} {o : Option Nat} (hdg : decode cc pc = .ok (.aload i, 2)) (hl : ls[i]? = some (.val (va_rf o))) (kk : W p l e R s m args below meth c H locs cells slots Q (F0 m (pc + 2) ls (va_rf o :: rest))) : W p l e R s m args below meth c H locs cells slots Q (F0 m pc ls rest) := by
  cases o with
  | none => exact lv_aloadN hexec hb hdg hl kk
  | some x => exact lv_aload hexec hb hdg hl kk
theorem lv_astore_nO (hexec : p.tables.exec = Jvm.exec) (hb : c.code = cc) {k : Fin 4} {i nL : Nat} {o : Option Nat} {lv lv' : List (Nat × Value)} (hdg : decode cc pc = .ok (.astore_n k, 1)) (hi : (k : Nat) = i) (h : lv_has ls nL lv) (hn : i < nL) (hl : (i, va_rf o) :: lv.filter (fun q => !(q.1 == i) && !(q.1 + 1 == i && q.2.category == 2)) = lv') (kk : ∀ ls' : Array Slot, lv_has ls' nL lv' → W p l e R s m args below meth c H locs cells slots Q (F0 m (pc + 1) ls' rest)) : W p l e R s m args below meth c H locs cells slots Q (F0 m pc ls (va_rf o :: rest)) := by
  cases o with
  | none => exact lv_astore_nN hexec hb hdg hi h hn hl kk
  | some x => exact lv_astore_n hexec hb hdg hi h hn hl kk
theorem lv_astoreO (hexec : p.tables.exec = Jvm.exec) (hb : c.code = cc) {i nL : Nat} {o : Option Nat} {lv lv' : List (Nat × Value)} (hdg : decode cc pc = .ok (.astore i, 2)) (h : lv_has ls nL lv) (hn : i < nL) (hl : (i, va_rf o) :: lv.filter (fun q => !(q.1 == i) && !(q.1 + 1 == i && q.2.category == 2)) = lv') (kk : ∀ ls' : Array Slot, lv_has ls' nL lv' → W p l e R s m args below meth c H locs cells slots Q (F0 m (pc + 2) ls' rest)) : W p l e R s m args below meth c H locs cells slots Q (F0 m pc ls (va_rf o :: rest)) := by
  cases o with
  | none => exact lv_astoreN hexec hb hdg h hn hl kk
  | some x => exact lv_astore hexec hb hdg h hn hl kk
theorem lv_ifnullO (hexec : p.tables.exec = Jvm.exec) (hb : c.code = cc) {o : Option Nat} {off : Int} {tgt : Nat} (hdg : decode cc pc = .ok (.ifnull off, 3)) (ht : (pc : Int) + off = (tgt : Int)) (kt : o = none → W p l e R s m args below meth c H locs cells slots Q (F0 m tgt ls rest)) (kf : ¬ o = none → W p l e R s m args below meth c H locs cells slots Q (F0 m (pc + 3) ls rest)) : W p l e R s m args below meth c H locs cells slots Q (F0 m pc ls (va_rf o :: rest)) := by
  cases o with
  | none => exact lv_ifnullN hexec hb hdg ht (kt rfl)
  | some x => exact lv_ifnull hexec hb hdg (kf (fun z => nomatch z))
theorem lv_ifnonnullO (hexec : p.tables.exec = Jvm.exec) (hb : c.code = cc) {o : Option Nat} {off : Int} {tgt : Nat} (hdg : decode cc pc = .ok (.ifnonnull off, 3)) (ht : (pc : Int) + off = (tgt : Int)) (kt : ¬ o = none → W p l e R s m args below meth c H locs cells slots Q (F0 m tgt ls rest)) (kf : o = none → W p l e R s m args below meth c H locs cells slots Q (F0 m (pc + 3) ls rest)) : W p l e R s m args below meth c H locs cells slots Q (F0 m pc ls (va_rf o :: rest)) := by
  cases o with
  | none => exact lv_ifnonnullN hexec hb hdg (kf rfl)
  | some x => exact lv_ifnonnull hexec hb hdg ht (kt (fun z => nomatch z))
theorem va_ldcwS (hexec : p.tables.exec = Jvm.exec) (hb : c.code = cc) {own tx : String} {index q : Nat} (hown : s.vm.findClass own = some m.cls) (hZ : vk_R own index tx q s) (hdg : decode cc pc = .ok (.ldc_w index, 3)) (k : W p l e R s m args below meth c H locs cells slots Q (F0 m (pc + 3) ls (.ref q :: rest))) : W p l e R s m args below meth c H locs cells slots Q (F0 m pc ls rest) := by
  intro T hT X
  obtain ⟨t, a1, b1⟩ := k T hT X
  exact ⟨t, X.ldcStringW hexec (own := own) (text := tx) (index := index) (a := q) hown hZ.1 hZ.2 (g := F0 m pc ls rest) rfl (by rw [hb]; exact hdg) t a1, b1⟩
end OPT
section MAKE
variable {D : va_G} {tc : Nat → ClassId} {e0 : Nat} {A B : Nat → Prop} {t n : Nat → Nat} {r : Nat → Nat → Nat} {w : Dt} {H H1 : Heap}
theorem SB.make (h : SB D tc e0 A t n r w H) {q k : Nat} {W : Nat → Int32} {c : Sc} (hA : A q) (hq : H.size ≤ q) (o1 : ∀ x, x < H.size → H1[x]? = H[x]?) (hc : kcel k 0 (r q) 0 = some c) (hat : va_at D vwCl (q, s_in tc c W) H1) (hwt : kwt (va_up t q k) k 0 (r q)) (hl : isL k = false := by rfl) : t q = 0 ∧ SB D tc e0 A (va_up t q k) n r (va_up w q W) H1 ∧ Ext t (va_up t q k) ∧ va_up t q k q = k := by
  obtain ⟨g1, g2⟩ := (h.off hq o1).newI (B := A) (fun z => z.2 rfl) (fun x z => z.1) hA hc hat hwt hl
  exact ⟨g1, g2, Ext.up g1, va_up_self _ _ _⟩
/-- one more cell, with links; the region grows by it -/
theorem SB.add1 (h : SB D tc e0 A t n r w H) {q k : Nat} {R : Nat → Nat} {W : Nat → Int32} {c : Sc} (hA : ¬ A q) (hc : kcel k 0 R 0 = some c) (hat : va_at D vwCl (q, s_in tc c W) H) (hwt : kwt (va_up t q k) k 0 R) (hl : isL k = false := by rfl) : t q = 0 ∧ SB D tc e0 (fun x => A x ∨ x = q) (va_up t q k) n (va_up r q R) (va_up w q W) H ∧ Ext t (va_up t q k) := by
  obtain ⟨g1, g2⟩ := h.new (B := fun x => A x ∨ x = q) hA (fun x z => Or.inl z) (Or.inr rfl) hc hat hwt hl
  exact ⟨g1, g2, Ext.up g1⟩
theorem SB.addL (h : SB D tc e0 A t n r w H) {q k : Nat} (hl : isL k = true) (hA : ¬ A q) (hat : va_at D vwCl (q, .inr (3, [.int 0, .ref e0, .int 0])) H) : t q = 0 ∧ SB D tc e0 (fun x => A x ∨ x = q) (va_up t q k) (va_up n q 0) r (va_up w q (fun _ => 0)) H ∧ Ext t (va_up t q k) := by
  obtain ⟨g1, g2⟩ := h.newL (B := fun x => A x ∨ x = q) hl hA (fun x z => Or.inl z) (Or.inr rfl) hat
  exact ⟨g1, g2, Ext.up g1⟩
/-- the model's world is another one -/
theorem SB.putr7 (h : SB D tc e0 A t n r w H) {a v : Nat} (hk : t a = 7) (hv : t v = 4) (hat : va_at D vwCl (a, s_in tc (.inl (17, [none, some (.ref v), some (.ref (r a 2)), some (.ref (r a 3)), some (.ref (r a 4))])) (w a)) H1) (oq : ∀ q, q ≠ a → H1[q]? = H[q]?) : SB D tc e0 A t n (va_up r a (va_up (r a) 1 v)) w H1 := by
  obtain ⟨E, cap, h⟩ := h
  have hta : t a ≠ 0 := by rw [hk]; decide
  refine ⟨E, cap, fun b d hd => ?_, fun b hb => ?_, h.2.2.1, fun b hb => ?_, fun b => ?_⟩
  · by_cases e : b = a
    · subst e
      rw [va_up_self, hk] at hd
      cases hd
      exact ⟨hat, (h.lt hta).2⟩
    · rw [va_up_ne _ _ e] at hd
      exact ⟨(h.1 b d hd).1.kept (oq _ e), (h.1 b d hd).2⟩
  · have e : b ≠ a := fun e => by rw [e, hk] at hb; cases hb
    obtain ⟨h1, h2, h3, h4⟩ := h.2.1 b hb
    rw [va_up_ne _ _ e]
    exact ⟨h1, h2, h3, fun hp => ⟨(h4 hp).1.kept (oq _ fun e => hta (by rw [← e]; exact (h4 hp).2.2)), (h4 hp).2⟩⟩
  · by_cases e : b = a
    · subst e
      rw [hk]
      exact ⟨_, rfl⟩
    · rw [va_up_ne _ _ e]
      exact h.2.2.2.1 b hb
  · by_cases e : b = a
    · subst e
      have h9 := h.2.2.2.2 b
      rw [hk] at h9 ⊢
      rw [va_up_self]
      exact ⟨hv, h9.2⟩
    · rw [va_up_ne _ _ e]
      exact h.2.2.2.2 b
end MAKE
theorem x_putw {p : Program} {l : Launch} {e : Env} {R : Room} {s : State} {m : MethodId} {args : Array Value} {below : List Frame} {meth : Method} {c : Code} {H : Heap} {locs : List Loc} {cells slots : Nat} {Q : State → Prop} {cc : ByteArray} {nL : Nat} {own : String} {D : va_G} {tc : Nat → ClassId} {pc : Nat} {ls : Array Slot} {rest : List Value} {A B : Nat → Prop} {H0 : Heap} {index e0 : Nat} {t n : Nat → Nat} {r : Nat → Nat → Nat} {w : Dt} {a v : Nat} {ty : FieldType}
    (X : Cx p c s m meth cc nL own D tc) (hd : decode cc pc = .ok (.putfield index, 3)) (Fk : FK own index 17 1 ty false) (hB : SB D tc e0 A t n r w H) (hk : t a = 7) (hv : t v = 4) (hA : A a) (hS : va_S B H0 H locs) (hAB : ∀ x, A x → B x) (hn : narrow ty (.ref v) = .ref v := by rfl) (hfit : fits ty (.ref v) = true := by rfl)
    (kk : ∀ (H1 : Heap) (locs1 : List Loc), SB D tc e0 A t n (va_up r a (va_up (r a) 1 v)) w H1 → (∀ q, q ≠ a → H1[q]? = H[q]?) → H1.size = H.size → va_S B H0 H1 locs1 → W p l e R s m args below meth c H1 locs1 cells slots Q (F0 m (pc + 3) ls rest)) : W p l e R s m args below meth c H locs cells slots Q (F0 m pc ls (.ref v :: .ref a :: rest)) := by
  refine x_putv (A := B) X hd Fk (hB.at (k := 7) hk rfl) (hAB _ hA) hS (Nat.le_of_ble_eq_true rfl) hn hfit (fun H1 locs1 hat oq hz hS1 => ?_)
  exact kk H1 locs1 (hB.putr7 hk hv hat oq) oq hz hS1
/-- new probes, frames, worlds -/
def NEW6 (t n : Nat → Nat) (r : Nat → Nat → Nat) (w : Dt) (q : Nat) (t' n' : Nat → Nat) (r' : Nat → Nat → Nat) (w' : Dt) : Prop := ∃ q1 : Nat, q < q1 ∧ t q = 0 ∧ t q1 = 0 ∧ t' = va_up (va_up t q1 8) q 6 ∧ n' = va_up n q1 0 ∧ r' = va_up r q (fun _ => q1) ∧ w' = va_up (va_up w q1 (fun _ => 0)) q (fun _ => 0)
def NEW5 (t n : Nat → Nat) (r : Nat → Nat → Nat) (w : Dt) (q : Nat) (t' n' : Nat → Nat) (r' : Nat → Nat → Nat) (w' : Dt) : Prop := ∃ q1 q2 : Nat, q < q1 ∧ q1 < q2 ∧ t q = 0 ∧ t q1 = 0 ∧ t q2 = 0 ∧ t' = va_up (va_up (va_up t q1 9) q2 9) q 5 ∧ n' = va_up (va_up n q1 0) q2 0 ∧ r' = va_up r q (fun k => if k = 8 then q1 else q2) ∧ w' = va_up (va_up (va_up w q1 (fun _ => 0)) q2 (fun _ => 0)) q (fun _ => 0)
def ups {α : Type} (f : Nat → Nat) (v : α) : Nat → (Nat → α) → Nat → α
  | 0, t => t
  | j + 1, t => va_up (ups f v j t) (f j) v
def wW : Nat → Int32 := fun k => if k = 3 then 2 else 0
def wR (q0 q1 q2 q5 q8 q9 q10 : Nat) : Nat → Nat := fun k => match k with
  | 0 => q0 | 1 => q1 | 2 => q2 | 5 => q5 | 8 => q8 | 9 => q9 | _ => q10
def NEW4 (t n : Nat → Nat) (r : Nat → Nat → Nat) (w : Dt) (q : Nat) (t' n' : Nat → Nat) (r' : Nat → Nat → Nat) (w' : Dt) : Prop := ∃ (q0 q1 q2 q5 q8 q9 q10 : Nat) (f1 f2 : Nat → Nat), q < q0 ∧ q0 < q1 ∧ (∀ j, j < 10 → q1 < f1 j ∧ f1 j < q2 ∧ q2 < f2 j ∧ f2 j < q5) ∧ q1 < q2 ∧ q2 < q5 ∧ q5 < q8 ∧ q8 < q9 ∧ q9 < q10 ∧ (∀ i j, i < 10 → j < 10 → f1 i = f1 j → i = j) ∧ (∀ i j, i < 10 → j < 10 → f2 i = f2 j → i = j) ∧ (∀ x, q ≤ x → t x = 0) ∧
  t' = va_up (va_up (va_up (va_up (va_up (va_up (ups f2 23 10 (va_up (ups f1 23 10 (va_up t q0 1)) q1 2)) q2 2) q5 22) q8 8) q9 9) q10 15) q 4 ∧
  n' = va_up (va_up (va_up n q8 0) q9 0) q10 0 ∧ r' = va_up (va_up (va_up r q1 f1) q2 f2) q (wR q0 q1 q2 q5 q8 q9 q10) ∧
  w' = va_up (va_up (va_up (va_up (va_up (va_up (ups f2 (fun _ => 0) 10 (va_up (ups f1 (fun _ => 0) 10 (va_up w q0 (fun _ => 0))) q1 (fun _ => 0))) q2 (fun _ => 0)) q5 (fun _ => 0)) q8 (fun _ => 0)) q9 (fun _ => 0)) q10 (fun _ => 0)) q wW
