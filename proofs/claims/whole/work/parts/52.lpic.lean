/-! THE PICTURE OF THE LAW: whose a cell is -/
section LAWPIC
variable {D : va_G} {tc : Nat → ClassId} {h0 e0 : Nat} {H H1 : Heap} {N N' j : Nat} {O : Nat → Nat} {q ob od : Nat} {f : Nat → Int64} {g : Nat → UInt64} {ad ar : Nat → Nat} {sp : Option Nat} {sd pd fd : Nat → Nat → Nat} {sums : Nat → Int64} {r w : Dt} {ns : Nat} {sw : Nat → Dt} {np : Nat} {pw : Nat → Dt} {nf : Nat} {fw : Nat → Dt} {spw : Dt} {t n : Nat → Nat} {rr : Nat → Nat → Nat} {ww : Dt}
def Rg (h0 : Nat) (O : Nat → Nat) (N k : Nat) : Nat → Prop := fun x => O x = k ∧ h0 ≤ x ∧ x < N
def oX (O : Nat → Nat) (N j : Nat) : Nat → Nat := fun x => if x < N then O x else j
theorem Rg.old {k x : Nat} (h : Rg h0 O N k x) (hN : N ≤ N') (j : Nat) : Rg h0 (oX O N j) N' k x := ⟨by unfold oX; rw [if_pos h.2.2]; exact h.1, h.2.1, Nat.lt_of_lt_of_le h.2.2 hN⟩
theorem Rg.new {x : Nat} (h : N ≤ x) (hx : x < N') (h0N : h0 ≤ N) : Rg h0 (oX O N j) N' j x := ⟨by unfold oX; rw [if_neg (by omega)], by omega, hx⟩
theorem Rg.ne {k k' x : Nat} (h : Rg h0 O N k x) (g : Rg h0 O N' k' x) (hk : k ≠ k') : False := hk (h.1.symm.trans g.1)
theorem Blk.rg {k : Nat} {sh : Sh} {a : Nat → Nat} {v : Dt} (h : Blk D tc (Rg h0 O N k) sh a v H) (hN : N ≤ N') (j : Nat) (hq : ∀ x, Rg h0 O N k x → H1[x]? = H[x]?) : Blk D tc (Rg h0 (oX O N j) N' k) sh a v H1 := (h.kept fun x _ hx => hq x hx).mono fun _ _ _ hx => Rg.old hx hN j
theorem Blk.rg1 {k : Nat} {sh : Sh} {a : Nat → Nat} {v : Dt} (h : Blk D tc (Rg h0 O N k) sh a v H) (hN : N ≤ N') (j : Nat) : Blk D tc (Rg h0 (oX O N j) N' k) sh a v H := h.rg hN j fun _ _ => rfl
theorem SPR.rg {k : Nat} (h : SPR D tc (Rg h0 O N k) sp spw H) (hN : N ≤ N') (j : Nat) (hq : ∀ x, Rg h0 O N k x → H1[x]? = H[x]?) : SPR D tc (Rg h0 (oX O N j) N' k) sp spw H1 := by
  refine (h.kept fun x _ hx => hq x hx).mono fun x _ hx => Rg.old hx hN j
theorem SB.rg {k : Nat} (h : SB D tc e0 (Rg h0 O N k) t n rr ww H) (hN : N ≤ N') (j : Nat) (hq : ∀ x, Rg h0 O N k x → H1[x]? = H[x]?) : SB D tc e0 (Rg h0 (oX O N j) N' k) t n rr ww H1 := (h.kept fun x _ hx => hq x hx).mono fun x _ hx => Rg.old hx hN j
def CI (D : va_G) (tc : Nat → ClassId) (h0 : Nat) (O : Nat → Nat) (N : Nat) (ad ar : Nat → Nat) (sp : Option Nat) (sd pd fd : Nat → Nat → Nat) (sums : Nat → Int64) (r w : Dt) (ns : Nat) (sw : Nat → Dt) (np : Nat) (pw : Nat → Dt) (nf : Nat) (fw : Nat → Dt) (spw : Dt) (H : Heap) : Prop :=
  Blk D tc (Rg h0 O N 1) (shR (ad 0) sp ns np nf sd pd fd sums ar) ar r H ∧ Blk D tc (Rg h0 O N 2) (shW ad) ad w H ∧ (∀ k : Nat, k < ns → Blk D tc (Rg h0 O N (10 + 3 * k)) (shW (sd k)) (sd k) (sw k) H) ∧ (∀ k : Nat, k < np → Blk D tc (Rg h0 O N (11 + 3 * k)) (shPr (pd k)) (pd k) (pw k) H) ∧ (∀ k : Nat, k < nf → Blk D tc (Rg h0 O N (12 + 3 * k)) (shFr (fd k)) (fd k) (fw k) H) ∧ SPR D tc (Rg h0 O N 3) sp spw H
def LI (D : va_G) (tc : Nat → ClassId) (h0 e0 : Nat) (O : Nat → Nat) (q ob od : Nat) (f : Nat → Int64) (g : Nat → UInt64) (ad ar : Nat → Nat) (sp : Option Nat) (sd pd fd : Nat → Nat → Nat) (sums : Nat → Int64) (r w : Dt) (ns : Nat) (sw : Nat → Dt) (np : Nat) (pw : Nat → Dt) (nf : Nat) (fw : Nat → Dt) (spw : Dt) (t n : Nat → Nat) (rr : Nat → Nat → Nat) (ww : Dt) (H : Heap) : Prop :=
  (CI D tc h0 O H.size ad ar sp sd pd fd sums r w ns sw np pw nf fw spw H) ∧ (SB D tc e0 (Rg h0 O H.size 4) t n rr ww H ∧ t q = 7) ∧ (va_at D vwCl (ob, .inl (tc 3, 1, .inr (.inl f))) H ∧ Rg h0 O H.size 5 ob) ∧ (va_at D vwCl (od, .inl (tc 4, 1, .inr (.inr (.inr (.inl g))))) H ∧ Rg h0 O H.size 6 od) ∧ h0 ≤ H.size
theorem CI.rg (h : (CI D tc h0 O N ad ar sp sd pd fd sums r w ns sw np pw nf fw spw H)) (hN : N ≤ N') (j : Nat) (hq : ∀ k x, (k = 1 ∨ k = 2 ∨ k = 3 ∨ 10 ≤ k) → Rg h0 O N k x → H1[x]? = H[x]?) : (CI D tc h0 (oX O N j) N' ad ar sp sd pd fd sums r w ns sw np pw nf fw spw H1) :=
  ⟨h.1.rg hN j (fun x hx => hq _ x (by omega) hx), h.2.1.rg hN j (fun x hx => hq _ x (by omega) hx), fun k hk => (h.2.2.1 k hk).rg hN j (fun x hx => hq _ x (by omega) hx), fun k hk => (h.2.2.2.1 k hk).rg hN j (fun x hx => hq _ x (by omega) hx), fun k hk => (h.2.2.2.2.1 k hk).rg hN j (fun x hx => hq _ x (by omega) hx), h.2.2.2.2.2.rg hN j (fun x hx => hq _ x (by omega) hx)⟩
/-- nothing old has changed -/
theorem LI.keep (h : (LI D tc h0 e0 O q ob od f g ad ar sp sd pd fd sums r w ns sw np pw nf fw spw t n rr ww H)) (hz : H.size ≤ H1.size) (j : Nat) (hq : ∀ x, x < H.size → H1[x]? = H[x]?) : (LI D tc h0 e0 (oX O H.size j) q ob od f g ad ar sp sd pd fd sums r w ns sw np pw nf fw spw t n rr ww H1) :=
  ⟨h.1.rg hz j (fun k x _ hx => hq x hx.2.2), ⟨h.2.1.1.rg hz j (fun x hx => hq x hx.2.2), h.2.1.2⟩, ⟨h.2.2.1.1.kept (hq _ h.2.2.1.2.2.2), h.2.2.1.2.old hz j⟩, ⟨h.2.2.2.1.1.kept (hq _ h.2.2.2.1.2.2.2), h.2.2.2.1.2.old hz j⟩, Nat.le_trans h.2.2.2.2 hz⟩
/-- only the row of long answers has changed -/
theorem LI.oL (h : (LI D tc h0 e0 O q ob od f g ad ar sp sd pd fd sums r w ns sw np pw nf fw spw t n rr ww H)) (hz : H1.size = H.size) {f1 : Nat → Int64} (hat : va_at D vwCl (ob, .inl (tc 3, 1, .inr (.inl f1))) H1) (hq : ∀ x, x ≠ ob → H1[x]? = H[x]?) : (LI D tc h0 e0 (oX O H.size 0) q ob od f1 g ad ar sp sd pd fd sums r w ns sw np pw nf fw spw t n rr ww H1) := by
  have ho : ∀ k x, k ≠ 5 → Rg h0 O H.size k x → H1[x]? = H[x]? := fun k x hk hx => hq x fun e => by subst e; exact hx.ne h.2.2.1.2 hk
  have hz' : H.size ≤ H1.size := by omega
  exact ⟨h.1.rg hz' 0 (fun k x hk hx => ho k x (by omega) hx), ⟨h.2.1.1.rg hz' 0 (fun x hx => ho _ x (by omega) hx), h.2.1.2⟩, ⟨hat, h.2.2.1.2.old hz' 0⟩, ⟨h.2.2.2.1.1.kept (ho _ _ (by omega) h.2.2.2.1.2), h.2.2.2.1.2.old hz' 0⟩, Nat.le_trans h.2.2.2.2 hz'⟩
theorem LI.oD (h : (LI D tc h0 e0 O q ob od f g ad ar sp sd pd fd sums r w ns sw np pw nf fw spw t n rr ww H)) (hz : H1.size = H.size) {g1 : Nat → UInt64} (hat : va_at D vwCl (od, .inl (tc 4, 1, .inr (.inr (.inr (.inl g1))))) H1) (hq : ∀ x, x ≠ od → H1[x]? = H[x]?) : (LI D tc h0 e0 (oX O H.size 0) q ob od f g1 ad ar sp sd pd fd sums r w ns sw np pw nf fw spw t n rr ww H1) := by
  have ho : ∀ k x, k ≠ 6 → Rg h0 O H.size k x → H1[x]? = H[x]? := fun k x hk hx => hq x fun e => by subst e; exact hx.ne h.2.2.2.1.2 hk
  have hz' : H.size ≤ H1.size := by omega
  exact ⟨h.1.rg hz' 0 (fun k x hk hx => ho k x (by omega) hx), ⟨h.2.1.1.rg hz' 0 (fun x hx => ho _ x (by omega) hx), h.2.1.2⟩, ⟨h.2.2.1.1.kept (ho _ _ (by omega) h.2.2.1.2), h.2.2.1.2.old hz' 0⟩, ⟨hat, h.2.2.2.1.2.old hz' 0⟩, Nat.le_trans h.2.2.2.2 hz'⟩
/-- the model has changed, cells may have come -/
theorem LI.mod (h : (LI D tc h0 e0 O q ob od f g ad ar sp sd pd fd sums r w ns sw np pw nf fw spw t n rr ww H)) (hz : H.size ≤ H1.size) (hq : ∀ x, x < H.size → ¬ (Rg h0 O H.size 4 x ∨ H.size ≤ x) → H1[x]? = H[x]?) {t1 n1 : Nat → Nat} {r1 : Nat → Nat → Nat} {w1 : Dt} (hB : SB D tc e0 (fun x => Rg h0 O H.size 4 x ∨ H.size ≤ x) t1 n1 r1 w1 H1) (h7 : t1 q = 7) : (LI D tc h0 e0 (oX O H.size 4) q ob od f g ad ar sp sd pd fd sums r w ns sw np pw nf fw spw t1 n1 r1 w1 H1) := by
  have ho : ∀ k x, k ≠ 4 → Rg h0 O H.size k x → H1[x]? = H[x]? := fun k x hk hx => hq x hx.2.2 fun e => e.elim (fun e => hx.ne e hk) (fun e => by have := hx.2.2; omega)
  exact ⟨h.1.rg hz 4 (fun k x hk hx => ho k x (by omega) hx), ⟨hB.mono (fun x hx hy => hy.elim (fun z => z.old hz 4) (fun z => Rg.new z hx h.2.2.2.2)), h7⟩, ⟨h.2.2.1.1.kept (ho _ _ (by omega) h.2.2.1.2), h.2.2.1.2.old hz 4⟩, ⟨h.2.2.2.1.1.kept (ho _ _ (by omega) h.2.2.2.1.2), h.2.2.2.1.2.old hz 4⟩, Nat.le_trans h.2.2.2.2 hz⟩
/-- the class's world has changed, and the row of answers -/
theorem LI.wld (h : (LI D tc h0 e0 O q ob od f g ad ar sp sd pd fd sums r w ns sw np pw nf fw spw t n rr ww H)) (hz : H.size ≤ H1.size) {f1 : Nat → Int64} (hat : va_at D vwCl (ob, .inl (tc 3, 1, .inr (.inl f1))) H1) (hq : ∀ x, x < H.size → ¬ (Rg h0 O H.size 2 x ∨ x = ob) → H1[x]? = H[x]?) {w1 : Dt} (hB : Blk D tc (Rg h0 O H.size 2) (shW ad) ad w1 H1) : (LI D tc h0 e0 (oX O H.size 0) q ob od f1 g ad ar sp sd pd fd sums r w1 ns sw np pw nf fw spw t n rr ww H1) := by
  have ho : ∀ k x, k ≠ 2 → k ≠ 5 → Rg h0 O H.size k x → H1[x]? = H[x]? := fun k x hk hk5 hx => hq x hx.2.2 fun e => e.elim (fun e => hx.ne e hk) (fun e => by subst e; exact hx.ne h.2.2.1.2 hk5)
  obtain ⟨h1, h2, h3, h4, h5, h6⟩ := h.1
  exact ⟨⟨h1.rg hz 0 (fun x hx => ho _ x (by omega) (by omega) hx), hB.rg1 hz 0, fun k hk => (h3 k hk).rg hz 0 (fun x hx => ho _ x (by omega) (by omega) hx), fun k hk => (h4 k hk).rg hz 0 (fun x hx => ho _ x (by omega) (by omega) hx), fun k hk => (h5 k hk).rg hz 0 (fun x hx => ho _ x (by omega) (by omega) hx), h6.rg hz 0 (fun x hx => ho _ x (by omega) (by omega) hx)⟩, ⟨h.2.1.1.rg hz 0 (fun x hx => ho _ x (by omega) (by omega) hx), h.2.1.2⟩, ⟨hat, h.2.2.1.2.old hz 0⟩, ⟨h.2.2.2.1.1.kept (ho _ _ (by omega) (by omega) h.2.2.2.1.2), h.2.2.2.1.2.old hz 0⟩, Nat.le_trans h.2.2.2.2 hz⟩
/-- a probe has changed, and the row of answers -/
theorem LI.prb (h : (LI D tc h0 e0 O q ob od f g ad ar sp sd pd fd sums r w ns sw np pw nf fw spw t n rr ww H)) (hz : H.size ≤ H1.size) {f1 : Nat → Int64} (hat : va_at D vwCl (ob, .inl (tc 3, 1, .inr (.inl f1))) H1) {k0 : Nat} (hq : ∀ x, x < H.size → ¬ (Rg h0 O H.size (11 + 3 * k0) x ∨ x = ob) → H1[x]? = H[x]?) {w1 : Dt} (hB : Blk D tc (Rg h0 O H.size (11 + 3 * k0)) (shPr (pd k0)) (pd k0) w1 H1) : (LI D tc h0 e0 (oX O H.size 0) q ob od f1 g ad ar sp sd pd fd sums r w ns sw np (va_up pw k0 w1) nf fw spw t n rr ww H1) := by
  have ho : ∀ k x, k ≠ 11 + 3 * k0 → k ≠ 5 → Rg h0 O H.size k x → H1[x]? = H[x]? := fun k x hk hk5 hx => hq x hx.2.2 fun e => e.elim (fun e => hx.ne e hk) (fun e => by subst e; exact hx.ne h.2.2.1.2 hk5)
  obtain ⟨h1, h2, h3, h4, h5, h6⟩ := h.1
  refine ⟨⟨h1.rg hz 0 (fun x hx => ho _ x (by omega) (by omega) hx), h2.rg hz 0 (fun x hx => ho _ x (by omega) (by omega) hx), fun k hk => (h3 k hk).rg hz 0 (fun x hx => ho _ x (by omega) (by omega) hx), fun k hk => ?_, fun k hk => (h5 k hk).rg hz 0 (fun x hx => ho _ x (by omega) (by omega) hx), h6.rg hz 0 (fun x hx => ho _ x (by omega) (by omega) hx)⟩, ⟨h.2.1.1.rg hz 0 (fun x hx => ho _ x (by omega) (by omega) hx), h.2.1.2⟩, ⟨hat, h.2.2.1.2.old hz 0⟩, ⟨h.2.2.2.1.1.kept (ho _ _ (by omega) (by omega) h.2.2.2.1.2), h.2.2.2.1.2.old hz 0⟩, Nat.le_trans h.2.2.2.2 hz⟩
  by_cases e : k = k0
  · subst e
    rw [va_up_self]
    exact hB.rg1 hz 0
  · rw [va_up_ne _ _ e]
    exact (h4 k hk).rg hz 0 (fun x hx => ho _ x (by omega) (by omega) hx)
/-- the root has changed, cells have come: a probe; a frame; a save -/
theorem LI.root (h : (LI D tc h0 e0 O q ob od f g ad ar sp sd pd fd sums r w ns sw np pw nf fw spw t n rr ww H)) (hz : H.size ≤ H1.size) {f1 : Nat → Int64} (hat : va_at D vwCl (ob, .inl (tc 3, 1, .inr (.inl f1))) H1) (hq : ∀ x, x < H.size → ¬ ((Rg h0 O H.size 1 x ∨ H.size ≤ x) ∨ x = ob) → H1[x]? = H[x]?) {ns1 np1 nf1 j : Nat} {sd1 pd1 fd1 : Nat → Nat → Nat} {sums1 : Nat → Int64} {r1 : Dt} {sw1 pw1 fw1 : Nat → Dt}
    (hB : Blk D tc (Rg h0 O H.size 1) (shR (ad 0) sp ns1 np1 nf1 sd1 pd1 fd1 sums1 ar) ar r1 H1)
    (hs : ∀ k : Nat, k < ns1 → (k < ns ∧ sd1 k = sd k ∧ sw1 k = sw k) ∨ (j = 10 + 3 * k ∧ Blk D tc (fun x => H.size ≤ x) (shW (sd1 k)) (sd1 k) (sw1 k) H1))
    (hp : ∀ k : Nat, k < np1 → (k < np ∧ pd1 k = pd k ∧ pw1 k = pw k) ∨ (j = 11 + 3 * k ∧ Blk D tc (fun x => H.size ≤ x) (shPr (pd1 k)) (pd1 k) (pw1 k) H1))
    (hf : ∀ k : Nat, k < nf1 → (k < nf ∧ fd1 k = fd k ∧ fw1 k = fw k) ∨ (j = 12 + 3 * k ∧ Blk D tc (fun x => H.size ≤ x) (shFr (fd1 k)) (fd1 k) (fw1 k) H1)) : (LI D tc h0 e0 (oX O H.size j) q ob od f1 g ad ar sp sd1 pd1 fd1 sums1 r1 w ns1 sw1 np1 pw1 nf1 fw1 spw t n rr ww H1) := by
  have ho : ∀ k x, k ≠ 1 → k ≠ 5 → Rg h0 O H.size k x → H1[x]? = H[x]? := fun k x hk hk5 hx => hq x hx.2.2 fun e => e.elim (fun e => e.elim (fun e => hx.ne e hk) (fun e => by have := hx.2.2; omega)) (fun e => by subst e; exact hx.ne h.2.2.1.2 hk5)
  obtain ⟨h1, h2, h3, h4, h5, h6⟩ := h.1
  refine ⟨⟨hB.rg1 hz j, h2.rg hz j (fun x hx => ho _ x (by omega) (by omega) hx), fun k hk => ?_, fun k hk => ?_, fun k hk => ?_, h6.rg hz j (fun x hx => ho _ x (by omega) (by omega) hx)⟩, ⟨h.2.1.1.rg hz j (fun x hx => ho _ x (by omega) (by omega) hx), h.2.1.2⟩, ⟨hat, h.2.2.1.2.old hz j⟩, ⟨h.2.2.2.1.1.kept (ho _ _ (by omega) (by omega) h.2.2.2.1.2), h.2.2.2.1.2.old hz j⟩, Nat.le_trans h.2.2.2.2 hz⟩
  · rcases hs k hk with ⟨e1, e2, e3⟩ | ⟨e1, e2⟩
    · rw [e2, e3]
      exact (h3 k e1).rg hz j (fun x hx => ho _ x (by omega) (by omega) hx)
    · rw [e1]
      exact e2.mono (fun i c hc hA => Rg.new hA (e2.lt hc) h.2.2.2.2)
  · rcases hp k hk with ⟨e1, e2, e3⟩ | ⟨e1, e2⟩
    · rw [e2, e3]
      exact (h4 k e1).rg hz j (fun x hx => ho _ x (by omega) (by omega) hx)
    · rw [e1]
      exact e2.mono (fun i c hc hA => Rg.new hA (e2.lt hc) h.2.2.2.2)
  · rcases hf k hk with ⟨e1, e2, e3⟩ | ⟨e1, e2⟩
    · rw [e2, e3]
      exact (h5 k e1).rg hz j (fun x hx => ho _ x (by omega) (by omega) hx)
    · rw [e1]
      exact e2.mono (fun i c hc hA => Rg.new hA (e2.lt hc) h.2.2.2.2)
/-- isSound: the spare world has come or changed -/
theorem LI.spr (h : (LI D tc h0 e0 O q ob od f g ad ar sp sd pd fd sums r w ns sw np pw nf fw spw t n rr ww H)) (hz : H.size ≤ H1.size) (hq : ∀ x, x < H.size → ¬ (Rg h0 O H.size 1 x ∨ Rg h0 O H.size 3 x ∨ H.size ≤ x) → H1[x]? = H[x]?) {sp1 : Option Nat} {spw1 : Dt} (hB : Blk D tc (fun x => Rg h0 O H.size 1 x ∧ x < H.size) (shR (ad 0) sp1 ns np nf sd pd fd sums ar) ar r H1) (hs : SPR D tc (fun x => (Rg h0 O H.size 3 x ∧ x < H.size) ∨ H.size ≤ x) sp1 spw1 H1) : (LI D tc h0 e0 (oX O H.size 3) q ob od f g ad ar sp1 sd pd fd sums r w ns sw np pw nf fw spw1 t n rr ww H1) := by
  have ho : ∀ k x, k ≠ 1 → k ≠ 3 → Rg h0 O H.size k x → H1[x]? = H[x]? := fun k x hk hk5 hx => hq x hx.2.2 fun e => e.elim (fun e => hx.ne e hk) (fun e => e.elim (fun e => hx.ne e hk5) (fun e => by have := hx.2.2; omega))
  obtain ⟨h1, h2, h3, h4, h5, h6⟩ := h.1
  exact ⟨⟨hB.mono (fun _ _ _ hx => hx.1.old hz 3), h2.rg hz 3 (fun x hx => ho _ x (by omega) (by omega) hx), fun k hk => (h3 k hk).rg hz 3 (fun x hx => ho _ x (by omega) (by omega) hx), fun k hk => (h4 k hk).rg hz 3 (fun x hx => ho _ x (by omega) (by omega) hx), fun k hk => (h5 k hk).rg hz 3 (fun x hx => ho _ x (by omega) (by omega) hx), hs.mono (fun x hl hx => hx.elim (fun z => z.1.old hz 3) (fun z => Rg.new z hl h.2.2.2.2))⟩, ⟨h.2.1.1.rg hz 3 (fun x hx => ho _ x (by omega) (by omega) hx), h.2.1.2⟩, ⟨h.2.2.1.1.kept (ho _ _ (by omega) (by omega) h.2.2.1.2), h.2.2.1.2.old hz 3⟩, ⟨h.2.2.2.1.1.kept (ho _ _ (by omega) (by omega) h.2.2.2.1.2), h.2.2.2.1.2.old hz 3⟩, Nat.le_trans h.2.2.2.2 hz⟩
end LAWPIC
