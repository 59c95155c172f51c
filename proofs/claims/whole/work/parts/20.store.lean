/-! THE STORE of the model: kinds t, lengths n, references r, ints w, by address; the rows of lists are hidden -/
def isL (k : Nat) : Bool := k == 8 || k == 9 || k == 10 || k == 11 || k == 12 || k == 15
def ek (k : Nat) : Nat := match k with
  | 8 => 3 | 9 => 23 | 10 => 4 | 11 => 5 | 12 => 6 | 15 => 24 | _ => 0
def lcel (n E : Nat) : Sc := .inl (3, [none, some (.ref E), some (.int (nI n))])
def kcel (k n : Nat) (r : Nat → Nat) (E : Nat) : Option Sc := match k with
  | 1 => some (.inr (0, 10, none))
  | 2 => some (.inr (5, 10, some (.inr (.inr (.inr (.inr (fun j => if j < 10 then some (r j) else none)))))))
  | 3 => some (.inl (15, [none, none, none, none, none, none, none]))
  | 4 => some (.inl (16, [some (.ref (r 0)), some (.ref (r 1)), some (.ref (r 2)), none, none, some (.ref (r 5)), none, none, some (.ref (r 8)), some (.ref (r 9)), some (.ref (r 10)), none]))
  | 5 => some (.inl (14, [none, none, none, none, none, none, none, none, some (.ref (r 8)), some (.ref (r 9))]))
  | 6 => some (.inl (13, [none, some (.ref (r 1))]))
  | 7 => some (.inl (17, [none, some (.ref (r 1)), some (.ref (r 2)), some (.ref (r 3)), some (.ref (r 4))]))
  | 8 => some (lcel n E) | 9 => some (lcel n E) | 10 => some (lcel n E) | 11 => some (lcel n E) | 12 => some (lcel n E) | 15 => some (lcel n E)
  | 22 => some (.inr (0, 12, none))
  | 23 => some (.inr (0, 3, none))
  | 24 => some (.inr (0, 2, none))
  | _ => none
/-- the links are of the right kinds -/
def kwt (t : Nat → Nat) (k n : Nat) (r : Nat → Nat) : Prop := match k with
  | 2 => ∀ j, j < 10 → t (r j) = 23
  | 4 => t (r 0) = 1 ∧ t (r 1) = 2 ∧ t (r 2) = 2 ∧ t (r 5) = 22 ∧ t (r 8) = 8 ∧ t (r 9) = 9 ∧ t (r 10) = 15
  | 5 => t (r 8) = 9 ∧ t (r 9) = 9
  | 6 => t (r 1) = 8
  | 7 => t (r 1) = 4 ∧ t (r 2) = 10 ∧ t (r 3) = 11 ∧ t (r 4) = 12
  | 8 => ∀ j, j < n → t (r j) = 3
  | 9 => ∀ j, j < n → t (r j) = 23
  | 10 => ∀ j, j < n → t (r j) = 4
  | 11 => ∀ j, j < n → t (r j) = 5
  | 12 => ∀ j, j < n → t (r j) = 6
  | 15 => ∀ j, j < n → t (r j) = 24
  | _ => True
/-- a row of references behind a list -/
def hrow (c : ClassId) (cap n : Nat) (r : Nat → Nat) : va_E := .inl (c, cap, .inr (.inr (.inr (.inr (fun j => if j < n then some (r j) else none)))))
def SO (D : va_G) (tc : Nat → ClassId) (e0 : Nat) (A : Nat → Prop) (E cap : Nat → Nat) (t n : Nat → Nat) (r : Nat → Nat → Nat) (w : Dt) (H : Heap) : Prop :=
  (∀ (a : Nat) (c : Sc), kcel (t a) (n a) (r a) (E a) = some c → va_at D vwCl (a, s_in tc c (w a)) H ∧ A a) ∧
  (∀ a : Nat, isL (t a) = true → n a ≤ cap a ∧ cap a ≤ 1000 ∧ (cap a = 0 → E a = e0) ∧ (0 < cap a → va_at D vwCl (E a, hrow (tc 9) (cap a) (n a) (r a)) H ∧ A (E a) ∧ t (E a) = 0)) ∧
  (∀ a b : Nat, isL (t a) = true → isL (t b) = true → 0 < cap a → 0 < cap b → E a = E b → a = b) ∧
  (∀ a : Nat, t a ≠ 0 → ∃ c : Sc, kcel (t a) (n a) (r a) (E a) = some c) ∧ ∀ a : Nat, kwt t (t a) (n a) (r a)
def SB (D : va_G) (tc : Nat → ClassId) (e0 : Nat) (A : Nat → Prop) (t n : Nat → Nat) (r : Nat → Nat → Nat) (w : Dt) (H : Heap) : Prop := ∃ E cap : Nat → Nat, SO D tc e0 A E cap t n r w H
/-- kinds stay -/
def Ext (t t' : Nat → Nat) : Prop := ∀ a : Nat, t a ≠ 0 → t' a = t a
theorem Ext.rf {t : Nat → Nat} : Ext t t := fun _ _ => rfl
theorem Ext.trans {t t1 t2 : Nat → Nat} (h : Ext t t1) (g : Ext t1 t2) : Ext t t2 := fun a ha => by
  rw [g a (by rw [h a ha]; exact ha), h a ha]
theorem Ext.up {t : Nat → Nat} {q k : Nat} (h : t q = 0) : Ext t (va_up t q k) := fun a ha => va_up_ne _ _ (fun e => ha (by rw [e]; exact h))
theorem Ext.to {t t' : Nat → Nat} {a k : Nat} (h : Ext t t') (hk : t a = k) (h0 : k ≠ 0 := by decide) : t' a = k := by rw [h a (by rw [hk]; exact h0), hk]
theorem isL_ne {k : Nat} (h : isL k = true) : k ≠ 0 := fun e => by subst e; cases h
theorem isL_cel {k n E : Nat} {r : Nat → Nat} (h : isL k = true) : kcel k n r E = some (lcel n E) := by
  simp only [isL, Bool.or_eq_true, beq_iff_eq] at h
  rcases h with ((((h | h) | h) | h) | h) | h <;> subst h <;> rfl
theorem isL_wt {t : Nat → Nat} {k n : Nat} {r : Nat → Nat} (h : isL k = true) : kwt t k n r ↔ ∀ j, j < n → t (r j) = ek k := by
  simp only [isL, Bool.or_eq_true, beq_iff_eq] at h
  rcases h with ((((h | h) | h) | h) | h) | h <;> subst h <;> rfl
theorem ek_ne {k : Nat} (h : isL k = true) : ek k ≠ 0 := by
  simp only [isL, Bool.or_eq_true, beq_iff_eq] at h
  rcases h with ((((h | h) | h) | h) | h) | h <;> subst h <;> decide
/-- what isn't a list rests on no hidden row -/
theorem kcel_E {k n n' E E' : Nat} {r : Nat → Nat} (h : isL k = false) : kcel k n r E = kcel k n' r E' := by
  unfold kcel
  split <;> first | rfl | (exfalso; revert h; decide)
theorem kwt_ext {t t' : Nat → Nat} {k n : Nat} {r : Nat → Nat} (hx : Ext t t') (h : kwt t k n r) : kwt t' k n r := by
  revert h
  unfold kwt
  split <;> intro h
  all_goals first
    | trivial
    | exact fun j hj => hx.to (h j hj)
    | exact ⟨hx.to h.1, hx.to h.2.1, hx.to h.2.2.1, hx.to h.2.2.2.1, hx.to h.2.2.2.2.1, hx.to h.2.2.2.2.2.1, hx.to h.2.2.2.2.2.2⟩
    | exact ⟨hx.to h.1, hx.to h.2.1, hx.to h.2.2.1, hx.to h.2.2.2⟩
    | exact ⟨hx.to h.1, hx.to h.2⟩
    | exact hx.to h
section STORE
variable {D : va_G} {tc : Nat → ClassId} {e0 : Nat} {A B : Nat → Prop} {E cap : Nat → Nat} {t n : Nat → Nat} {r : Nat → Nat → Nat} {w : Dt} {H H1 : Heap}
theorem SO.lt (h : SO D tc e0 A E cap t n r w H) {a : Nat} (ha : t a ≠ 0) : a < H.size ∧ A a := by
  obtain ⟨c, hc⟩ := h.2.2.2.1 a ha
  exact ⟨(h.1 a c hc).1.lt, (h.1 a c hc).2⟩
theorem SO.kept (h : SO D tc e0 A E cap t n r w H) (hq : ∀ q, q < H.size → A q → H1[q]? = H[q]?) : SO D tc e0 A E cap t n r w H1 := by
  refine ⟨fun a c hc => ⟨(h.1 a c hc).1.kept (hq _ (h.1 a c hc).1.lt (h.1 a c hc).2), (h.1 a c hc).2⟩, fun a ha => ?_, h.2.2⟩
  obtain ⟨h1, h2, h3, h4⟩ := h.2.1 a ha
  exact ⟨h1, h2, h3, fun hc => ⟨(h4 hc).1.kept (hq _ (h4 hc).1.lt (h4 hc).2.1), (h4 hc).2⟩⟩
theorem SB.kept (h : SB D tc e0 A t n r w H) (hq : ∀ q, q < H.size → A q → H1[q]? = H[q]?) : SB D tc e0 A t n r w H1 := h.imp fun _ h => h.imp fun _ h => h.kept hq
theorem SB.kept1 (h : SB D tc e0 A t n r w H) {a : Nat} (oq : ∀ q, q ≠ a → H1[q]? = H[q]?) (ha : ¬ A a) : SB D tc e0 A t n r w H1 := h.kept fun q _ hA => oq q fun e => ha (e ▸ hA)
theorem SB.lt (h : SB D tc e0 A t n r w H) {a : Nat} (ha : t a ≠ 0) : a < H.size ∧ A a := by
  obtain ⟨E, cap, h⟩ := h
  exact h.lt ha
/-- another region -/
theorem SO.mono (h : SO D tc e0 A E cap t n r w H) (hAB : ∀ q, q < H.size → A q → B q) : SO D tc e0 B E cap t n r w H := by
  refine ⟨fun a c hc => ⟨(h.1 a c hc).1, hAB _ (h.1 a c hc).1.lt (h.1 a c hc).2⟩, fun a ha => ?_, h.2.2⟩
  obtain ⟨h1, h2, h3, h4⟩ := h.2.1 a ha
  exact ⟨h1, h2, h3, fun hc => ⟨(h4 hc).1, hAB _ (h4 hc).1.lt (h4 hc).2.1, (h4 hc).2.2⟩⟩
theorem SB.mono (h : SB D tc e0 A t n r w H) (hAB : ∀ q, q < H.size → A q → B q) : SB D tc e0 B t n r w H := h.imp fun _ h => h.imp fun _ h => h.mono hAB
def S1 (c : Sc) : Sh := fun i => if i = 0 then some c else none
/-- one cell as a block -/
theorem blk1 {c : Sc} {a : Nat} {W : Nat → Int32} (h : va_at D vwCl (a, s_in tc c W) H) (hA : A a) : Blk D tc A (S1 c) (fun _ => a) (fun _ => W) H := by
  refine ⟨fun i c' hc => ?_, fun i j c' d hi hj _ => ?_⟩
  · unfold S1 at hc
    split at hc
    · cases hc
      exact ⟨h, hA⟩
    · cases hc
  · by_cases hi0 : i = 0
    · by_cases hj0 : j = 0
      · rw [hi0, hj0]
      · simp [S1, hj0] at hj
    · simp [S1, hi0] at hi
theorem SO.one (h : SO D tc e0 A E cap t n r w H) {a : Nat} {c : Sc} (hc : kcel (t a) (n a) (r a) (E a) = some c) : Blk D tc A (S1 c) (fun _ => a) (fun _ => w a) H := blk1 (h.1 a c hc).1 (h.1 a c hc).2
theorem SB.one (h : SB D tc e0 A t n r w H) {a k : Nat} {c : Sc} (hk : t a = k) (hc : kcel k 0 (r a) 0 = some c) (hl : isL k = false := by rfl) : Blk D tc A (S1 c) (fun _ => a) (fun _ => w a) H := by
  obtain ⟨E, cap, h⟩ := h
  refine h.one ?_
  rw [hk, ← hc]
  exact kcel_E hl
theorem SB.wt (h : SB D tc e0 A t n r w H) (a : Nat) : kwt t (t a) (n a) (r a) := by
  obtain ⟨E, cap, h⟩ := h
  exact h.2.2.2.2 a
theorem SB.wtk (h : SB D tc e0 A t n r w H) {a k : Nat} (hk : t a = k) : kwt t k (n a) (r a) := hk ▸ h.wt a
/-- ints of a cell written -/
theorem SO.putw (h : SO D tc e0 A E cap t n r w H) {a : Nat} {c : Sc} (hc : kcel (t a) (n a) (r a) (E a) = some c) {w' : Dt} (hb : va_at D vwCl (a, s_in tc c (w' a)) H1) (hw : ∀ b, b ≠ a → w' b = w b) (oq : ∀ q, q ≠ a → H1[q]? = H[q]?) : SO D tc e0 A E cap t n r w' H1 := by
  have hta : t a ≠ 0 := fun e => by rw [e] at hc; cases hc
  refine ⟨fun b d hd => ?_, fun b hbL => ?_, h.2.2⟩
  · by_cases e : b = a
    · subst e
      cases hc.symm.trans hd
      exact ⟨hb, (h.1 b c hc).2⟩
    · rw [hw b e]
      exact ⟨(h.1 b d hd).1.kept (oq _ e), (h.1 b d hd).2⟩
  · obtain ⟨h1, h2, h3, h4⟩ := h.2.1 b hbL
    exact ⟨h1, h2, h3, fun hp => ⟨(h4 hp).1.kept (oq _ fun e => hta (by rw [← e]; exact (h4 hp).2.2)), (h4 hp).2⟩⟩
theorem SB.putw (h : SB D tc e0 A t n r w H) {a k : Nat} {c : Sc} (hk : t a = k) (hc : kcel k 0 (r a) 0 = some c) {j : Nat} {x : Int32} (hb : Blk D tc A (S1 c) (fun _ => a) (up2 (fun _ => w a) 0 j x) H1) (oq : ∀ q, q ≠ a → H1[q]? = H[q]?) (hl : isL k = false := by rfl) : SB D tc e0 A t n r (up2 w a j x) H1 := by
  obtain ⟨E, cap, h⟩ := h
  refine ⟨E, cap, h.putw (c := c) ?_ ?_ (fun b hb => up2_ne hb) oq⟩
  · rw [hk, ← hc]
    exact kcel_E hl
  · have := (hb.1 0 c rfl).1
    rw [up2_row] at this ⊢
    exact this
/-- a cell with all its ints written -/
theorem SB.putr (h : SB D tc e0 A t n r w H) {a k : Nat} {c : Sc} (hk : t a = k) (hc : kcel k 0 (r a) 0 = some c) {W : Nat → Int32} (hb : va_at D vwCl (a, s_in tc c W) H1) (oq : ∀ q, q ≠ a → H1[q]? = H[q]?) (hl : isL k = false := by rfl) : SB D tc e0 A t n r (va_up w a W) H1 := by
  obtain ⟨E, cap, h⟩ := h
  refine ⟨E, cap, h.putw (c := c) ?_ ?_ (fun b hb => va_up_ne _ _ hb) oq⟩
  · rw [hk, ← hc]
    exact kcel_E hl
  · rw [va_up_self]
    exact hb
/-- a cell that comes to the store -/
theorem SB.new (h : SB D tc e0 A t n r w H) {q k : Nat} {R : Nat → Nat} {W : Nat → Int32} {c : Sc} (hA : ¬ A q) (hAB : ∀ x, A x → B x) (hB : B q) (hc : kcel k 0 R 0 = some c) (hat : va_at D vwCl (q, s_in tc c W) H) (hwt : kwt (va_up t q k) k 0 R) (hl : isL k = false := by rfl) : t q = 0 ∧ SB D tc e0 B (va_up t q k) n (va_up r q R) (va_up w q W) H := by
  have hq0 : t q = 0 := Classical.byContradiction fun e => hA (h.lt e).2
  have hx : Ext t (va_up t q k) := Ext.up hq0
  refine ⟨hq0, ?_⟩
  obtain ⟨E, cap, h⟩ := h
  refine ⟨E, cap, fun a d hd => ?_, fun a ha => ?_, fun a b ha hb => ?_, fun a ha => ?_, fun a => ?_⟩
  · by_cases e : a = q
    · subst e
      rw [va_up_self, va_up_self, kcel_E hl (n' := 0) (E' := 0), hc] at hd
      cases hd
      rw [va_up_self]
      exact ⟨hat, hB⟩
    · rw [va_up_ne _ _ e, va_up_ne _ _ e] at hd
      rw [va_up_ne _ _ e]
      exact ⟨(h.1 a d hd).1, hAB _ (h.1 a d hd).2⟩
  · by_cases e : a = q
    · subst e
      rw [va_up_self, hl] at ha
      cases ha
    · rw [va_up_ne _ _ e] at ha
      obtain ⟨h1, h2, h3, h4⟩ := h.2.1 a ha
      rw [va_up_ne _ _ e]
      refine ⟨h1, h2, h3, fun hp => ⟨(h4 hp).1, hAB _ (h4 hp).2.1, ?_⟩⟩
      rw [va_up_ne _ _ (fun e' : E a = q => hA (e' ▸ (h4 hp).2.1))]
      exact (h4 hp).2.2
  · by_cases e : a = q
    · subst e
      rw [va_up_self, hl] at ha
      cases ha
    · by_cases e' : b = q
      · subst e'
        rw [va_up_self, hl] at hb
        cases hb
      · rw [va_up_ne _ _ e] at ha
        rw [va_up_ne _ _ e'] at hb
        exact h.2.2.1 a b ha hb
  · by_cases e : a = q
    · subst e
      rw [va_up_self, va_up_self]
      exact ⟨c, by rw [kcel_E hl (n' := 0) (E' := 0), hc]⟩
    · rw [va_up_ne _ _ e] at ha
      rw [va_up_ne _ _ e, va_up_ne _ _ e]
      exact h.2.2.2.1 a ha
  · by_cases e : a = q
    · subst e
      rw [va_up_self, va_up_self]
      revert hwt hl
      unfold kwt
      split <;> intro g1 g2 <;> first | exact g1 | exact g2 | exact absurd g1 (fun z => by cases z) | exact absurd g2 (fun z => by cases z)
    · rw [va_up_ne _ _ e, va_up_ne _ _ e]
      exact kwt_ext hx (h.2.2.2.2 a)
/-- an empty list that comes to the store -/
theorem SB.newL (h : SB D tc e0 A t n r w H) {q k : Nat} (hl : isL k = true) (hA : ¬ A q) (hAB : ∀ x, A x → B x) (hB : B q) (hat : va_at D vwCl (q, .inr (3, [.int 0, .ref e0, .int 0])) H) : t q = 0 ∧ SB D tc e0 B (va_up t q k) (va_up n q 0) r (va_up w q (fun _ => 0)) H := by
  have hq0 : t q = 0 := Classical.byContradiction fun e => hA (h.lt e).2
  have hx : Ext t (va_up t q k) := Ext.up hq0
  refine ⟨hq0, ?_⟩
  obtain ⟨E, cap, h⟩ := h
  refine ⟨va_up E q e0, va_up cap q 0, fun a d hd => ?_, fun a ha => ?_, fun a b ha hb h0 h1 => ?_, fun a ha => ?_, fun a => ?_⟩
  · by_cases e : a = q
    · subst e
      rw [va_up_self, va_up_self, va_up_self, isL_cel hl] at hd
      cases hd
      rw [va_up_self]
      exact ⟨hat, hB⟩
    · rw [va_up_ne _ _ e, va_up_ne _ _ e, va_up_ne _ _ e] at hd
      rw [va_up_ne _ _ e]
      exact ⟨(h.1 a d hd).1, hAB _ (h.1 a d hd).2⟩
  · by_cases e : a = q
    · subst e
      rw [va_up_self, va_up_self, va_up_self]
      exact ⟨Nat.le_refl 0, Nat.zero_le _, fun _ => rfl, fun z => absurd z (Nat.lt_irrefl 0)⟩
    · rw [va_up_ne _ _ e] at ha
      obtain ⟨h1, h2, h3, h4⟩ := h.2.1 a ha
      rw [va_up_ne _ _ e, va_up_ne _ _ e, va_up_ne _ _ e]
      refine ⟨h1, h2, h3, fun hp => ⟨(h4 hp).1, hAB _ (h4 hp).2.1, ?_⟩⟩
      rw [va_up_ne _ _ (fun e' : E a = q => hA (e' ▸ (h4 hp).2.1))]
      exact (h4 hp).2.2
  · by_cases e : a = q
    · subst e
      rw [va_up_self] at h0
      exact absurd h0 (Nat.lt_irrefl 0)
    · by_cases e' : b = q
      · subst e'
        rw [va_up_self] at h1
        exact absurd h1 (Nat.lt_irrefl 0)
      · rw [va_up_ne _ _ e] at ha h0
        rw [va_up_ne _ _ e'] at hb h1
        rw [va_up_ne _ _ e, va_up_ne _ _ e']
        exact h.2.2.1 a b ha hb h0 h1
  · by_cases e : a = q
    · subst e
      rw [va_up_self, va_up_self, va_up_self]
      exact ⟨_, isL_cel hl⟩
    · rw [va_up_ne _ _ e] at ha
      rw [va_up_ne _ _ e, va_up_ne _ _ e, va_up_ne _ _ e]
      exact h.2.2.2.1 a ha
  · by_cases e : a = q
    · subst e
      rw [va_up_self, va_up_self, isL_wt hl]
      exact fun j hj => absurd hj (Nat.not_lt_zero _)
    · rw [va_up_ne _ _ e, va_up_ne _ _ e]
      exact kwt_ext hx (h.2.2.2.2 a)
end STORE
