/-! ROWS for the model's methods over the store -/
theorem isL_of {t : Nat → Nat} {a k : Nat} (hk : t a = k) (h : isL k = true := by rfl) : isL (t a) = true := by rw [hk]; exact h
section MROWS
variable {D : va_G} {tc : Nat → ClassId} {e0 : Nat} {A B : Nat → Prop} {t n : Nat → Nat} {r : Nat → Nat → Nat} {w : Dt} {H H1 : Heap}
theorem SB.at (h : SB D tc e0 A t n r w H) {a k : Nat} {c : Sc} (hk : t a = k) (hc : kcel k 0 (r a) 0 = some c) (hl : isL k = false := by rfl) : va_at D vwCl (a, s_in tc c (w a)) H := ((h.one hk hc hl).1 0 c rfl).1
theorem SB.lat (h : SB D tc e0 A t n r w H) {a : Nat} (hk : isL (t a) = true) : ∃ fs : List Value, va_at D vwCl (a, .inr (3, fs)) H := by
  obtain ⟨E, cap, hO⟩ := h
  exact ⟨_, (hO.1 a _ (isL_cel hk)).1⟩
theorem SB.elt (h : SB D tc e0 A t n r w H) {a k j : Nat} (hk : t a = k) (hj : j < n a) (hl : isL k = true := by rfl) : t (r a j) = ek k := by
  have := h.wtk hk
  exact (isL_wt hl).mp this j hj
theorem SB.oneB (h : SB D tc e0 A t n r w H) {a k : Nat} {c : Sc} (hAB : ∀ x, A x → B x) (hk : t a = k) (hc : kcel k 0 (r a) 0 = some c) (hl : isL k = false := by rfl) : Blk D tc B (S1 c) (fun _ => a) (fun _ => w a) H := (h.one hk hc hl).mono (fun _ _ _ q => hAB _ q)
theorem SB.putB (h : SB D tc e0 A t n r w H) {a k : Nat} {c : Sc} (hk : t a = k) (hc : kcel k 0 (r a) 0 = some c) {j : Nat} {x : Int32} (hb : Blk D tc B (S1 c) (fun _ => a) (up2 (fun _ => w a) 0 j x) H1) (oq : ∀ q, q ≠ a → H1[q]? = H[q]?) (hl : isL k = false := by rfl) : SB D tc e0 A t n r (up2 w a j x) H1 := by
  have hA : A a := (h.lt (a := a) (by rw [hk]; intro e; subst e; cases hc)).2
  refine h.putw hk hc (j := j) (x := x) ⟨fun i d hd => ⟨(hb.1 i d hd).1, ?_⟩, hb.2⟩ oq hl
  exact hA
/-- a cell without links comes to the store -/
theorem SB.newI (h : SB D tc e0 A t n r w H) {q k : Nat} {W : Nat → Int32} {c : Sc} (hA : ¬ A q) (hAB : ∀ x, A x → B x) (hB : B q) (hc : kcel k 0 (r q) 0 = some c) (hat : va_at D vwCl (q, s_in tc c W) H) (hwt : kwt (va_up t q k) k 0 (r q)) (hl : isL k = false := by rfl) : t q = 0 ∧ SB D tc e0 B (va_up t q k) n r (va_up w q W) H := by
  obtain ⟨g1, g2⟩ := h.new hA hAB hB hc hat hwt hl
  rw [up_id] at g2
  exact ⟨g1, g2⟩
theorem SB.regs (h : SB D tc e0 A t n r w H) (hAB : ∀ x, A x → B x) : SB D tc e0 B t n r w H := h.mono fun x _ => hAB x
end MROWS
theorem hn_eq {c n : Int32} (h : (if c = n then (0 : Int32) else 1) = 0) : c = n := Classical.byContradiction fun z => by rw [if_neg z] at h; exact absurd h (by decide)
theorem hn_ne {c n : Int32} (h : ¬ (if c = n then (0 : Int32) else 1) = 0) : ¬ c = n := fun z => h (if_pos z)
theorem em_eq {n : Nat} (h : (if n = 0 then (1 : Int32) else 0) = 0) : ¬ n = 0 := fun z => by rw [if_pos z] at h; exact absurd h (by decide)
theorem em_ne {n : Nat} (h : ¬ (if n = 0 then (1 : Int32) else 0) = 0) : n = 0 := Classical.byContradiction fun z => h (if_neg z)
theorem lt10 {x : Int32} {n : Nat} (h : vp_in x n) : x.toNatClampNeg < n := Nat.not_le.mp fun q => h (Or.inr q)
/-- what is left of the room -/
theorem W_bud {p : Program} {l : Launch} {e : Env} {R : Room} {s : State} {m : MethodId} {args : Array Value} {below : List Frame} {meth : Method} {c : Code} {H : Heap} {locs : List Loc} {cells slots : Nat} {Q : State → Prop} {g : JFrame} {b s1 B S : Nat} (h1 : cells + b ≤ B) (h2 : slots + s1 ≤ S) (kk : ∀ cells slots : Nat, cells + b ≤ B → slots + s1 ≤ S → W p l e R s m args below meth c H locs cells slots Q g) : W p l e R s m args below meth c H locs cells slots Q g := kk _ _ h1 h2
def stW : Nat → Int32 := fun k => if k = 4 then 45 else if k = 6 then -1 else 0
