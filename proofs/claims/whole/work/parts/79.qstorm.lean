/-! THE PURE SIDE: storms, what holds of them -/
abbrev IS (w : Dt) (C D : Nat) (rk : Nat → Nat) : Prop := ∃ _ : (C ≤ 12), ∃ _ : (w 7 0 = nI C), ∃ _ : (∀ i, i < 12 → chr9 (w 12 i) = w 12 i), ∃ _ : (∀ i, i < 12 → w 13 i = 0 ∨ w 13 i = 1), ∃ _ : (∀ i, i < C → vp_in (w 8 i) 12), ∃ _ : (∀ i, i < C → 0 ≤ (w 9 i).toInt ∧ (w 9 i).toInt < 3600), ∃ _ : (∀ i, i < C → w 13 i = 1 → 10 ≤ (w 10 i).toInt ∧ (w 10 i).toInt ≤ 400), ∃ _ : (∀ i i', i < C → i' < C → w 13 i = 1 → w 13 i' = 1 → w 12 i = w 12 i' → w 12 i ≠ 45 → i = i'), ∃ _ : (∀ i, i < C → w 13 i = 1 → w 14 i = -1), ∃ _ : (∀ i, i < C → w 13 i = 0 → rk i < D ∧ (w 14 i = -1 ∨ ∃ h, h < C ∧ w 14 i = nI h ∧ (w 13 h = 1 ∨ rk i < rk h))), ((D : Int) + sumI (fun i => (w 13 i).toInt) C = C)
theorem IS.hC {w : Dt} {C D : Nat} {rk : Nat → Nat} (h : IS w C D rk) : C ≤ 12 := ex1 h
theorem IS.cC {w : Dt} {C D : Nat} {rk : Nat → Nat} (h : IS w C D rk) : w 7 0 = nI C := ex1 (ex2 h)
theorem IS.ch {w : Dt} {C D : Nat} {rk : Nat → Nat} (h : IS w C D rk) : ∀ i, i < 12 → chr9 (w 12 i) = w 12 i := ex1 (ex2 (ex2 h))
theorem IS.th {w : Dt} {C D : Nat} {rk : Nat → Nat} (h : IS w C D rk) : ∀ i, i < 12 → w 13 i = 0 ∨ w 13 i = 1 := ex1 (ex2 (ex2 (ex2 h)))
theorem IS.be {w : Dt} {C D : Nat} {rk : Nat → Nat} (h : IS w C D rk) : ∀ i, i < C → vp_in (w 8 i) 12 := ex1 (ex2 (ex2 (ex2 (ex2 h))))
theorem IS.lo {w : Dt} {C D : Nat} {rk : Nat → Nat} (h : IS w C D rk) : ∀ i, i < C → 0 ≤ (w 9 i).toInt ∧ (w 9 i).toInt < 3600 := ex1 (ex2 (ex2 (ex2 (ex2 (ex2 h)))))
theorem IS.sz {w : Dt} {C D : Nat} {rk : Nat → Nat} (h : IS w C D rk) : ∀ i, i < C → w 13 i = 1 → 10 ≤ (w 10 i).toInt ∧ (w 10 i).toInt ≤ 400 := ex1 (ex2 (ex2 (ex2 (ex2 (ex2 (ex2 h))))))
theorem IS.na {w : Dt} {C D : Nat} {rk : Nat → Nat} (h : IS w C D rk) : ∀ i i', i < C → i' < C → w 13 i = 1 → w 13 i' = 1 → w 12 i = w 12 i' → w 12 i ≠ 45 → i = i' := ex1 (ex2 (ex2 (ex2 (ex2 (ex2 (ex2 (ex2 h)))))))
theorem IS.h1 {w : Dt} {C D : Nat} {rk : Nat → Nat} (h : IS w C D rk) : ∀ i, i < C → w 13 i = 1 → w 14 i = -1 := ex1 (ex2 (ex2 (ex2 (ex2 (ex2 (ex2 (ex2 (ex2 h))))))))
theorem IS.he {w : Dt} {C D : Nat} {rk : Nat → Nat} (h : IS w C D rk) : ∀ i, i < C → w 13 i = 0 → rk i < D ∧ (w 14 i = -1 ∨ ∃ h, h < C ∧ w 14 i = nI h ∧ (w 13 h = 1 ∨ rk i < rk h)) := ex1 (ex2 (ex2 (ex2 (ex2 (ex2 (ex2 (ex2 (ex2 (ex2 h)))))))))
theorem IS.ct {w : Dt} {C D : Nat} {rk : Nat → Nat} (h : IS w C D rk) : (D : Int) + sumI (fun i => (w 13 i).toInt) C = C := ex2 (ex2 (ex2 (ex2 (ex2 (ex2 (ex2 (ex2 (ex2 (ex2 h)))))))))
theorem IS.cg {w v : Dt} {C D : Nat} {rk : Nat → Nat} (h : IS w C D rk) (hv : ∀ p k, 7 ≤ p → p ≤ 14 → dm p k → v p k = w p k) : IS v C D rk := by
  have hC := h.hC
  have e : ∀ p i, 8 ≤ p → p ≤ 14 → i < 12 → v p i = w p i := fun p i h1 h2 hi => hv p i (by omega) h2 (by unfold dm; omega)
  refine ⟨hC, ?_, fun i hi => ?_, fun i hi => ?_, fun i hi => ?_, fun i hi => ?_, fun i hi => ?_, fun i i' hi hi' => ?_, fun i hi => ?_, fun i hi => ?_, ?_⟩
  · rw [hv 7 0 (by omega) (by omega) (by unfold dm; omega)]
    exact h.cC
  · rw [e 12 i (by omega) (by omega) hi]
    exact h.ch i hi
  · rw [e 13 i (by omega) (by omega) hi]
    exact h.th i hi
  · rw [e 8 i (by omega) (by omega) (by omega)]
    exact h.be i hi
  · rw [e 9 i (by omega) (by omega) (by omega)]
    exact h.lo i hi
  · rw [e 13 i (by omega) (by omega) (by omega), e 10 i (by omega) (by omega) (by omega)]
    exact h.sz i hi
  · rw [e 13 i (by omega) (by omega) (by omega), e 13 i' (by omega) (by omega) (by omega), e 12 i (by omega) (by omega) (by omega), e 12 i' (by omega) (by omega) (by omega)]
    exact h.na i i' hi hi'
  · rw [e 13 i (by omega) (by omega) (by omega), e 14 i (by omega) (by omega) (by omega)]
    exact h.h1 i hi
  · rw [e 13 i (by omega) (by omega) (by omega), e 14 i (by omega) (by omega) (by omega)]
    intro z
    obtain ⟨g1, g2⟩ := h.he i hi z
    refine ⟨g1, g2.imp id fun ⟨x, x1, x2, x3⟩ => ⟨x, x1, x2, ?_⟩⟩
    rw [e 13 x (by omega) (by omega) (by omega)]
    exact x3
  · rw [sumI_cg (g := fun i => (w 13 i).toInt) C (fun k hk => by rw [e 13 k (by omega) (by omega) (by omega)])]
    exact h.ct
theorem IS.cgr {w v : Dt} {C D : Nat} {rk : Nat → Nat} (h : IS w C D rk) (hv : ∀ p, 7 ≤ p → p ≤ 14 → v p = w p) : IS v C D rk := h.cg (fun p k h1 h2 _ => by rw [hv p h1 h2])
/-- a longitude -/
theorem IS.lon {w : Dt} {C D : Nat} {rk : Nat → Nat} (h : IS w C D rk) {i : Nat} {x : Int32} (hx : 0 ≤ x.toInt ∧ x.toInt < 3600) : IS (up2 w 9 i x) C D rk := by
  have hC := h.hC
  have e : ∀ p, p ≠ 9 → up2 w 9 i x p = w p := fun p hp => up2_ne hp
  refine ⟨hC, by rw [e 7 (by omega)]; exact h.cC, by rw [e 12 (by omega)]; exact h.ch, by rw [e 13 (by omega)]; exact h.th, by rw [e 8 (by omega)]; exact h.be, fun k hk => ?_, by rw [e 13 (by omega), e 10 (by omega)]; exact h.sz, by rw [e 13 (by omega), e 12 (by omega)]; exact h.na, by rw [e 13 (by omega), e 14 (by omega)]; exact h.h1, by rw [e 13 (by omega), e 14 (by omega)]; exact h.he, by rw [e 13 (by omega)]; exact h.ct⟩
  by_cases z : k = i
  · subst z
    rw [up2_eq]
    exact hx
  · rw [up2_nk z]
    exact h.lo k hk
theorem IS.age {w : Dt} {C D : Nat} {rk : Nat → Nat} (h : IS w C D rk) {i : Nat} {x : Int32} : IS (up2 w 11 i x) C D rk := by
  have e : ∀ p, p ≠ 11 → up2 w 11 i x p = w p := fun p hp => up2_ne hp
  exact ⟨h.hC, by rw [e 7 (by omega)]; exact h.cC, by rw [e 12 (by omega)]; exact h.ch, by rw [e 13 (by omega)]; exact h.th, by rw [e 8 (by omega)]; exact h.be, by rw [e 9 (by omega)]; exact h.lo, by rw [e 13 (by omega), e 10 (by omega)]; exact h.sz, by rw [e 13 (by omega), e 12 (by omega)]; exact h.na, by rw [e 13 (by omega), e 14 (by omega)]; exact h.h1, by rw [e 13 (by omega), e 14 (by omega)]; exact h.he, by rw [e 13 (by omega)]; exact h.ct⟩
theorem IS.siz {w : Dt} {C D : Nat} {rk : Nat → Nat} (h : IS w C D rk) {i : Nat} {x : Int32} (hx : w 13 i = 1 → 10 ≤ x.toInt ∧ x.toInt ≤ 400) : IS (up2 w 10 i x) C D rk := by
  have e : ∀ p, p ≠ 10 → up2 w 10 i x p = w p := fun p hp => up2_ne hp
  refine ⟨h.hC, by rw [e 7 (by omega)]; exact h.cC, by rw [e 12 (by omega)]; exact h.ch, by rw [e 13 (by omega)]; exact h.th, by rw [e 8 (by omega)]; exact h.be, by rw [e 9 (by omega)]; exact h.lo, fun k hk => ?_, by rw [e 13 (by omega), e 12 (by omega)]; exact h.na, by rw [e 13 (by omega), e 14 (by omega)]; exact h.h1, by rw [e 13 (by omega), e 14 (by omega)]; exact h.he, by rw [e 13 (by omega)]; exact h.ct⟩
  rw [e 13 (by omega)]
  by_cases z : k = i
  · subst z
    rw [up2_eq]
    exact hx
  · rw [up2_nk z]
    exact h.sz k hk
theorem IS.nam {w : Dt} {C D : Nat} {rk : Nat → Nat} (h : IS w C D rk) {i : Nat} {x : Int32} (hx : chr9 x = x) (hu : ∀ k, k < C → w 13 k = 1 → w 12 k = x → x ≠ 45 → k = i) : IS (up2 w 12 i x) C D rk := by
  have e : ∀ p, p ≠ 12 → up2 w 12 i x p = w p := fun p hp => up2_ne hp
  refine ⟨h.hC, by rw [e 7 (by omega)]; exact h.cC, fun k hk => ?_, by rw [e 13 (by omega)]; exact h.th, by rw [e 8 (by omega)]; exact h.be, by rw [e 9 (by omega)]; exact h.lo, by rw [e 13 (by omega), e 10 (by omega)]; exact h.sz, fun k k' hk hk' => ?_, by rw [e 13 (by omega), e 14 (by omega)]; exact h.h1, by rw [e 13 (by omega), e 14 (by omega)]; exact h.he, by rw [e 13 (by omega)]; exact h.ct⟩
  · by_cases z : k = i
    · subst z
      rw [up2_eq]
      exact hx
    · rw [up2_nk z]
      exact h.ch k hk
  · rw [e 13 (by omega)]
    intro t1 t2
    by_cases z : k = i
    · subst z
      by_cases z' : k' = k
      · exact fun _ _ => z'.symm
      · rw [up2_eq, up2_nk z']
        exact fun q1 q2 => (hu k' hk' t2 q1.symm q2).symm
    · by_cases z' : k' = i
      · subst z'
        rw [up2_eq, up2_nk z]
        exact fun q1 q2 => hu k hk t1 q1 (by rw [← q1]; exact q2)
      · rw [up2_nk z, up2_nk z']
        exact h.na k k' hk hk' t1 t2
/-- a storm ends: i lives on in x, or in none -/
theorem IS.end {w : Dt} {C D : Nat} {rk : Nat → Nat} (h : IS w C D rk) {i : Nat} (hi : i < C) (ht : w 13 i = 1) {x : Int32} (hx : x = -1 ∨ ∃ z, z < C ∧ x = nI z ∧ w 13 z = 1 ∧ z ≠ i) : IS (up2 (up2 w 13 i 0) 14 i x) C (D + 1) (fun k => if k = i then D else rk k) := by
  have e : ∀ p, p ≠ 13 → p ≠ 14 → up2 (up2 w 13 i 0) 14 i x p = w p := fun p hp hp' => by rw [up2_ne hp', up2_ne hp]
  have e13 : ∀ k, up2 (up2 w 13 i 0) 14 i x 13 k = if k = i then 0 else w 13 k := fun k => by
    rw [up2_nr (by omega)]
    by_cases z : k = i
    · subst z; rw [up2_eq, if_pos rfl]
    · rw [up2_nk z, if_neg z]
  have e14 : ∀ k, up2 (up2 w 13 i 0) 14 i x 14 k = if k = i then x else w 14 k := fun k => by
    by_cases z : k = i
    · subst z; rw [up2_eq, if_pos rfl]
    · rw [up2_nk z, up2_nr (by omega), if_neg z]
  have hsub : ∀ k, (if k = i then (0 : Int32) else w 13 k) = 1 → k ≠ i ∧ w 13 k = 1 := fun k q => by
    by_cases z : k = i
    · rw [if_pos z] at q
      exact absurd q (by decide)
    · rw [if_neg z] at q
      exact ⟨z, q⟩
  refine ⟨h.hC, by rw [e 7 (by omega) (by omega)]; exact h.cC, by rw [e 12 (by omega) (by omega)]; exact h.ch, fun k hk => ?_, by rw [e 8 (by omega) (by omega)]; exact h.be, by rw [e 9 (by omega) (by omega)]; exact h.lo, fun k hk q => ?_, fun k k' hk hk' q q' => ?_, fun k hk q => ?_, fun k hk q => ?_, ?_⟩
  · rw [e13]
    by_cases z : k = i
    · rw [if_pos z]; exact Or.inl rfl
    · rw [if_neg z]; exact h.th k hk
  · rw [e13] at q
    rw [e 10 (by omega) (by omega)]
    exact h.sz k hk (hsub k q).2
  · rw [e13] at q q'
    rw [e 12 (by omega) (by omega)]
    exact h.na k k' hk hk' (hsub k q).2 (hsub k' q').2
  · rw [e13] at q
    rw [e14, if_neg (hsub k q).1]
    exact h.h1 k hk (hsub k q).2
  · rw [e13] at q
    rw [e14]
    dsimp only
    by_cases z : k = i
    · rw [if_pos z, if_pos z]
      refine ⟨by omega, hx.imp id fun ⟨y, y1, y2, y3, y4⟩ => ⟨y, y1, y2, Or.inl ?_⟩⟩
      rw [e13, if_neg y4]
      exact y3
    · rw [if_neg z] at q
      rw [if_neg z, if_neg z]
      obtain ⟨g1, g2⟩ := h.he k hk q
      refine ⟨by omega, g2.imp id fun ⟨y, y1, y2, y3⟩ => ⟨y, y1, y2, ?_⟩⟩
      rw [e13]
      by_cases zy : y = i
      · rw [if_pos zy, if_pos zy]
        exact Or.inr g1
      · rw [if_neg zy, if_neg zy]
        exact y3
  · rw [sumI_1 (g := fun i => (w 13 i).toInt) (i := i) C hi (fun k hk hn => by rw [e13, if_neg hn])]
    have h2 := h.ct
    rw [e13, if_pos rfl, ht]
    rw [show (0 : Int32).toInt = 0 from rfl, show (1 : Int32).toInt = 1 from rfl]
    omega
def fBg (w : Dt) (b l s : Int32) : Dt :=
  up2 (up2 (up2 (up2 (up2 (up2 (up2 (up2 w 8 (w 7 0).toNatClampNeg b) 9 (w 7 0).toNatClampNeg l) 10 (w 7 0).toNatClampNeg s) 11 (w 7 0).toNatClampNeg 0) 12 (w 7 0).toNatClampNeg 45) 13 (w 7 0).toNatClampNeg 1) 14 (w 7 0).toNatClampNeg (-1)) 7 0 (w 7 0 + 1)
theorem fBg_ne {w : Dt} {b l s : Int32} {p : Nat} (hp : p < 7 ∨ 14 < p) : fBg w b l s p = w p := by
  unfold fBg
  rw [up2_ne (by omega), up2_ne (by omega), up2_ne (by omega), up2_ne (by omega), up2_ne (by omega), up2_ne (by omega), up2_ne (by omega), up2_ne (by omega)]
theorem fBg_at {w : Dt} {b l s : Int32} {C : Nat} (hC : C ≤ 12) (hw : w 7 0 = nI C) : fBg w b l s 7 0 = nI (C + 1) ∧ fBg w b l s 8 C = b ∧ fBg w b l s 9 C = l ∧ fBg w b l s 10 C = s ∧ fBg w b l s 11 C = 0 ∧ fBg w b l s 12 C = 45 ∧ fBg w b l s 13 C = 1 ∧ fBg w b l s 14 C = -1 ∧ ∀ p k, 8 ≤ p → k ≠ C → fBg w b l s p k = w p k := by
  have hc : (w 7 0).toNatClampNeg = C := by rw [hw, nI_cl (by omega)]
  unfold fBg
  rw [hc]
  refine ⟨?_, ?_, ?_, ?_, ?_, ?_, ?_, ?_, fun p k hp hk => ?_⟩
  · rw [up2_eq, hw, nI_succ]
  · rw [up2_nr (by omega), up2_nr (by omega), up2_nr (by omega), up2_nr (by omega), up2_nr (by omega), up2_nr (by omega), up2_nr (by omega), up2_eq]
  · rw [up2_nr (by omega), up2_nr (by omega), up2_nr (by omega), up2_nr (by omega), up2_nr (by omega), up2_nr (by omega), up2_eq]
  · rw [up2_nr (by omega), up2_nr (by omega), up2_nr (by omega), up2_nr (by omega), up2_nr (by omega), up2_eq]
  · rw [up2_nr (by omega), up2_nr (by omega), up2_nr (by omega), up2_nr (by omega), up2_eq]
  · rw [up2_nr (by omega), up2_nr (by omega), up2_nr (by omega), up2_eq]
  · rw [up2_nr (by omega), up2_nr (by omega), up2_eq]
  · rw [up2_nr (by omega), up2_eq]
  · rw [up2_nr (by omega), up2_nk hk, up2_nk hk, up2_nk hk, up2_nk hk, up2_nk hk, up2_nk hk, up2_nk hk]
theorem IS.beg {w : Dt} {C D : Nat} {rk : Nat → Nat} (h : IS w C D rk) (hC : C < 12) {b l s : Int32} (hb : vp_in b 12) (hl : 0 ≤ l.toInt ∧ l.toInt < 3600) (hs : 10 ≤ s.toInt ∧ s.toInt ≤ 400) : IS (fBg w b l s) (C + 1) D rk := by
  obtain ⟨a7, a8, a9, a10, a11, a12, a13, a14, ak⟩ := fBg_at (b := b) (l := l) (s := s) h.hC h.cC
  have cs : ∀ i, i < C + 1 → i = C ∨ (i < C ∧ i ≠ C) := fun i hi => by omega
  refine ⟨by omega, a7, fun i hi => ?_, fun i hi => ?_, fun i hi => ?_, fun i hi => ?_, fun i hi => ?_, fun i i' hi hi' => ?_, fun i hi => ?_, fun i hi => ?_, ?_⟩
  · by_cases z : i = C
    · rw [z, a12]; rfl
    · rw [ak 12 i (by omega) z]; exact h.ch i hi
  · by_cases z : i = C
    · rw [z, a13]; exact Or.inr rfl
    · rw [ak 13 i (by omega) z]; exact h.th i hi
  · rcases cs i hi with z | ⟨z, z'⟩
    · rw [z, a8]; exact hb
    · rw [ak 8 i (by omega) z']; exact h.be i z
  · rcases cs i hi with z | ⟨z, z'⟩
    · rw [z, a9]; exact hl
    · rw [ak 9 i (by omega) z']; exact h.lo i z
  · rcases cs i hi with z | ⟨z, z'⟩
    · rw [z, a10]; exact fun _ => hs
    · rw [ak 13 i (by omega) z', ak 10 i (by omega) z']; exact h.sz i z
  · rcases cs i hi with z | ⟨z, z'⟩
    · rw [z, a12]
      exact fun _ _ _ q => absurd rfl q
    · rcases cs i' hi' with y | ⟨y, y'⟩
      · rw [y, a12]
        exact fun _ _ q q' => absurd q q'
      · rw [ak 13 i (by omega) z', ak 13 i' (by omega) y', ak 12 i (by omega) z', ak 12 i' (by omega) y']
        exact h.na i i' z y
  · rcases cs i hi with z | ⟨z, z'⟩
    · rw [z, a14]; exact fun _ => rfl
    · rw [ak 13 i (by omega) z', ak 14 i (by omega) z']; exact h.h1 i z
  · rcases cs i hi with z | ⟨z, z'⟩
    · rw [z, a13]; exact fun q => absurd q (by decide)
    · rw [ak 13 i (by omega) z', ak 14 i (by omega) z']
      intro q
      obtain ⟨g1, g2⟩ := h.he i z q
      refine ⟨g1, g2.imp id fun ⟨y, y1, y2, y3⟩ => ⟨y, by omega, y2, ?_⟩⟩
      rw [ak 13 y (by omega) (by omega)]
      exact y3
  · show (D : Int) + (sumI (fun i => (fBg w b l s 13 i).toInt) C + (fBg w b l s 13 C).toInt) = ((C + 1 : Nat) : Int)
    rw [sumI_cg (g := fun i => (w 13 i).toInt) C (fun k hk => by rw [ak 13 k (by omega) (by omega)]), a13, show (1 : Int32).toInt = 1 from rfl]
    have := h.ct
    omega
theorem x_begin {post : Int32 → Dt → Prop} {w : Dt} {C : Nat} (hC : C < 12) (hw : w 7 0 = nI C) {b l s : Int32} (h : post (nI C) (fBg w b l s)) : wp_X6_begin post w b l s := by
  refine ⟨fun g => absurd g (by rw [hw]; exact nI_nn' (by omega)), fun _ => ⟨fun _ => ⟨by rw [hw]; exact vp_nI hC (by omega), fun w4 e4 w5 e5 w6 e6 w7 e7 w8 e8 w9 e9 w10 e10 w11 e11 => ?_⟩, fun g => absurd ?_ g⟩⟩
  · have : w11 = fBg w b l s := by
      have e : w10 7 0 = w 7 0 := by rw [e10, e9, e8, e7, e6, e5, e4, up2_nr (by omega), up2_nr (by omega), up2_nr (by omega), up2_nr (by omega), up2_nr (by omega), up2_nr (by omega), up2_nr (by omega)]
      rw [e11, e, e10, e9, e8, e7, e6, e5, e4]
      rfl
    rw [this, hw]
    exact h
  · rw [hw, show (12 : Int32) = nI 12 from rfl, nI_ltl (by omega) (by omega)]
    exact hC
