/-! THE PURE SIDE: a new world, and copies, in the model -/
def upF (f : Nat → Nat) (v : Nat → Nat) : Nat → (Nat → Nat) → Nat → Nat
  | 0, t => t
  | j + 1, t => va_up (upF f v j t) (f j) (v j)
theorem upF_ne {f v : Nat → Nat} {x : Nat} {t : Nat → Nat} : ∀ {m : Nat}, (∀ j, j < m → f j ≠ x) → upF f v m t x = t x
  | 0, _ => rfl
  | m + 1, h => by
    show va_up (upF f v m t) (f m) (v m) x = t x
    rw [vup_ne (Ne.symm (h m (by omega))), upF_ne (fun j hj => h j (by omega))]
theorem upF_at {f v : Nat → Nat} {t : Nat → Nat} : ∀ {m : Nat} (_ : ∀ i j, i < m → j < m → f i = f j → i = j) {j : Nat}, j < m → upF f v m t (f j) = v j
  | 0, _, _, hj => absurd hj (by omega)
  | m + 1, h, j, hj => by
    show va_up (upF f v m t) (f m) (v m) (f j) = v j
    by_cases z : j = m
    · subst z
      rw [vup_eq]
    · rw [vup_ne (fun q => z (h j m hj (by omega) q)), upF_at (fun i k a b => h i k (by omega) (by omega)) (by omega)]
def zw : Dt := fun p k => if p = 1 ∧ k = 3 then 2 else 0
set_option maxHeartbeats 4000000 in
/-- a new world -/
theorem new_w {ow t n : Nat → Nat} {rr : Nat → Nat → Nat} {ww : Dt} {q : Nat} {t' n' : Nat → Nat} {rr' : Nat → Nat → Nat} {ww' : Dt} (hf : ∀ c, ow c ≠ 0 → t c ≠ 0) {b : Nat} (hb : 1000 ≤ b) (hN : NEW4 t n rr ww q t' n' rr' ww') : ∃ ow', GK ow n rr ww b q ow' t' n' rr' ww' zw ∧ ∀ c, ow c ≠ 0 → ow' c = ow c ∧ n' c = n c ∧ rr' c = rr c ∧ ww' c = ww c := by
  obtain ⟨q0, q1, q2, q5, q8, q9, q10, f1, f2, h0, h1, hfj, h2, h3, h4, h5, h6, hi1, hi2, hz, et, en, er, ew⟩ := hN
  have hlt : ∀ c, ow c ≠ 0 → c < q := fun c hc => Nat.not_le.mp fun z => hf c hc (hz c z)
  have g1 : ∀ x, (x ≤ q1 ∨ q2 ≤ x) → ∀ j, j < 10 → f1 j ≠ x := fun x hx j hj => by have := hfj j hj; omega
  have g2 : ∀ x, (x ≤ q2 ∨ q5 ≤ x) → ∀ j, j < 10 → f2 j ≠ x := fun x hx j hj => by have := hfj j hj; omega
  have g12 : ∀ k, k < 10 → ∀ j, j < 10 → f2 j ≠ f1 k := fun k hk j hj => by have := hfj j hj; have := hfj k hk; omega
  -- the owners
  have hO : ∃ ow' : Nat → Nat, ow' q = b + 1 ∧ ow' q0 = b + 2 ∧ ow' q1 = b + 3 ∧ ow' q2 = b + 4 ∧ ow' q5 = b + 5 ∧ ow' q8 = b + 6 ∧ ow' q9 = b + 7 ∧ ow' q10 = b + 8 ∧ (∀ k, k < 10 → ow' (f1 k) = b + 80 + k) ∧ (∀ k, k < 10 → ow' (f2 k) = b + 90 + k) ∧ (∀ c, c < q → ow' c = ow c) ∧ ∀ c, ow' c ≠ 0 → c < q ∨ c = q ∨ c = q0 ∨ c = q1 ∨ c = q2 ∨ c = q5 ∨ c = q8 ∨ c = q9 ∨ c = q10 ∨ (∃ k, k < 10 ∧ c = f1 k) ∨ (∃ k, k < 10 ∧ c = f2 k) := by
    refine ⟨va_up (va_up (va_up (va_up (va_up (va_up (va_up (va_up (upF f2 (fun k => b + 90 + k) 10 (upF f1 (fun k => b + 80 + k) 10 ow)) q0 (b + 2)) q1 (b + 3)) q2 (b + 4)) q5 (b + 5)) q8 (b + 6)) q9 (b + 7)) q10 (b + 8)) q (b + 1), ?_, ?_, ?_, ?_, ?_, ?_, ?_, ?_, fun k hk => ?_, fun k hk => ?_, fun c hc => ?_, fun c hc => ?_⟩
    · rw [vup_eq]
    · rw [vup_ne (by omega), vup_ne (by omega), vup_ne (by omega), vup_ne (by omega), vup_ne (by omega), vup_ne (by omega), vup_ne (by omega), vup_eq]
    · rw [vup_ne (by omega), vup_ne (by omega), vup_ne (by omega), vup_ne (by omega), vup_ne (by omega), vup_ne (by omega), vup_eq]
    · rw [vup_ne (by omega), vup_ne (by omega), vup_ne (by omega), vup_ne (by omega), vup_ne (by omega), vup_eq]
    · rw [vup_ne (by omega), vup_ne (by omega), vup_ne (by omega), vup_ne (by omega), vup_eq]
    · rw [vup_ne (by omega), vup_ne (by omega), vup_ne (by omega), vup_eq]
    · rw [vup_ne (by omega), vup_ne (by omega), vup_eq]
    · rw [vup_ne (by omega), vup_eq]
    · have := hfj k hk
      rw [vup_ne (by omega), vup_ne (by omega), vup_ne (by omega), vup_ne (by omega), vup_ne (by omega), vup_ne (by omega), vup_ne (by omega), vup_ne (by omega), upF_ne (g12 k hk), upF_at hi1 hk]
    · have := hfj k hk
      rw [vup_ne (by omega), vup_ne (by omega), vup_ne (by omega), vup_ne (by omega), vup_ne (by omega), vup_ne (by omega), vup_ne (by omega), vup_ne (by omega), upF_at hi2 hk]
    · rw [vup_ne (by omega), vup_ne (by omega), vup_ne (by omega), vup_ne (by omega), vup_ne (by omega), vup_ne (by omega), vup_ne (by omega), vup_ne (by omega), upF_ne (g2 c (by omega)), upF_ne (g1 c (by omega))]
    · by_cases z : c < q ∨ c = q ∨ c = q0 ∨ c = q1 ∨ c = q2 ∨ c = q5 ∨ c = q8 ∨ c = q9 ∨ c = q10
      · omega
      · by_cases z1 : ∃ k, k < 10 ∧ c = f1 k
        · exact Or.inr (Or.inr (Or.inr (Or.inr (Or.inr (Or.inr (Or.inr (Or.inr (Or.inr (Or.inl z1)))))))))
        · by_cases z2 : ∃ k, k < 10 ∧ c = f2 k
          · exact Or.inr (Or.inr (Or.inr (Or.inr (Or.inr (Or.inr (Or.inr (Or.inr (Or.inr (Or.inr z2)))))))))
          · exfalso
            rw [vup_ne (by omega), vup_ne (by omega), vup_ne (by omega), vup_ne (by omega), vup_ne (by omega), vup_ne (by omega), vup_ne (by omega), vup_ne (by omega), upF_ne (fun j hj e => z2 ⟨j, hj, e.symm⟩), upF_ne (fun j hj e => z1 ⟨j, hj, e.symm⟩)] at hc
            have := hlt c hc
            omega
  obtain ⟨ow', o, o0, o1, o2, o5, o8, o9, o10, of1, of2, oold, onew⟩ := hO
  -- the store
  have tq : ∀ c, c < q → t' c = t c ∧ n' c = n c ∧ rr' c = rr c ∧ ww' c = ww c := fun c hc => by
    refine ⟨?_, ?_, ?_, ?_⟩
    · rw [et, vup_ne (by omega), vup_ne (by omega), vup_ne (by omega), vup_ne (by omega), vup_ne (by omega), vup_ne (by omega), ups_ne (g2 c (by omega)), vup_ne (by omega), ups_ne (g1 c (by omega)), vup_ne (by omega)]
    · rw [en, vup_ne (by omega), vup_ne (by omega), vup_ne (by omega)]
    · rw [er, vup_ne (by omega), vup_ne (by omega), vup_ne (by omega)]
    · rw [ew, vup_ne (by omega), vup_ne (by omega), vup_ne (by omega), vup_ne (by omega), vup_ne (by omega), vup_ne (by omega), ups_ne (g2 c (by omega)), vup_ne (by omega), ups_ne (g1 c (by omega)), vup_ne (by omega)]
  have rq : rr' q = wR q0 q1 q2 q5 q8 q9 q10 := by rw [er, vup_eq]
  have r1 : rr' q1 = f1 := by rw [er, vup_ne (by omega), vup_ne (by omega), vup_eq]
  have r2 : rr' q2 = f2 := by rw [er, vup_ne (by omega), vup_eq]
  have n8 : n' q8 = 0 := by rw [en, vup_ne (by omega), vup_ne (by omega), vup_eq]
  have n9 : n' q9 = 0 := by rw [en, vup_ne (by omega), vup_eq]
  have n10 : n' q10 = 0 := by rw [en, vup_eq]
  have e0 : rr' q 0 = q0 := by rw [rq]; rfl
  have e1 : rr' q 1 = q1 := by rw [rq]; rfl
  have e2 : rr' q 2 = q2 := by rw [rq]; rfl
  have e5 : rr' q 5 = q5 := by rw [rq]; rfl
  have e8 : rr' q 8 = q8 := by rw [rq]; rfl
  have e9 : rr' q 9 = q9 := by rw [rq]; rfl
  have e10 : rr' q 10 = q10 := by rw [rq]; rfl
  have wq : ww' q = wW := by rw [ew, vup_eq]
  have w0 : ww' q0 = fun _ => 0 := by rw [ew, vup_ne (by omega), vup_ne (by omega), vup_ne (by omega), vup_ne (by omega), vup_ne (by omega), vup_ne (by omega), ups_ne (g2 q0 (by omega)), vup_ne (by omega), ups_ne (g1 q0 (by omega)), vup_eq]
  have w5 : ww' q5 = fun _ => 0 := by rw [ew, vup_ne (by omega), vup_ne (by omega), vup_ne (by omega), vup_ne (by omega), vup_eq]
  have wf1 : ∀ k, k < 10 → ww' (f1 k) = fun _ => 0 := fun k hk => by
    have := hfj k hk
    rw [ew, vup_ne (by omega), vup_ne (by omega), vup_ne (by omega), vup_ne (by omega), vup_ne (by omega), vup_ne (by omega), ups_ne (g12 k hk), vup_ne (by omega), ups_at hk]
  have wf2 : ∀ k, k < 10 → ww' (f2 k) = fun _ => 0 := fun k hk => by
    have := hfj k hk
    rw [ew, vup_ne (by omega), vup_ne (by omega), vup_ne (by omega), vup_ne (by omega), vup_ne (by omega), vup_ne (by omega), ups_at hk]
  refine ⟨ow', ⟨hb, ?_, fun c hc => ?_, fun c hc _ => ?_, fun c => ?_⟩, fun c hc => ?_⟩
  · refine ⟨o, by rw [e0, o0], by rw [e1, o1], by rw [e2, o2], by rw [e5, o5], by rw [e8, o8], by rw [e9, o9], by rw [e10, o10], fun k hk => by rw [e1, r1, of1 k hk], fun k hk => by rw [e2, r2, of2 k hk], fun k hk => by rw [e8, n8] at hk; omega, fun k hk => by rw [e9, n9] at hk; omega, fun k hk => by rw [e10, n10] at hk; omega, by rw [e8, n8]; omega, by rw [e9, n9]; omega, by rw [e10, n10]; omega, by rw [e8, n8]; rfl, by rw [e9, n9]; rfl, by rw [e10, n10]; rfl, fun p k hl => ?_, fun k hk => by rw [e8, n8] at hk; omega, fun k hk => by rw [e8, n8] at hk; omega⟩
    rw [e8, e9, e10, n8, n9, n10] at hl
    rcases hl with ⟨rfl, rfl⟩ | ⟨rfl, z⟩ | ⟨rfl, z⟩ | ⟨rfl, z⟩ | ⟨rfl, z⟩ | ⟨z1, z2, z3, z4⟩ | ⟨z1, z2, z3⟩ | ⟨z1, z2, z3⟩ | ⟨z1, z2, z3⟩
    · rw [gx_n (by omega), show RA rr' q 0 5 = q from rfl, wq]
      rfl
    · rw [gx_n (by omega), show RA rr' q 1 k = q from rfl, wq]
      rcases z with rfl | rfl <;> rfl
    · rw [gx_n (by omega), show RA rr' q 2 k = rr' q 0 from rfl, e0, w0]
      rfl
    · rw [gx_n (by omega), show RA rr' q 5 k = q from rfl, wq]
      rcases z with rfl | rfl <;> rfl
    · rw [gx_n (by omega), show RA rr' q 6 k = rr' q 5 from rfl, e5, w5]
      rfl
    · omega
    · omega
    · omega
    · rw [gx_n (by omega)]
      have hz : zw p k = 0 := if_neg (by omega)
      rw [hz]
      by_cases hv : p < 32
      · obtain ⟨m, rfl⟩ : ∃ m, p = m + 22 := ⟨p - 22, by omega⟩
        rw [RA_v (by omega), e1, r1, wf1 m (by omega)]
      · obtain ⟨m, rfl⟩ : ∃ m, p = m + 32 := ⟨p - 32, by omega⟩
        rw [RA_i, e2, r2, wf2 m (by omega)]
  · rcases onew c hc with z | z
    · rw [(tq c z).1]
      rw [oold c z] at hc
      exact hf c hc
    · have : t' c ≠ 0 := by
        rcases z with rfl | rfl | rfl | rfl | rfl | rfl | rfl | rfl | ⟨k, hk, rfl⟩ | ⟨k, hk, rfl⟩
        · rw [et, vup_eq]; decide
        · rw [et, vup_ne (by omega), vup_ne (by omega), vup_ne (by omega), vup_ne (by omega), vup_ne (by omega), vup_ne (by omega), ups_ne (g2 _ (by omega)), vup_ne (by omega), ups_ne (g1 _ (by omega)), vup_eq]; decide
        · rw [et, vup_ne (by omega), vup_ne (by omega), vup_ne (by omega), vup_ne (by omega), vup_ne (by omega), vup_ne (by omega), ups_ne (g2 _ (by omega)), vup_eq]; decide
        · rw [et, vup_ne (by omega), vup_ne (by omega), vup_ne (by omega), vup_ne (by omega), vup_ne (by omega), vup_eq]; decide
        · rw [et, vup_ne (by omega), vup_ne (by omega), vup_ne (by omega), vup_ne (by omega), vup_eq]; decide
        · rw [et, vup_ne (by omega), vup_ne (by omega), vup_ne (by omega), vup_eq]; decide
        · rw [et, vup_ne (by omega), vup_ne (by omega), vup_eq]; decide
        · rw [et, vup_ne (by omega), vup_eq]; decide
        · have := hfj k hk
          rw [et, vup_ne (by omega), vup_ne (by omega), vup_ne (by omega), vup_ne (by omega), vup_ne (by omega), vup_ne (by omega), ups_ne (g12 k hk), vup_ne (by omega), ups_at hk]; decide
        · have := hfj k hk
          rw [et, vup_ne (by omega), vup_ne (by omega), vup_ne (by omega), vup_ne (by omega), vup_ne (by omega), vup_ne (by omega), ups_at hk]; decide
      exact this
  · have := hlt c hc
    obtain ⟨-, a2, a3, a4⟩ := tq c this
    exact ⟨oold c this, a2, a3, a4⟩
  · by_cases hc : ow' c = 0
    · refine Or.inl ?_
      rw [hc]
      refine Decidable.byContradiction fun z => ?_
      have := oold c (hlt c (Ne.symm z))
      exact z (by rw [← this, hc])
    rcases onew c hc with z | z
    · exact Or.inl (oold c z)
    · refine Or.inr (Or.inr ?_)
      rcases z with rfl | rfl | rfl | rfl | rfl | rfl | rfl | rfl | ⟨k, hk, rfl⟩ | ⟨k, hk, rfl⟩
      · omega
      · omega
      · omega
      · omega
      · omega
      · omega
      · omega
      · omega
      · rw [of1 k hk]; omega
      · rw [of2 k hk]; omega
  · have := hlt c hc
    obtain ⟨-, a2, a3, a4⟩ := tq c this
    exact ⟨oold c this, a2, a3, a4⟩
