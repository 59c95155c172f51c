/-! THE PURE SIDE: a probe of the store while it goes on -/
abbrev PM (ow0 n0 : Nat → Nat) (rr0 : Nat → Nat → Nat) (ww0 : Dt) (b p : Nat) (x : Dt) (TK : Nat) (ow t n : Nat → Nat) (rr : Nat → Nat → Nat) (ww : Dt) (f : Nat → Int32) (s : PS) : Prop := ∃ _ : (10000 ≤ b), ∃ _ : (ow p = b + 1), ∃ _ : (ow (rr0 p 8) = b + 2), ∃ _ : (ow (rr0 p 9) = b + 3), ∃ _ : (rr p = rr0 p), ∃ _ : (∀ c, ow c ≠ 0 → t c ≠ 0), ∃ _ : (∀ c, ow0 c ≠ 0 → c ≠ p → c ≠ rr0 p 8 → c ≠ rr0 p 9 → ow c = ow0 c ∧ n c = n0 c ∧ rr c = rr0 c ∧ ww c = ww0 c), ∃ _ : (∀ c, ow c = ow0 c ∨ ow c = 9), ∃ _ : (n (rr0 p 8) = s.1), ∃ _ : (n (rr0 p 9) = s.2.2.1), ∃ _ : (∀ i, i < s.1 → RECR ow ww x TK (s.2.1 i) (rr (rr0 p 8) i)), ∃ _ : (∀ i, i < s.2.2.1 → RECR ow ww x TK (s.2.2.2 i) (rr (rr0 p 9) i)), (ww p = f)
theorem PM.hb {ow0 n0 : Nat → Nat} {rr0 : Nat → Nat → Nat} {ww0 : Dt} {b p : Nat} {x : Dt} {TK : Nat} {ow t n : Nat → Nat} {rr : Nat → Nat → Nat} {ww : Dt} {f : Nat → Int32} {s : PS} (h : PM ow0 n0 rr0 ww0 b p x TK ow t n rr ww f s) : 10000 ≤ b := ex1 h
theorem PM.op {ow0 n0 : Nat → Nat} {rr0 : Nat → Nat → Nat} {ww0 : Dt} {b p : Nat} {x : Dt} {TK : Nat} {ow t n : Nat → Nat} {rr : Nat → Nat → Nat} {ww : Dt} {f : Nat → Int32} {s : PS} (h : PM ow0 n0 rr0 ww0 b p x TK ow t n rr ww f s) : ow p = b + 1 := ex1 (ex2 h)
theorem PM.o8 {ow0 n0 : Nat → Nat} {rr0 : Nat → Nat → Nat} {ww0 : Dt} {b p : Nat} {x : Dt} {TK : Nat} {ow t n : Nat → Nat} {rr : Nat → Nat → Nat} {ww : Dt} {f : Nat → Int32} {s : PS} (h : PM ow0 n0 rr0 ww0 b p x TK ow t n rr ww f s) : ow (rr0 p 8) = b + 2 := ex1 (ex2 (ex2 h))
theorem PM.o9 {ow0 n0 : Nat → Nat} {rr0 : Nat → Nat → Nat} {ww0 : Dt} {b p : Nat} {x : Dt} {TK : Nat} {ow t n : Nat → Nat} {rr : Nat → Nat → Nat} {ww : Dt} {f : Nat → Int32} {s : PS} (h : PM ow0 n0 rr0 ww0 b p x TK ow t n rr ww f s) : ow (rr0 p 9) = b + 3 := ex1 (ex2 (ex2 (ex2 h)))
theorem PM.er {ow0 n0 : Nat → Nat} {rr0 : Nat → Nat → Nat} {ww0 : Dt} {b p : Nat} {x : Dt} {TK : Nat} {ow t n : Nat → Nat} {rr : Nat → Nat → Nat} {ww : Dt} {f : Nat → Int32} {s : PS} (h : PM ow0 n0 rr0 ww0 b p x TK ow t n rr ww f s) : rr p = rr0 p := ex1 (ex2 (ex2 (ex2 (ex2 h))))
theorem PM.fr {ow0 n0 : Nat → Nat} {rr0 : Nat → Nat → Nat} {ww0 : Dt} {b p : Nat} {x : Dt} {TK : Nat} {ow t n : Nat → Nat} {rr : Nat → Nat → Nat} {ww : Dt} {f : Nat → Int32} {s : PS} (h : PM ow0 n0 rr0 ww0 b p x TK ow t n rr ww f s) : ∀ c, ow c ≠ 0 → t c ≠ 0 := ex1 (ex2 (ex2 (ex2 (ex2 (ex2 h)))))
theorem PM.ko {ow0 n0 : Nat → Nat} {rr0 : Nat → Nat → Nat} {ww0 : Dt} {b p : Nat} {x : Dt} {TK : Nat} {ow t n : Nat → Nat} {rr : Nat → Nat → Nat} {ww : Dt} {f : Nat → Int32} {s : PS} (h : PM ow0 n0 rr0 ww0 b p x TK ow t n rr ww f s) : ∀ c, ow0 c ≠ 0 → c ≠ p → c ≠ rr0 p 8 → c ≠ rr0 p 9 → ow c = ow0 c ∧ n c = n0 c ∧ rr c = rr0 c ∧ ww c = ww0 c := ex1 (ex2 (ex2 (ex2 (ex2 (ex2 (ex2 h))))))
theorem PM.nw {ow0 n0 : Nat → Nat} {rr0 : Nat → Nat → Nat} {ww0 : Dt} {b p : Nat} {x : Dt} {TK : Nat} {ow t n : Nat → Nat} {rr : Nat → Nat → Nat} {ww : Dt} {f : Nat → Int32} {s : PS} (h : PM ow0 n0 rr0 ww0 b p x TK ow t n rr ww f s) : ∀ c, ow c = ow0 c ∨ ow c = 9 := ex1 (ex2 (ex2 (ex2 (ex2 (ex2 (ex2 (ex2 h)))))))
theorem PM.nK {ow0 n0 : Nat → Nat} {rr0 : Nat → Nat → Nat} {ww0 : Dt} {b p : Nat} {x : Dt} {TK : Nat} {ow t n : Nat → Nat} {rr : Nat → Nat → Nat} {ww : Dt} {f : Nat → Int32} {s : PS} (h : PM ow0 n0 rr0 ww0 b p x TK ow t n rr ww f s) : n (rr0 p 8) = s.1 := ex1 (ex2 (ex2 (ex2 (ex2 (ex2 (ex2 (ex2 (ex2 h))))))))
theorem PM.nS {ow0 n0 : Nat → Nat} {rr0 : Nat → Nat → Nat} {ww0 : Dt} {b p : Nat} {x : Dt} {TK : Nat} {ow t n : Nat → Nat} {rr : Nat → Nat → Nat} {ww : Dt} {f : Nat → Int32} {s : PS} (h : PM ow0 n0 rr0 ww0 b p x TK ow t n rr ww f s) : n (rr0 p 9) = s.2.2.1 := ex1 (ex2 (ex2 (ex2 (ex2 (ex2 (ex2 (ex2 (ex2 (ex2 h)))))))))
theorem PM.kk {ow0 n0 : Nat → Nat} {rr0 : Nat → Nat → Nat} {ww0 : Dt} {b p : Nat} {x : Dt} {TK : Nat} {ow t n : Nat → Nat} {rr : Nat → Nat → Nat} {ww : Dt} {f : Nat → Int32} {s : PS} (h : PM ow0 n0 rr0 ww0 b p x TK ow t n rr ww f s) : ∀ i, i < s.1 → RECR ow ww x TK (s.2.1 i) (rr (rr0 p 8) i) := ex1 (ex2 (ex2 (ex2 (ex2 (ex2 (ex2 (ex2 (ex2 (ex2 (ex2 h))))))))))
theorem PM.ss {ow0 n0 : Nat → Nat} {rr0 : Nat → Nat → Nat} {ww0 : Dt} {b p : Nat} {x : Dt} {TK : Nat} {ow t n : Nat → Nat} {rr : Nat → Nat → Nat} {ww : Dt} {f : Nat → Int32} {s : PS} (h : PM ow0 n0 rr0 ww0 b p x TK ow t n rr ww f s) : ∀ i, i < s.2.2.1 → RECR ow ww x TK (s.2.2.2 i) (rr (rr0 p 9) i) := ex1 (ex2 (ex2 (ex2 (ex2 (ex2 (ex2 (ex2 (ex2 (ex2 (ex2 (ex2 h)))))))))))
theorem PM.fp {ow0 n0 : Nat → Nat} {rr0 : Nat → Nat → Nat} {ww0 : Dt} {b p : Nat} {x : Dt} {TK : Nat} {ow t n : Nat → Nat} {rr : Nat → Nat → Nat} {ww : Dt} {f : Nat → Int32} {s : PS} (h : PM ow0 n0 rr0 ww0 b p x TK ow t n rr ww f s) : ww p = f := ex2 (ex2 (ex2 (ex2 (ex2 (ex2 (ex2 (ex2 (ex2 (ex2 (ex2 (ex2 h)))))))))))
section PMS
variable {ow0 n0 : Nat → Nat} {rr0 : Nat → Nat → Nat} {ww0 : Dt} {b p : Nat} {x : Dt} {TK : Nat} {ow t n : Nat → Nat} {rr : Nat → Nat → Nat} {ww : Dt} {f : Nat → Int32} {s : PS}
theorem PM.n9 (h : PM ow0 n0 rr0 ww0 b p x TK ow t n rr ww f s) {e : Nat} (he : ow e = 9) : e ≠ p ∧ e ≠ rr0 p 8 ∧ e ≠ rr0 p 9 := by
  have h1 := h.op
  have h2 := h.o8
  have h3 := h.o9
  have h4 := h.hb
  refine ⟨fun z => ?_, fun z => ?_, fun z => ?_⟩ <;> rw [z] at he <;> omega
theorem PM.rec (h : PM ow0 n0 rr0 ww0 b p x TK ow t n rr ww f s) {r e : Nat} (hr : RECR ow ww x TK r e) {ww' : Dt} (hw : ∀ c, c ≠ p → c ≠ rr0 p 8 → c ≠ rr0 p 9 → ww' c = ww c) : RECR ow ww' x TK r e := by
  obtain ⟨z1, z2, z3⟩ := hr
  obtain ⟨a1, a2, a3⟩ := h.n9 z2
  unfold RECR
  rw [hw e a1 a2 a3]
  exact ⟨z1, z2, z3⟩
theorem PM.df (h : PM ow0 n0 rr0 ww0 b p x TK ow t n rr ww f s) : p ≠ rr0 p 8 ∧ p ≠ rr0 p 9 ∧ rr0 p 8 ≠ rr0 p 9 := by
  have h1 := h.op
  have h2 := h.o8
  have h3 := h.o9
  refine ⟨fun z => ?_, fun z => ?_, fun z => ?_⟩
  · rw [← z] at h2; omega
  · rw [← z] at h3; omega
  · rw [z] at h2; omega
theorem PM.set (h : PM ow0 n0 rr0 ww0 b p x TK ow t n rr ww f s) {ww' : Dt} {f' : Nat → Int32} (hw : ∀ c, c ≠ p → c ≠ rr0 p 8 → c ≠ rr0 p 9 → ww' c = ww c) (hf : ww' p = f') : PM ow0 n0 rr0 ww0 b p x TK ow t n rr ww' f' s :=
  ⟨h.hb, h.op, h.o8, h.o9, h.er, h.fr, fun c a1 a2 a3 a4 => by
    obtain ⟨k1, k2, k3, k4⟩ := h.ko c a1 a2 a3 a4
    exact ⟨k1, k2, k3, (hw c a2 a3 a4).trans k4⟩, h.nw, h.nK, h.nS, fun i hi => h.rec (h.kk i hi) hw, fun i hi => h.rec (h.ss i hi) hw, hf⟩
theorem PM.rem (h : PM ow0 n0 rr0 ww0 b p x TK ow t n rr ww f s) {pl : Nat} (hpl : pl < s.1) {n' : Nat → Nat} {rr' : Nat → Nat → Nat} {v : Int32} (en : n' = va_up n (rr0 p 8) (n (rr0 p 8) - 1)) (er : rr' = va_up rr (rr0 p 8) (fun j => if j < pl then rr (rr0 p 8) j else rr (rr0 p 8) (j + 1))) : PM ow0 n0 rr0 ww0 b p x TK ow t n' rr' (up2 ww (rr0 p 8) 0 v) f (s.1 - 1, p_cut pl s.2.1, s.2.2.1, s.2.2.2) := by
  obtain ⟨d1, d2, d3⟩ := h.df
  have hw : ∀ c, c ≠ p → c ≠ rr0 p 8 → c ≠ rr0 p 9 → up2 ww (rr0 p 8) 0 v c = ww c := fun c _ a _ => up2_ne a
  have h' := h.set hw (show up2 ww (rr0 p 8) 0 v p = f by rw [up2_ne d1]; exact h.fp)
  refine ⟨h.hb, h.op, h.o8, h.o9, by rw [er, vup_ne d1]; exact h.er, h.fr, fun c a1 a2 a3 a4 => ?_, h.nw, by rw [en, vup_eq, h.nK], by rw [en, vup_ne (Ne.symm d3)]; exact h.nS, fun i hi => ?_, fun i hi => ?_, h'.fp⟩
  · obtain ⟨k1, k2, k3, k4⟩ := h'.ko c a1 a2 a3 a4
    exact ⟨k1, by rw [en, vup_ne a3]; exact k2, by rw [er, vup_ne a3]; exact k3, k4⟩
  · have hi' : i < s.1 - 1 := hi
    rw [er, vup_eq]
    show RECR _ _ x TK (if i < pl then s.2.1 i else s.2.1 (i + 1)) (if i < pl then rr (rr0 p 8) i else rr (rr0 p 8) (i + 1))
    by_cases z : i < pl
    · rw [if_pos z, if_pos z]
      exact h'.kk i (by omega)
    · rw [if_neg z, if_neg z]
      exact h'.kk (i + 1) (by omega)
  · rw [er, vup_ne (Ne.symm d3)]
    exact h'.ss i hi
theorem PM.addS (h : PM ow0 n0 rr0 ww0 b p x TK ow t n rr ww f s) {e r : Nat} (he : RECR ow ww x TK r e) {n' : Nat → Nat} {rr' : Nat → Nat → Nat} {v : Int32} (en : n' = va_up n (rr0 p 9) (n (rr0 p 9) + 1)) (er : rr' = va_up rr (rr0 p 9) (va_up (rr (rr0 p 9)) (n (rr0 p 9)) e)) : PM ow0 n0 rr0 ww0 b p x TK ow t n' rr' (up2 ww (rr0 p 9) 0 v) f (s.1, s.2.1, s.2.2.1 + 1, fun i => if i = s.2.2.1 then r else s.2.2.2 i) := by
  obtain ⟨d1, d2, d3⟩ := h.df
  have hw : ∀ c, c ≠ p → c ≠ rr0 p 8 → c ≠ rr0 p 9 → up2 ww (rr0 p 9) 0 v c = ww c := fun c _ _ a => up2_ne a
  have h' := h.set hw (show up2 ww (rr0 p 9) 0 v p = f by rw [up2_ne d2]; exact h.fp)
  refine ⟨h.hb, h.op, h.o8, h.o9, by rw [er, vup_ne d2]; exact h.er, h.fr, fun c a1 a2 a3 a4 => ?_, h.nw, by rw [en, vup_ne d3]; exact h.nK, by rw [en, vup_eq, h.nS], fun i hi => ?_, fun i hi => ?_, h'.fp⟩
  · obtain ⟨k1, k2, k3, k4⟩ := h'.ko c a1 a2 a3 a4
    exact ⟨k1, by rw [en, vup_ne a4]; exact k2, by rw [er, vup_ne a4]; exact k3, k4⟩
  · rw [er, vup_ne d3]
    exact h'.kk i hi
  · have hi' : i < s.2.2.1 + 1 := hi
    rw [er, vup_eq, h.nS]
    show RECR _ _ x TK (if i = s.2.2.1 then r else s.2.2.2 i) _
    by_cases z : i = s.2.2.1
    · rw [z, if_pos rfl, vup_eq]
      exact h.rec he hw
    · rw [if_neg z, vup_ne z]
      exact h'.ss i (by omega)
theorem PM.addK (h : PM ow0 n0 rr0 ww0 b p x TK ow t n rr ww f s) {e r : Nat} (te : t e = 0) {t' n' : Nat → Nat} {rr' : Nat → Nat → Nat} {ww' : Dt} (hr : r < TK) (e0 : ww' e 0 = x 1 r) (e1 : ww' e 1 = x 2 r) (e2 : ww' e 2 = x 3 r) (et : t' = va_up t e 23) (en : n' = va_up n (rr0 p 8) (n (rr0 p 8) + 1)) (er : rr' = va_up rr (rr0 p 8) (va_up (rr (rr0 p 8)) (n (rr0 p 8)) e)) (hw : ∀ c, c ≠ rr0 p 8 → c ≠ e → ww' c = ww c) : PM ow0 n0 rr0 ww0 b p x TK (va_up ow e 9) t' n' rr' ww' f (s.1 + 1, fun i => if i = s.1 then r else s.2.1 i, s.2.2.1, s.2.2.2) := by
  obtain ⟨d1, d2, d3⟩ := h.df
  have oe : ow e = 0 := Decidable.byContradiction fun z => h.fr e z te
  have pe : p ≠ e := fun z => by have := h.op; rw [z, oe] at this; omega
  have l8 : rr0 p 8 ≠ e := fun z => by have := h.o8; rw [z, oe] at this; omega
  have l9 : rr0 p 9 ≠ e := fun z => by have := h.o9; rw [z, oe] at this; omega
  have rc : ∀ r' e', RECR ow ww x TK r' e' → RECR (va_up ow e 9) ww' x TK r' e' := fun r' e' hr' => by
    obtain ⟨z1, z2, z3⟩ := hr'
    obtain ⟨a1, a2, a3⟩ := h.n9 z2
    have a4 : e' ≠ e := fun z => by rw [z, oe] at z2; omega
    unfold RECR
    rw [hw e' a2 a4, vup_ne a4]
    exact ⟨z1, z2, z3⟩
  refine ⟨h.hb, by rw [vup_ne pe]; exact h.op, by rw [vup_ne l8]; exact h.o8, by rw [vup_ne l9]; exact h.o9, by rw [er, vup_ne d1]; exact h.er, fun c hc => ?_, fun c a1 a2 a3 a4 => ?_, fun c => ?_, by rw [en, vup_eq, h.nK], by rw [en, vup_ne (Ne.symm d3)]; exact h.nS, fun i hi => ?_, fun i hi => ?_, by rw [hw p d1 pe]; exact h.fp⟩
  · rw [et]
    by_cases z : c = e
    · rw [z, vup_eq]
      decide
    · rw [vup_ne z]
      rw [vup_ne z] at hc
      exact h.fr c hc
  · obtain ⟨k1, k2, k3, k4⟩ := h.ko c a1 a2 a3 a4
    have ce : c ≠ e := fun z => by rw [z, oe] at k1; exact a1 (by rw [z]; exact k1.symm)
    exact ⟨by rw [vup_ne ce]; exact k1, by rw [en, vup_ne a3]; exact k2, by rw [er, vup_ne a3]; exact k3, (hw c a3 ce).trans k4⟩
  · by_cases z : c = e
    · rw [z, vup_eq]
      exact Or.inr rfl
    · rw [vup_ne z]
      exact h.nw c
  · have hi' : i < s.1 + 1 := hi
    rw [er, vup_eq, h.nK]
    show RECR _ _ x TK (if i = s.1 then r else s.2.1 i) _
    by_cases z : i = s.1
    · rw [z, if_pos rfl, vup_eq]
      exact ⟨hr, vup_eq _ _ _, e0, e1, e2⟩
    · rw [if_neg z, vup_ne z]
      exact rc _ _ (h.kk i (by omega))
  · rw [er, vup_ne (Ne.symm d3)]
    exact rc _ _ (h.ss i hi)
end PMS
section PMV
variable {ow0 n0 : Nat → Nat} {rr0 : Nat → Nat → Nat} {ww0 : Dt} {b p : Nat} {x : Dt} {TK : Nat} {ow t : Nat → Nat} {f : Nat → Int32}
theorem m_moves {post : Int32 → (Nat → Nat) → (Nat → Nat) → (Nat → Nat → Nat) → Dt → Prop} {v22 : Int32} (old : Bool) (ho : old = decide (¬ f 3 = 0)) (hf : ¬ f 1 < f 4) : ∀ (d i : Nat) (s : PS) (n : Nat → Nat) (rr : Nat → Nat → Nat) (ww : Dt) (B S : Nat), i + d ≤ 3 → s.1 ≤ 6 → s.1 + s.2.2.1 ≤ 19 → f 2 = nI (i + d) → d ≤ B → 60 * d ≤ S → PM ow0 n0 rr0 ww0 b p x TK ow t n rr ww f s →
    (∀ (n' : Nat → Nat) (rr' : Nat → Nat → Nat) (ww' : Dt) (B' S' : Nat), PM ow0 n0 rr0 ww0 b p x TK ow t n' rr' ww' f (p_tra old d s) → wp_X13_tick_274 post p v22 t n' rr' ww' B' S') → wp_X13_tick_192 post (d + 1) p v22 (nI i) t n rr ww B S
  | 0, i, s, n, rr, ww, B, S, _, _, _, h2, _, _, hm, hp => by
    have e2 : ww p 2 = nI (i + 0) := by rw [hm.fp]; exact h2
    exact ⟨fun _ => hp n rr ww B S hm, fun g => absurd (by rw [e2]; exact Int32.le_refl _) g⟩
  | d + 1, i, s, n, rr, ww, B, S, hi, hK, hS, h2, hB, hSl, hm, hp => by
    obtain ⟨d1, d2, d3⟩ := hm.df
    have e2 : ww p 2 = nI (i + (d + 1)) := by rw [hm.fp]; exact h2
    refine ⟨fun g => absurd g (by rw [e2, nI_le2 (by omega) (by omega)]; omega), fun _ => ⟨fun g => absurd g (by rw [hm.fp]; exact hf), fun _ => ⟨fun g => ?_, fun g => ?_⟩⟩⟩
    · rw [hm.er, hm.nK] at g
      have := hp n rr ww B S
      unfold p_tra at this
      rw [if_pos g] at this
      exact this hm
    · rw [hm.er, hm.nK] at g
      have step : ∀ pl, pl < s.1 → pl = (if old then 0 else s.1 - 1) → wp_X13_tick_254 post (fun a0 a1 a2 a3 a4 a5 a6 a7 a8 => wp_X13_tick_192 post (d + 1) a0 a1 a2 a3 a4 a5 a6 a7 a8) p v22 (nI i) (nI pl) (rr0 p 8) (rr0 p 9) t n rr ww B S := fun pl hpl epl => by
        have cp : (nI pl).toNatClampNeg = pl := nI_cl (by omega)
        refine ⟨by rw [hm.nK]; exact vp_nI hpl (by omega), fun n65 e65 r66 e66 w67 e67 => ?_⟩
        rw [cp] at e66
        have hm1 := hm.rem (v := ww (rr0 p 8) 0 + 1) hpl e65 e66
        rw [← e67] at hm1
        have hrec := hm.kk pl hpl
        have hn9 : n65 (rr0 p 9) = s.2.2.1 := hm1.nS
        rw [hn9, cp]
        refine ⟨by omega, by omega, by omega, fun n71 e71 r72 e72 w73 e73 => ?_⟩
        have hrec1 : RECR ow w67 x TK (s.2.1 pl) (rr (rr0 p 8) pl) := hm.rec hrec (fun c _ a _ => by rw [e67, up2_ne a])
        have hm2 := hm1.addS (v := w67 (rr0 p 9) 0 + 1) (n' := n71) (rr' := r72) hrec1 (by rw [e71, hn9]) (by rw [e72, hn9])
        rw [← e73] at hm2
        rw [← nI_succ]
        refine m_moves old ho hf d (i + 1) (p_mov pl s) n71 r72 w73 (B - 1) _ (by omega) (show s.1 - 1 ≤ 6 by omega) (show s.1 - 1 + (s.2.2.1 + 1) ≤ 19 by omega) (by rw [h2, show i + 1 + d = i + (d + 1) by omega]) (by omega) (by omega) hm2 (fun n' rr' ww' B' S' h' => hp n' rr' ww' B' S' ?_)
        unfold p_tra
        rw [if_neg g, ← epl]
        exact h'
      rw [hm.er]
      refine ⟨fun g3 => ?_, fun g3 => ?_⟩
      · have eo : old = false := by rw [ho, decide_eq_false]; rw [hm.fp] at g3; exact fun z => z g3
        have := step (s.1 - 1) (by omega) (by rw [eo]; rfl)
        rw [hm.nK]
        obtain ⟨m, hmm⟩ : ∃ m, s.1 = m + 1 := ⟨s.1 - 1, by omega⟩
        rw [hmm, Nat.add_sub_cancel] at this
        rw [hmm, nI_succ, q_r1]
        exact this
      · have eo : old = true := by rw [ho, decide_eq_true]; rw [hm.fp] at g3; exact g3
        exact step 0 (by omega) (by rw [eo]; rfl)
end PMV
