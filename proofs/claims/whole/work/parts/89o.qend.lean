/-! THE PURE SIDE: ticks -/
theorem q_par : ∀ m : Fin 20, (nI m.val - nI m.val / 2 * 2 = 0) = (m.val % 2 = 0) := by decide +kernel
theorem TKR.lv {w x x' : Dt} {tk lvl : Nat} {s : PS} (h : TKR w x x' tk lvl s) (hl : lvl ≤ 9) (h1 : tk ≤ 2 * lvl + 1) (h2 : lvl = 9 → tk ≤ 18) : ∃ lvl' : Nat, x' 0 4 = nI lvl' ∧ lvl' ≤ 9 ∧ (x' 0 6 = 0 ∨ x' 0 6 = 1) ∧ (x' 0 6 = 0 → tk + 1 ≤ 2 * lvl' + 1 ∧ (lvl' = 9 → tk + 1 ≤ 18)) := by
  by_cases d : 9 ≤ lvl ∨ ¬ w 2 lvl ≤ 600
  · obtain ⟨a, b⟩ := h.de d
    exact ⟨lvl, b, hl, Or.inr a, fun z => absurd (a.symm.trans z) (by decide)⟩
  · obtain ⟨a, b, c⟩ := h.al d
    have hl8 : ¬ 9 ≤ lvl := fun z => d (Or.inl z)
    by_cases g : x 0 0 ≤ nI lvl ∨ nI (tk + 1) - nI (tk + 1) / 2 * 2 = 0
    · exact ⟨lvl + 1, b g, by omega, Or.inl a, fun _ => ⟨by omega, fun _ => by omega⟩⟩
    · refine ⟨lvl, c g, hl, Or.inl a, fun _ => ⟨?_, fun z => by omega⟩⟩
      have g2 : ¬ nI (tk + 1) - nI (tk + 1) / 2 * 2 = 0 := fun z => g (Or.inr z)
      have hp := q_par ⟨tk + 1, by omega⟩
      dsimp only at hp
      rw [hp] at g2
      omega
section PMT
variable {ow0 n0 : Nat → Nat} {rr0 : Nat → Nat → Nat} {ww0 : Dt} {b p : Nat} {x : Dt} {TK : Nat} {ow t n : Nat → Nat} {rr : Nat → Nat → Nat} {ww : Dt} {f : Nat → Int32} {s : PS}
theorem m_end {post : Int32 → (Nat → Nat) → (Nat → Nat) → (Nat → Nat → Nat) → Dt → Prop} {v22 y6 y4 : Int32} {lvl : Nat} {B S : Nat} (h : PM ow0 n0 rr0 ww0 b p x TK ow t n rr ww f s) (h5 : f 5 = nI lvl) (hl : lvl ≤ 9) (de : (9 ≤ lvl ∨ ¬ v22 ≤ 600) → y6 = 1 ∧ y4 = nI lvl) (al : ¬ (9 ≤ lvl ∨ ¬ v22 ≤ 600) → y6 = 0 ∧ ((f 0 ≤ nI lvl ∨ f 4 - f 4 / 2 * 2 = 0) → y4 = nI (lvl + 1)) ∧ (¬ (f 0 ≤ nI lvl ∨ f 4 - f 4 / 2 * 2 = 0) → y4 = nI lvl))
    (hp : ∀ ww', PM ow0 n0 rr0 ww0 b p x TK ow t n rr ww' (va_up (va_up f 6 y6) 5 y4) s → post (if y6 = 0 then y4 else -1) t n rr ww') : wp_X13_tick_274 post p v22 t n rr ww B S := by
  have fin : ∀ (z0 : Int32) (w49 : Dt), w49 = up2 ww p 6 y6 → w49 p 5 + z0 = y4 → wp_X13_tick_337 post p z0 (w49 p 5) p t n rr w49 B S := fun z0 w49 e49 e4 w51 e51 => by
    have hpm : PM ow0 n0 rr0 ww0 b p x TK ow t n rr w51 (va_up (va_up f 6 y6) 5 y4) s := h.set (fun c a _ _ => by rw [e51, up2_ne a, e49, up2_ne a]) (by
      funext k
      rw [e51]
      by_cases z : k = 5
      · rw [z, up2_eq, vup_eq, e4]
      · rw [up2_nk z, vup_ne z, e49]
        by_cases z6 : k = 6
        · rw [z6, up2_eq, vup_eq]
        · rw [up2_nk z6, vup_ne z6, h.fp])
    have a6 : w51 p 6 = y6 := by rw [hpm.fp, vup_ne (by omega), vup_eq]
    have a5 : w51 p 5 = y4 := by rw [hpm.fp, vup_eq]
    have this := hp w51 hpm
    rw [a6]
    refine ⟨fun g => ?_, fun g => ?_⟩
    · rw [if_pos g] at this
      rw [a5]
      exact this
    · rw [if_neg g] at this
      exact this
  have p5 : ∀ w49, w49 = up2 ww p 6 y6 → w49 p 5 = nI lvl := fun w49 e => by rw [e, up2_nk (by omega), h.fp]; exact h5
  have p6 : ∀ w49, w49 = up2 ww p 6 y6 → w49 p 6 = y6 := fun w49 e => by rw [e, up2_eq]
  have p0 : ∀ w49, w49 = up2 ww p 6 y6 → w49 p 0 = f 0 ∧ w49 p 4 = f 4 := fun w49 e => ⟨by rw [e, up2_nk (by omega), h.fp], by rw [e, up2_nk (by omega), h.fp]⟩
  have dead : (9 ≤ lvl ∨ ¬ v22 ≤ 600) → wp_X13_tick_292 post p p t n rr ww B S := fun d => by
    obtain ⟨a, b'⟩ := de d
    refine ⟨rfl, rfl, fun w49 e49 => ?_⟩
    have e49' : w49 = up2 ww p 6 y6 := by rw [a]; exact e49
    have q6 := p6 w49 e49'
    refine ⟨fun _ => fin 0 w49 e49' (by rw [p5 w49 e49', b']; exact Int32.add_zero _), fun g => absurd g (by rw [q6, a]; decide)⟩
  have g9 : ww p 5 = 9 ↔ 9 ≤ lvl := by
    rw [h.fp, h5]
    refine ⟨fun z => ?_, fun z => ?_⟩
    · have := nI_inj (by omega) (by omega) (show nI lvl = nI 9 from z)
      omega
    · rw [show lvl = 9 by omega]
      rfl
  rw [wp_X13_tick_274]
  rw [g9]
  refine ⟨fun g => dead (Or.inl g), fun g => ⟨fun g2 => ?_, fun g2 => dead (Or.inr g2)⟩⟩
  have nd : ¬ (9 ≤ lvl ∨ ¬ v22 ≤ 600) := fun z => z.elim g (fun z => z g2)
  obtain ⟨a, c1, c2⟩ := al nd
  refine ⟨rfl, rfl, fun w49 e49 => ?_⟩
  have e49' : w49 = up2 ww p 6 y6 := by rw [a]; exact e49
  have q6 := p6 w49 e49'
  obtain ⟨q0, q4⟩ := p0 w49 e49'
  have q5 := p5 w49 e49'
  have go : (f 0 ≤ nI lvl ∨ f 4 - f 4 / 2 * 2 = 0) → wp_X13_tick_332 post p (w49 p 5) p t n rr w49 B S := fun z => fin 1 w49 e49' (by rw [q5, c1 z, nI_succ])
  have stay : ¬ (f 0 ≤ nI lvl ∨ f 4 - f 4 / 2 * 2 = 0) → wp_X13_tick_336 post p (w49 p 5) p t n rr w49 B S := fun z => fin 0 w49 e49' (by rw [q5, c2 z]; exact Int32.add_zero _)
  refine ⟨fun g => absurd (q6.trans a) g, fun _ => ⟨fun z => go (Or.inl (by rw [← q0, ← q5]; exact z)), fun z => ⟨fun z2 => stay (fun y => ?_), fun z2 => go (Or.inr (by rw [← q4]; exact z2))⟩⟩⟩
  rcases y with y | y
  · exact z (by rw [q0, q5]; exact y)
  · exact z2 (by rw [q4]; exact y)
theorem m_tail {post : Int32 → (Nat → Nat) → (Nat → Nat) → (Nat → Nat → Nat) → Dt → Prop} {v22 y6 y4 : Int32} {lvl d : Nat} {B S : Nat} (h : PM ow0 n0 rr0 ww0 b p x TK ow t n rr ww f s) (h2 : f 2 = nI d) (hd : d ≤ 3) (hK : s.1 ≤ 6) (hS : s.1 + s.2.2.1 ≤ 19) (hB : 3 ≤ B ∧ 180 ≤ S) (h5 : f 5 = nI lvl) (hl : lvl ≤ 9) (de : (9 ≤ lvl ∨ ¬ v22 ≤ 600) → y6 = 1 ∧ y4 = nI lvl) (al : ¬ (9 ≤ lvl ∨ ¬ v22 ≤ 600) → y6 = 0 ∧ ((f 0 ≤ nI lvl ∨ f 4 - f 4 / 2 * 2 = 0) → y4 = nI (lvl + 1)) ∧ (¬ (f 0 ≤ nI lvl ∨ f 4 - f 4 / 2 * 2 = 0) → y4 = nI lvl))
    (hp : ∀ n' rr' ww', PM ow0 n0 rr0 ww0 b p x TK ow t n' rr' ww' (va_up (va_up f 6 y6) 5 y4) (if f 1 < f 4 then s else p_tra (decide (¬ f 3 = 0)) d s) → post (if y6 = 0 then y4 else -1) t n' rr' ww') : wp_X13_tick_189 post p v22 t n rr ww B S := by
  by_cases g : f 1 < f 4
  · rw [if_pos g] at hp
    have e := m_end (post := post) (B := B) (S := S) h h5 hl de al (fun ww' hw => hp n rr ww' hw)
    exact ⟨1, fun _ => e, fun _ => ⟨fun _ => e, fun z => absurd (by rw [h.fp]; exact g) z⟩⟩
  · rw [if_neg g] at hp
    refine ⟨d + 1, ?_⟩
    rw [show (0 : Int32) = nI 0 from rfl]
    exact m_moves (decide (¬ f 3 = 0)) rfl g d 0 s n rr ww B S (by omega) hK hS (by rw [Nat.zero_add]; exact h2) (by omega) (by omega) h (fun n' rr' ww' B' S' h' => m_end h' h5 hl de al (fun ww2 hw => hp n' rr' ww2 hw))
end PMT
