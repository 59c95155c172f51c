/-! THE PURE SIDE: the relation -/
/-- a frame -/
abbrev FRR (ow n : Nat → Nat) (rr : Nat → Nat → Nat) (ww : Dt) (b f : Nat) (x : Dt) (T : Int) : Prop := ∃ _ : (ow f = b + 1), ∃ _ : (ow (rr f 1) = b + 2), ∃ _ : (n (rr f 1) ≤ 12), ∃ _ : (x 0 1 = nI (n (rr f 1))), ∃ _ : (x 0 0 = ww f 0), ∃ _ : (0 ≤ (x 0 0).toInt ∧ (x 0 0).toInt ≤ T), ∃ _ : (∀ k, k < n (rr f 1) → ow (rr (rr f 1) k) = 9), ∃ _ : (∀ k, k < n (rr f 1) → x 1 k = ww (rr (rr f 1) k) 4), ∃ _ : (∀ k, k < n (rr f 1) → x 2 k = ww (rr (rr f 1) k) 1 ∧ 0 ≤ (x 2 k).toInt ∧ (x 2 k).toInt < 3600), (∀ i i', i < n (rr f 1) → i' < n (rr f 1) → x 1 i = x 1 i' → x 1 i ≠ 45 → i = i')
theorem FRR.of {ow n : Nat → Nat} {rr : Nat → Nat → Nat} {ww : Dt} {b f : Nat} {x : Dt} {T : Int} (h : FRR ow n rr ww b f x T) : ow f = b + 1 := ex1 h
theorem FRR.o1 {ow n : Nat → Nat} {rr : Nat → Nat → Nat} {ww : Dt} {b f : Nat} {x : Dt} {T : Int} (h : FRR ow n rr ww b f x T) : ow (rr f 1) = b + 2 := ex1 (ex2 h)
theorem FRR.nK {ow n : Nat → Nat} {rr : Nat → Nat → Nat} {ww : Dt} {b f : Nat} {x : Dt} {T : Int} (h : FRR ow n rr ww b f x T) : n (rr f 1) ≤ 12 := ex1 (ex2 (ex2 h))
theorem FRR.cK {ow n : Nat → Nat} {rr : Nat → Nat → Nat} {ww : Dt} {b f : Nat} {x : Dt} {T : Int} (h : FRR ow n rr ww b f x T) : x 0 1 = nI (n (rr f 1)) := ex1 (ex2 (ex2 (ex2 h)))
theorem FRR.tk {ow n : Nat → Nat} {rr : Nat → Nat → Nat} {ww : Dt} {b f : Nat} {x : Dt} {T : Int} (h : FRR ow n rr ww b f x T) : x 0 0 = ww f 0 := ex1 (ex2 (ex2 (ex2 (ex2 h))))
theorem FRR.tr {ow n : Nat → Nat} {rr : Nat → Nat → Nat} {ww : Dt} {b f : Nat} {x : Dt} {T : Int} (h : FRR ow n rr ww b f x T) : 0 ≤ (x 0 0).toInt ∧ (x 0 0).toInt ≤ T := ex1 (ex2 (ex2 (ex2 (ex2 (ex2 h)))))
theorem FRR.os {ow n : Nat → Nat} {rr : Nat → Nat → Nat} {ww : Dt} {b f : Nat} {x : Dt} {T : Int} (h : FRR ow n rr ww b f x T) : ∀ k, k < n (rr f 1) → ow (rr (rr f 1) k) = 9 := ex1 (ex2 (ex2 (ex2 (ex2 (ex2 (ex2 h))))))
theorem FRR.nm {ow n : Nat → Nat} {rr : Nat → Nat → Nat} {ww : Dt} {b f : Nat} {x : Dt} {T : Int} (h : FRR ow n rr ww b f x T) : ∀ k, k < n (rr f 1) → x 1 k = ww (rr (rr f 1) k) 4 := ex1 (ex2 (ex2 (ex2 (ex2 (ex2 (ex2 (ex2 h)))))))
theorem FRR.pl {ow n : Nat → Nat} {rr : Nat → Nat → Nat} {ww : Dt} {b f : Nat} {x : Dt} {T : Int} (h : FRR ow n rr ww b f x T) : ∀ k, k < n (rr f 1) → x 2 k = ww (rr (rr f 1) k) 1 ∧ 0 ≤ (x 2 k).toInt ∧ (x 2 k).toInt < 3600 := ex1 (ex2 (ex2 (ex2 (ex2 (ex2 (ex2 (ex2 (ex2 h))))))))
theorem FRR.un {ow n : Nat → Nat} {rr : Nat → Nat → Nat} {ww : Dt} {b f : Nat} {x : Dt} {T : Int} (h : FRR ow n rr ww b f x T) : ∀ i i', i < n (rr f 1) → i' < n (rr f 1) → x 1 i = x 1 i' → x 1 i ≠ 45 → i = i' := ex2 (ex2 (ex2 (ex2 (ex2 (ex2 (ex2 (ex2 (ex2 h))))))))
def RECR (ow : Nat → Nat) (ww : Dt) (x : Dt) (tk r e : Nat) : Prop := r < tk ∧ ow e = 9 ∧ ww e 0 = x 1 r ∧ ww e 1 = x 2 r ∧ ww e 2 = x 3 r
/-- a probe: tk ticks, level lv -/
abbrev PRR (ow n : Nat → Nat) (rr : Nat → Nat → Nat) (ww : Dt) (b p : Nat) (x : Dt) (tk lvl : Nat) : Prop := ∃ _ : (ow p = b + 1), ∃ _ : (ow (rr p 8) = b + 2), ∃ _ : (ow (rr p 9) = b + 3), ∃ _ : (x 0 0 = ww p 0), ∃ _ : (x 0 1 = ww p 1), ∃ _ : (x 0 2 = ww p 2), ∃ _ : (x 0 3 = ww p 3), ∃ _ : (x 0 4 = ww p 5), ∃ _ : (x 0 5 = ww p 4), ∃ _ : (x 0 6 = ww p 6), ∃ _ : (x 0 14 = ww p 7), ∃ _ : (n (rr p 8) ≤ 6), ∃ _ : (x 0 11 = nI (n (rr p 8))), ∃ _ : (x 0 13 = nI (n (rr p 9))), ∃ _ : (∀ i, i < n (rr p 8) → ∃ r, x 4 i = nI r ∧ RECR ow ww x tk r (rr (rr p 8) i)), ∃ _ : (∀ i, i < n (rr p 9) → ∃ r, x 5 i = nI r ∧ RECR ow ww x tk r (rr (rr p 9) i)), ∃ _ : (x 0 5 = nI tk), ∃ _ : (x 0 4 = nI lvl), ∃ _ : (tk ≤ 19 ∧ lvl ≤ 9 ∧ n (rr p 8) + n (rr p 9) ≤ tk), ∃ _ : (x 0 6 = 0 ∨ x 0 6 = 1), ∃ _ : (x 0 6 = 0 → tk ≤ 2 * lvl + 1 ∧ (lvl = 9 → tk ≤ 18)), (1 ≤ (x 0 2).toInt ∧ (x 0 2).toInt ≤ 3)
theorem PRR.op {ow n : Nat → Nat} {rr : Nat → Nat → Nat} {ww : Dt} {b p : Nat} {x : Dt} {tk lvl : Nat} (h : PRR ow n rr ww b p x tk lvl) : ow p = b + 1 := ex1 h
theorem PRR.o8 {ow n : Nat → Nat} {rr : Nat → Nat → Nat} {ww : Dt} {b p : Nat} {x : Dt} {tk lvl : Nat} (h : PRR ow n rr ww b p x tk lvl) : ow (rr p 8) = b + 2 := ex1 (ex2 h)
theorem PRR.o9 {ow n : Nat → Nat} {rr : Nat → Nat → Nat} {ww : Dt} {b p : Nat} {x : Dt} {tk lvl : Nat} (h : PRR ow n rr ww b p x tk lvl) : ow (rr p 9) = b + 3 := ex1 (ex2 (ex2 h))
theorem PRR.c0 {ow n : Nat → Nat} {rr : Nat → Nat → Nat} {ww : Dt} {b p : Nat} {x : Dt} {tk lvl : Nat} (h : PRR ow n rr ww b p x tk lvl) : x 0 0 = ww p 0 := ex1 (ex2 (ex2 (ex2 h)))
theorem PRR.c1 {ow n : Nat → Nat} {rr : Nat → Nat → Nat} {ww : Dt} {b p : Nat} {x : Dt} {tk lvl : Nat} (h : PRR ow n rr ww b p x tk lvl) : x 0 1 = ww p 1 := ex1 (ex2 (ex2 (ex2 (ex2 h))))
theorem PRR.c2 {ow n : Nat → Nat} {rr : Nat → Nat → Nat} {ww : Dt} {b p : Nat} {x : Dt} {tk lvl : Nat} (h : PRR ow n rr ww b p x tk lvl) : x 0 2 = ww p 2 := ex1 (ex2 (ex2 (ex2 (ex2 (ex2 h)))))
theorem PRR.c3 {ow n : Nat → Nat} {rr : Nat → Nat → Nat} {ww : Dt} {b p : Nat} {x : Dt} {tk lvl : Nat} (h : PRR ow n rr ww b p x tk lvl) : x 0 3 = ww p 3 := ex1 (ex2 (ex2 (ex2 (ex2 (ex2 (ex2 h))))))
theorem PRR.c4 {ow n : Nat → Nat} {rr : Nat → Nat → Nat} {ww : Dt} {b p : Nat} {x : Dt} {tk lvl : Nat} (h : PRR ow n rr ww b p x tk lvl) : x 0 4 = ww p 5 := ex1 (ex2 (ex2 (ex2 (ex2 (ex2 (ex2 (ex2 h)))))))
theorem PRR.c5 {ow n : Nat → Nat} {rr : Nat → Nat → Nat} {ww : Dt} {b p : Nat} {x : Dt} {tk lvl : Nat} (h : PRR ow n rr ww b p x tk lvl) : x 0 5 = ww p 4 := ex1 (ex2 (ex2 (ex2 (ex2 (ex2 (ex2 (ex2 (ex2 h))))))))
theorem PRR.c6 {ow n : Nat → Nat} {rr : Nat → Nat → Nat} {ww : Dt} {b p : Nat} {x : Dt} {tk lvl : Nat} (h : PRR ow n rr ww b p x tk lvl) : x 0 6 = ww p 6 := ex1 (ex2 (ex2 (ex2 (ex2 (ex2 (ex2 (ex2 (ex2 (ex2 h)))))))))
theorem PRR.c14 {ow n : Nat → Nat} {rr : Nat → Nat → Nat} {ww : Dt} {b p : Nat} {x : Dt} {tk lvl : Nat} (h : PRR ow n rr ww b p x tk lvl) : x 0 14 = ww p 7 := ex1 (ex2 (ex2 (ex2 (ex2 (ex2 (ex2 (ex2 (ex2 (ex2 (ex2 h))))))))))
theorem PRR.nK {ow n : Nat → Nat} {rr : Nat → Nat → Nat} {ww : Dt} {b p : Nat} {x : Dt} {tk lvl : Nat} (h : PRR ow n rr ww b p x tk lvl) : n (rr p 8) ≤ 6 := ex1 (ex2 (ex2 (ex2 (ex2 (ex2 (ex2 (ex2 (ex2 (ex2 (ex2 (ex2 h)))))))))))
theorem PRR.cK {ow n : Nat → Nat} {rr : Nat → Nat → Nat} {ww : Dt} {b p : Nat} {x : Dt} {tk lvl : Nat} (h : PRR ow n rr ww b p x tk lvl) : x 0 11 = nI (n (rr p 8)) := ex1 (ex2 (ex2 (ex2 (ex2 (ex2 (ex2 (ex2 (ex2 (ex2 (ex2 (ex2 (ex2 h))))))))))))
theorem PRR.cS {ow n : Nat → Nat} {rr : Nat → Nat → Nat} {ww : Dt} {b p : Nat} {x : Dt} {tk lvl : Nat} (h : PRR ow n rr ww b p x tk lvl) : x 0 13 = nI (n (rr p 9)) := ex1 (ex2 (ex2 (ex2 (ex2 (ex2 (ex2 (ex2 (ex2 (ex2 (ex2 (ex2 (ex2 (ex2 h)))))))))))))
theorem PRR.kk {ow n : Nat → Nat} {rr : Nat → Nat → Nat} {ww : Dt} {b p : Nat} {x : Dt} {tk lvl : Nat} (h : PRR ow n rr ww b p x tk lvl) : ∀ i, i < n (rr p 8) → ∃ r, x 4 i = nI r ∧ RECR ow ww x tk r (rr (rr p 8) i) := ex1 (ex2 (ex2 (ex2 (ex2 (ex2 (ex2 (ex2 (ex2 (ex2 (ex2 (ex2 (ex2 (ex2 (ex2 h))))))))))))))
theorem PRR.ss {ow n : Nat → Nat} {rr : Nat → Nat → Nat} {ww : Dt} {b p : Nat} {x : Dt} {tk lvl : Nat} (h : PRR ow n rr ww b p x tk lvl) : ∀ i, i < n (rr p 9) → ∃ r, x 5 i = nI r ∧ RECR ow ww x tk r (rr (rr p 9) i) := ex1 (ex2 (ex2 (ex2 (ex2 (ex2 (ex2 (ex2 (ex2 (ex2 (ex2 (ex2 (ex2 (ex2 (ex2 (ex2 h)))))))))))))))
theorem PRR.e5 {ow n : Nat → Nat} {rr : Nat → Nat → Nat} {ww : Dt} {b p : Nat} {x : Dt} {tk lvl : Nat} (h : PRR ow n rr ww b p x tk lvl) : x 0 5 = nI tk := ex1 (ex2 (ex2 (ex2 (ex2 (ex2 (ex2 (ex2 (ex2 (ex2 (ex2 (ex2 (ex2 (ex2 (ex2 (ex2 (ex2 h))))))))))))))))
theorem PRR.e4 {ow n : Nat → Nat} {rr : Nat → Nat → Nat} {ww : Dt} {b p : Nat} {x : Dt} {tk lvl : Nat} (h : PRR ow n rr ww b p x tk lvl) : x 0 4 = nI lvl := ex1 (ex2 (ex2 (ex2 (ex2 (ex2 (ex2 (ex2 (ex2 (ex2 (ex2 (ex2 (ex2 (ex2 (ex2 (ex2 (ex2 (ex2 h)))))))))))))))))
theorem PRR.tl {ow n : Nat → Nat} {rr : Nat → Nat → Nat} {ww : Dt} {b p : Nat} {x : Dt} {tk lvl : Nat} (h : PRR ow n rr ww b p x tk lvl) : tk ≤ 19 ∧ lvl ≤ 9 ∧ n (rr p 8) + n (rr p 9) ≤ tk := ex1 (ex2 (ex2 (ex2 (ex2 (ex2 (ex2 (ex2 (ex2 (ex2 (ex2 (ex2 (ex2 (ex2 (ex2 (ex2 (ex2 (ex2 (ex2 h))))))))))))))))))
theorem PRR.de {ow n : Nat → Nat} {rr : Nat → Nat → Nat} {ww : Dt} {b p : Nat} {x : Dt} {tk lvl : Nat} (h : PRR ow n rr ww b p x tk lvl) : x 0 6 = 0 ∨ x 0 6 = 1 := ex1 (ex2 (ex2 (ex2 (ex2 (ex2 (ex2 (ex2 (ex2 (ex2 (ex2 (ex2 (ex2 (ex2 (ex2 (ex2 (ex2 (ex2 (ex2 (ex2 h)))))))))))))))))))
theorem PRR.al {ow n : Nat → Nat} {rr : Nat → Nat → Nat} {ww : Dt} {b p : Nat} {x : Dt} {tk lvl : Nat} (h : PRR ow n rr ww b p x tk lvl) : x 0 6 = 0 → tk ≤ 2 * lvl + 1 ∧ (lvl = 9 → tk ≤ 18) := ex1 (ex2 (ex2 (ex2 (ex2 (ex2 (ex2 (ex2 (ex2 (ex2 (ex2 (ex2 (ex2 (ex2 (ex2 (ex2 (ex2 (ex2 (ex2 (ex2 (ex2 h))))))))))))))))))))
theorem PRR.rc {ow n : Nat → Nat} {rr : Nat → Nat → Nat} {ww : Dt} {b p : Nat} {x : Dt} {tk lvl : Nat} (h : PRR ow n rr ww b p x tk lvl) : 1 ≤ (x 0 2).toInt ∧ (x 0 2).toInt ≤ 3 := ex2 (ex2 (ex2 (ex2 (ex2 (ex2 (ex2 (ex2 (ex2 (ex2 (ex2 (ex2 (ex2 (ex2 (ex2 (ex2 (ex2 (ex2 (ex2 (ex2 (ex2 h))))))))))))))))))))
theorem FRR.keep {ow n : Nat → Nat} {rr : Nat → Nat → Nat} {ww : Dt} {b f : Nat} {x : Dt} {T : Int} (h : FRR ow n rr ww b f x T) {ow' n' : Nat → Nat} {rr' : Nat → Nat → Nat} {ww' : Dt} (hk : ∀ c, (ow c = 9 ∨ (b < ow c ∧ ow c < b + 100)) → ow' c = ow c ∧ n' c = n c ∧ rr' c = rr c ∧ ww' c = ww c) : FRR ow' n' rr' ww' b f x T := by
  have hf := hk f (by rw [h.of]; omega)
  have h1 := hk (rr f 1) (by rw [h.o1]; omega)
  have hs := fun k hk' => hk (rr (rr f 1) k) (Or.inl (h.os k hk'))
  have e1 : rr' f 1 = rr f 1 := by rw [hf.2.2.1]
  refine ⟨hf.1.trans h.of, by rw [e1, h1.1, h.o1], by rw [e1, h1.2.1]; exact h.nK, by rw [e1, h1.2.1]; exact h.cK, by rw [hf.2.2.2]; exact h.tk, h.tr, ?_, ?_, ?_, ?_⟩ <;> rw [e1, h1.2.1] <;> (try rw [h1.2.2.1])
  · intro k hk'
    rw [(hs k hk').1, h.os k hk']
  · intro k hk'
    rw [(hs k hk').2.2.2]
    exact h.nm k hk'
  · intro k hk'
    rw [(hs k hk').2.2.2]
    exact h.pl k hk'
  · exact h.un
theorem PRR.keep {ow n : Nat → Nat} {rr : Nat → Nat → Nat} {ww : Dt} {b p tk lvl : Nat} {x : Dt} (h : PRR ow n rr ww b p x tk lvl) {ow' n' : Nat → Nat} {rr' : Nat → Nat → Nat} {ww' : Dt} (hk : ∀ c, (ow c = 9 ∨ (b < ow c ∧ ow c < b + 100)) → ow' c = ow c ∧ n' c = n c ∧ rr' c = rr c ∧ ww' c = ww c) : PRR ow' n' rr' ww' b p x tk lvl := by
  have hp := hk p (by rw [h.op]; omega)
  have h8 := hk (rr p 8) (by rw [h.o8]; omega)
  have h9 := hk (rr p 9) (by rw [h.o9]; omega)
  have ep : rr' p = rr p := hp.2.2.1
  have recq : ∀ r e, RECR ow ww x tk r e → RECR ow' ww' x tk r e := fun r e z => by
    obtain ⟨z1, z2, z3⟩ := z
    have he := hk e (Or.inl z2)
    unfold RECR
    rw [he.1, he.2.2.2]
    exact ⟨z1, z2, z3⟩
  refine ⟨hp.1.trans h.op, by rw [ep, h8.1, h.o8], by rw [ep, h9.1, h.o9], by rw [hp.2.2.2]; exact h.c0, by rw [hp.2.2.2]; exact h.c1, by rw [hp.2.2.2]; exact h.c2, by rw [hp.2.2.2]; exact h.c3, by rw [hp.2.2.2]; exact h.c4, by rw [hp.2.2.2]; exact h.c5, by rw [hp.2.2.2]; exact h.c6, by rw [hp.2.2.2]; exact h.c14, by rw [ep, h8.2.1]; exact h.nK, by rw [ep, h8.2.1]; exact h.cK, by rw [ep, h9.2.1]; exact h.cS, ?_, ?_, h.e5, h.e4, by rw [ep, h8.2.1, h9.2.1]; exact h.tl, h.de, h.al, h.rc⟩
  · rw [ep, h8.2.1, h8.2.2.1]
    intro i hi
    obtain ⟨r, r1, r2⟩ := h.kk i hi
    exact ⟨r, r1, recq _ _ r2⟩
  · rw [ep, h9.2.1, h9.2.2.1]
    intro i hi
    obtain ⟨r, r1, r2⟩ := h.ss i hi
    exact ⟨r, r1, recq _ _ r2⟩
def INVj (j : Nat) (w : Dt) : Prop := INV (1000 + 1800 * (j : Int)) (20000 * (j : Int)) (3000 + 3000 * (j : Int)) (200 * (j : Int)) w
theorem INVj.mono {j : Nat} {w : Dt} (h : INVj j w) : INVj (j + 1) w := INV.mono h (by omega) (by omega) (by omega) (by omega)
/-- the whole relation, owners given -/
abbrev RF (ow : Nat → Nat) (j : Nat) (r w : Dt) (sums : Nat → Int64) (ns : Nat) (sw : Nat → Dt) (np : Nat) (pw : Nat → Dt) (nf : Nat) (fw : Nat → Dt) (q : Nat) (t n : Nat → Nat) (rr : Nat → Nat → Nat) (ww : Dt) : Prop := ∃ _ : (∀ c, ow c ≠ 0 → t c ≠ 0), ∃ _ : (ow q = 1), ∃ _ : (ow (rr q 2) = 2), ∃ _ : (ow (rr q 3) = 3), ∃ _ : (ow (rr q 4) = 4), ∃ _ : (WR ow n rr ww 1000 (rr q 1) w), ∃ _ : (INVj j w), ∃ _ : (r 0 3 = nI ns ∧ ns ≤ 3 ∧ n (rr q 2) = ns), ∃ _ : (∀ i, i < ns → WR ow n rr ww (2000 + 1000 * i) (rr (rr q 2) i) (sw i) ∧ INVj j (sw i) ∧ sums i = fSum (sw i)), ∃ _ : (r 0 6 = nI np ∧ np ≤ 4 ∧ n (rr q 3) = np), ∃ _ : (∀ i, i < np → ∃ tk lvl, PRR ow n rr ww (10000 + 100 * i) (rr (rr q 3) i) (pw i) tk lvl), ∃ _ : (r 0 8 = nI nf ∧ nf ≤ 6 ∧ n (rr q 4) = nf), ∃ _ : (∀ i, i < nf → FRR ow n rr ww (20000 + 100 * i) (rr (rr q 4) i) (fw i) (200 * (j : Int))), (∀ c, ow c < 2000 + 1000 * ns ∨ (10000 ≤ ow c ∧ ow c < 10000 + 100 * np) ∨ (20000 ≤ ow c ∧ ow c < 20000 + 100 * nf))
theorem RF.fr {ow : Nat → Nat} {j : Nat} {r w : Dt} {sums : Nat → Int64} {ns : Nat} {sw : Nat → Dt} {np : Nat} {pw : Nat → Dt} {nf : Nat} {fw : Nat → Dt} {q : Nat} {t n : Nat → Nat} {rr : Nat → Nat → Nat} {ww : Dt} (h : RF ow j r w sums ns sw np pw nf fw q t n rr ww) : ∀ c, ow c ≠ 0 → t c ≠ 0 := ex1 h
theorem RF.oq {ow : Nat → Nat} {j : Nat} {r w : Dt} {sums : Nat → Int64} {ns : Nat} {sw : Nat → Dt} {np : Nat} {pw : Nat → Dt} {nf : Nat} {fw : Nat → Dt} {q : Nat} {t n : Nat → Nat} {rr : Nat → Nat → Nat} {ww : Dt} (h : RF ow j r w sums ns sw np pw nf fw q t n rr ww) : ow q = 1 := ex1 (ex2 h)
theorem RF.o2 {ow : Nat → Nat} {j : Nat} {r w : Dt} {sums : Nat → Int64} {ns : Nat} {sw : Nat → Dt} {np : Nat} {pw : Nat → Dt} {nf : Nat} {fw : Nat → Dt} {q : Nat} {t n : Nat → Nat} {rr : Nat → Nat → Nat} {ww : Dt} (h : RF ow j r w sums ns sw np pw nf fw q t n rr ww) : ow (rr q 2) = 2 := ex1 (ex2 (ex2 h))
theorem RF.o3 {ow : Nat → Nat} {j : Nat} {r w : Dt} {sums : Nat → Int64} {ns : Nat} {sw : Nat → Dt} {np : Nat} {pw : Nat → Dt} {nf : Nat} {fw : Nat → Dt} {q : Nat} {t n : Nat → Nat} {rr : Nat → Nat → Nat} {ww : Dt} (h : RF ow j r w sums ns sw np pw nf fw q t n rr ww) : ow (rr q 3) = 3 := ex1 (ex2 (ex2 (ex2 h)))
theorem RF.o4 {ow : Nat → Nat} {j : Nat} {r w : Dt} {sums : Nat → Int64} {ns : Nat} {sw : Nat → Dt} {np : Nat} {pw : Nat → Dt} {nf : Nat} {fw : Nat → Dt} {q : Nat} {t n : Nat → Nat} {rr : Nat → Nat → Nat} {ww : Dt} (h : RF ow j r w sums ns sw np pw nf fw q t n rr ww) : ow (rr q 4) = 4 := ex1 (ex2 (ex2 (ex2 (ex2 h))))
theorem RF.wr {ow : Nat → Nat} {j : Nat} {r w : Dt} {sums : Nat → Int64} {ns : Nat} {sw : Nat → Dt} {np : Nat} {pw : Nat → Dt} {nf : Nat} {fw : Nat → Dt} {q : Nat} {t n : Nat → Nat} {rr : Nat → Nat → Nat} {ww : Dt} (h : RF ow j r w sums ns sw np pw nf fw q t n rr ww) : WR ow n rr ww 1000 (rr q 1) w := ex1 (ex2 (ex2 (ex2 (ex2 (ex2 h)))))
theorem RF.iv {ow : Nat → Nat} {j : Nat} {r w : Dt} {sums : Nat → Int64} {ns : Nat} {sw : Nat → Dt} {np : Nat} {pw : Nat → Dt} {nf : Nat} {fw : Nat → Dt} {q : Nat} {t n : Nat → Nat} {rr : Nat → Nat → Nat} {ww : Dt} (h : RF ow j r w sums ns sw np pw nf fw q t n rr ww) : INVj j w := ex1 (ex2 (ex2 (ex2 (ex2 (ex2 (ex2 h))))))
theorem RF.rs {ow : Nat → Nat} {j : Nat} {r w : Dt} {sums : Nat → Int64} {ns : Nat} {sw : Nat → Dt} {np : Nat} {pw : Nat → Dt} {nf : Nat} {fw : Nat → Dt} {q : Nat} {t n : Nat → Nat} {rr : Nat → Nat → Nat} {ww : Dt} (h : RF ow j r w sums ns sw np pw nf fw q t n rr ww) : r 0 3 = nI ns ∧ ns ≤ 3 ∧ n (rr q 2) = ns := ex1 (ex2 (ex2 (ex2 (ex2 (ex2 (ex2 (ex2 h)))))))
theorem RF.sv {ow : Nat → Nat} {j : Nat} {r w : Dt} {sums : Nat → Int64} {ns : Nat} {sw : Nat → Dt} {np : Nat} {pw : Nat → Dt} {nf : Nat} {fw : Nat → Dt} {q : Nat} {t n : Nat → Nat} {rr : Nat → Nat → Nat} {ww : Dt} (h : RF ow j r w sums ns sw np pw nf fw q t n rr ww) : ∀ i, i < ns → WR ow n rr ww (2000 + 1000 * i) (rr (rr q 2) i) (sw i) ∧ INVj j (sw i) ∧ sums i = fSum (sw i) := ex1 (ex2 (ex2 (ex2 (ex2 (ex2 (ex2 (ex2 (ex2 h))))))))
theorem RF.rp {ow : Nat → Nat} {j : Nat} {r w : Dt} {sums : Nat → Int64} {ns : Nat} {sw : Nat → Dt} {np : Nat} {pw : Nat → Dt} {nf : Nat} {fw : Nat → Dt} {q : Nat} {t n : Nat → Nat} {rr : Nat → Nat → Nat} {ww : Dt} (h : RF ow j r w sums ns sw np pw nf fw q t n rr ww) : r 0 6 = nI np ∧ np ≤ 4 ∧ n (rr q 3) = np := ex1 (ex2 (ex2 (ex2 (ex2 (ex2 (ex2 (ex2 (ex2 (ex2 h)))))))))
theorem RF.pb {ow : Nat → Nat} {j : Nat} {r w : Dt} {sums : Nat → Int64} {ns : Nat} {sw : Nat → Dt} {np : Nat} {pw : Nat → Dt} {nf : Nat} {fw : Nat → Dt} {q : Nat} {t n : Nat → Nat} {rr : Nat → Nat → Nat} {ww : Dt} (h : RF ow j r w sums ns sw np pw nf fw q t n rr ww) : ∀ i, i < np → ∃ tk lvl, PRR ow n rr ww (10000 + 100 * i) (rr (rr q 3) i) (pw i) tk lvl := ex1 (ex2 (ex2 (ex2 (ex2 (ex2 (ex2 (ex2 (ex2 (ex2 (ex2 h))))))))))
theorem RF.rf {ow : Nat → Nat} {j : Nat} {r w : Dt} {sums : Nat → Int64} {ns : Nat} {sw : Nat → Dt} {np : Nat} {pw : Nat → Dt} {nf : Nat} {fw : Nat → Dt} {q : Nat} {t n : Nat → Nat} {rr : Nat → Nat → Nat} {ww : Dt} (h : RF ow j r w sums ns sw np pw nf fw q t n rr ww) : r 0 8 = nI nf ∧ nf ≤ 6 ∧ n (rr q 4) = nf := ex1 (ex2 (ex2 (ex2 (ex2 (ex2 (ex2 (ex2 (ex2 (ex2 (ex2 (ex2 h)))))))))))
theorem RF.fb {ow : Nat → Nat} {j : Nat} {r w : Dt} {sums : Nat → Int64} {ns : Nat} {sw : Nat → Dt} {np : Nat} {pw : Nat → Dt} {nf : Nat} {fw : Nat → Dt} {q : Nat} {t n : Nat → Nat} {rr : Nat → Nat → Nat} {ww : Dt} (h : RF ow j r w sums ns sw np pw nf fw q t n rr ww) : ∀ i, i < nf → FRR ow n rr ww (20000 + 100 * i) (rr (rr q 4) i) (fw i) (200 * (j : Int)) := ex1 (ex2 (ex2 (ex2 (ex2 (ex2 (ex2 (ex2 (ex2 (ex2 (ex2 (ex2 (ex2 h))))))))))))
theorem RF.cap {ow : Nat → Nat} {j : Nat} {r w : Dt} {sums : Nat → Int64} {ns : Nat} {sw : Nat → Dt} {np : Nat} {pw : Nat → Dt} {nf : Nat} {fw : Nat → Dt} {q : Nat} {t n : Nat → Nat} {rr : Nat → Nat → Nat} {ww : Dt} (h : RF ow j r w sums ns sw np pw nf fw q t n rr ww) : ∀ c, ow c < 2000 + 1000 * ns ∨ (10000 ≤ ow c ∧ ow c < 10000 + 100 * np) ∨ (20000 ≤ ow c ∧ ow c < 20000 + 100 * nf) := ex2 (ex2 (ex2 (ex2 (ex2 (ex2 (ex2 (ex2 (ex2 (ex2 (ex2 (ex2 (ex2 h))))))))))))
def RELF : RLT := fun j r w sums ns sw np pw nf fw _ q t n rr ww => ∃ ow : Nat → Nat, RF ow j r w sums ns sw np pw nf fw q t n rr ww
section RFS
variable {ow : Nat → Nat} {j : Nat} {r w : Dt} {sums : Nat → Int64} {ns : Nat} {sw : Nat → Dt} {np : Nat} {pw : Nat → Dt} {nf : Nat} {fw : Nat → Dt} {q : Nat} {t n : Nat → Nat} {rr : Nat → Nat → Nat} {ww : Dt}
/-- what was thrown is written -/
theorem RF.thr (h : RF ow j r w sums ns sw np pw nf fw q t n rr ww) {w2 : Dt} (h2 : ∀ x y, ¬ (x = q ∧ y = 0) → w2 x y = ww x y) : RF ow j r w sums ns sw np pw nf fw q t n rr w2 := by
  have hk : ∀ c, ow c ≠ 1 → ow c = ow c ∧ n c = n c ∧ rr c = rr c ∧ w2 c = ww c := fun c hc => ⟨rfl, rfl, rfl, by
    funext y
    refine h2 c y fun z => hc ?_
    rw [z.1]
    exact h.oq⟩
  exact ⟨h.fr, h.oq, h.o2, h.o3, h.o4, h.wr.keep (fun c hc => hk c (by omega)), h.iv, h.rs, fun i hi => ⟨(h.sv i hi).1.keep (fun c hc => hk c (by omega)), (h.sv i hi).2⟩, h.rp, fun i hi => by
    obtain ⟨tk, lvl, hp⟩ := h.pb i hi
    exact ⟨tk, lvl, hp.keep (fun c hc => hk c (by omega))⟩, h.rf, fun i hi => (h.fb i hi).keep (fun c hc => hk c (by omega)), h.cap⟩
theorem RF.mono (h : RF ow j r w sums ns sw np pw nf fw q t n rr ww) : RF ow (j + 1) r w sums ns sw np pw nf fw q t n rr ww :=
  ⟨h.fr, h.oq, h.o2, h.o3, h.o4, h.wr, h.iv.mono, h.rs, fun i hi => ⟨(h.sv i hi).1, (h.sv i hi).2.1.mono, (h.sv i hi).2.2⟩, h.rp, h.pb, h.rf, fun i hi => by
    obtain ⟨f1, f2, f3, f4, f5, f6, f7⟩ := h.fb i hi
    exact ⟨f1, f2, f3, f4, f5, by omega, f7⟩, h.cap⟩
/-- the present world changed, all else kept -/
theorem RF.world (h : RF ow j r w sums ns sw np pw nf fw q t n rr ww) {ow' t' n' : Nat → Nat} {rr' : Nat → Nat → Nat} {ww' w' : Dt} (hg : GK ow n rr ww 1000 (rr q 1) ow' t' n' rr' ww' w') (hi : INVj j w') : RF ow' j r w' sums ns sw np pw nf fw q t' n' rr' ww' := by
  have hk : ∀ c, ow c ≠ 0 → ¬ (1000 < ow c ∧ ow c < 1000 + 100) → ow' c = ow c ∧ n' c = n c ∧ rr' c = rr c ∧ ww' c = ww c := hg.ko
  have hq := hk q (by rw [h.oq]; omega) (by rw [h.oq]; omega)
  have h2 := hk (rr q 2) (by rw [h.o2]; omega) (by rw [h.o2]; omega)
  have h3 := hk (rr q 3) (by rw [h.o3]; omega) (by rw [h.o3]; omega)
  have h4 := hk (rr q 4) (by rw [h.o4]; omega) (by rw [h.o4]; omega)
  have er : rr' q = rr q := hq.2.2.1
  have hcap : ∀ c, ow' c < 2000 + 1000 * ns ∨ (10000 ≤ ow' c ∧ ow' c < 10000 + 100 * np) ∨ (20000 ≤ ow' c ∧ ow' c < 20000 + 100 * nf) := fun c => by
    have := h.cap c
    rcases hg.nw c with z | z | z
    · rw [z]
      exact this
    · omega
    · omega
  refine ⟨hg.fr, hq.1.trans h.oq, by rw [er, h2.1, h.o2], by rw [er, h3.1, h.o3], by rw [er, h4.1, h.o4], by rw [er]; exact hg.wr, hi, ⟨h.rs.1, h.rs.2.1, by rw [er, h2.2.1]; exact h.rs.2.2⟩, fun i hi' => ?_, ⟨h.rp.1, h.rp.2.1, by rw [er, h3.2.1]; exact h.rp.2.2⟩, fun i hi' => ?_, ⟨h.rf.1, h.rf.2.1, by rw [er, h4.2.1]; exact h.rf.2.2⟩, fun i hi' => ?_, hcap⟩
  · obtain ⟨s1, s2, s3⟩ := h.sv i hi'
    rw [er, h2.2.2.1]
    exact ⟨s1.keep (fun c hc => hk c (by omega) (by omega)), s2, s3⟩
  · obtain ⟨tk, lvl, hp⟩ := h.pb i hi'
    rw [er, h3.2.2.1]
    exact ⟨tk, lvl, hp.keep (fun c hc => hk c (by omega) (by omega))⟩
  · rw [er, h4.2.2.1]
    exact (h.fb i hi').keep (fun c hc => hk c (by omega) (by omega))
end RFS
