/-! THE PURE SIDE: sums in the model, copies of worlds -/
section MSUM
variable {ow0 n0 : Nat → Nat} {rr0 : Nat → Nat → Nat} {ww0 : Dt} {b a : Nat}
theorem m_sum {post : Int64 → (Nat → Nat) → (Nat → Nat) → (Nat → Nat → Nat) → Dt → Prop} {ow t n : Nat → Nat} {rr : Nat → Nat → Nat} {ww w : Dt} {C D : Nat} {rk : Nat → Nat} (hb : 1000 ≤ b) (hW : WR ow n rr ww b a w) (hS : IS w C D rk) {B S : Nat} (hB : 1 ≤ B ∧ 4 ≤ S) (h : post (fSum w) t n rr ww) : wp_X12_sum post t n rr ww B S a := by
  have hC := hS.hC
  have hw : WK ow n rr ww b a ww w := WK.rfl0 hb hW
  have hn : n (rr a 8) = C := nI_inj (by have := hW.nC; omega) (by omega) (hW.cC.symm.trans hS.cC)
  unfold fSum at h
  rw [cnt_eq hC hS.cC] at h
  refine ⟨10 + 1, loopG (fun m y (s : Int64) => wp_X12_sum_6 post m a s y t n rr ww B S) nI 10 (fun i s => s = sCol w i) (fun m s hs => ?_) (fun i m s hi hs hk => ?_) 10 0 7 (by omega) rfl⟩
  · subst hs
    refine ⟨fun _ => ⟨12 + 1, loopG (fun m y (s : Int64) => wp_X12_sum_57 post m a s (rr a 5) (nI 12) y t n rr ww B S) nI 12 (fun i s => s = sBel w (sCol w 10) i) (fun m s hs => ?_) (fun i m s hi hs hk => ?_) 12 0 (sCol w 10) (by omega) rfl⟩, fun g => absurd (Int32.le_refl _) g⟩
    · subst hs
      refine ⟨fun _ => ⟨hB.1, hB.2, C + 1, loopG (fun m y (s : Int64) => wp_X12_sum_96 post m a s (rr a 8) y (ww (rr a 8) 0) t n rr ww (B - 1) (S - 4)) nI C (fun i s => s = sSto w (sBel w (sCol w 10) 12) i) (fun m s hs => ?_) (fun i m s hi hs hk => ?_) C 0 _ (by omega) rfl⟩, fun g => absurd (Int32.le_refl _) g⟩
      · subst hs
        refine ⟨fun _ => ?_, fun g => absurd (by rw [hn]) g⟩
        rw [hw.rr11]
        exact h
      · have ci : (nI i).toNatClampNeg = i := nI_cl (by omega)
        have r13 : ww (rr (rr a 8) i) 5 = 0 ↔ w 13 i = 1 := hw.rg0 (by omega)
        have r9 : ww (rr (rr a 8) i) 1 = w 9 i := hw.rs (p := 9) (by omega) (by omega) (by omega)
        have r10 : ww (rr (rr a 8) i) 2 = w 10 i := hw.rs (p := 10) (by omega) (by omega) (by omega)
        have key : ∀ z : Int32, z = (if w 13 i = 0 then 0 else w 10 i) → wp_X12_sum_138 post (fun a0 a1 a2 a3 a4 a5 a6 a7 a8 a9 a10 => wp_X12_sum_96 post m a0 a1 a2 a3 a4 a5 a6 a7 a8 a9 a10) a (rr a 8) (nI i + 1) (ww (rr a 8) 0) (rr (rr a 8) i) z (31 * s) t n rr ww (B - 1) (S - 4) := fun z hz v14 e14 => by
          rw [← nI_succ]
          refine hk v14 ?_
          rw [e14, r9, hz, hs]
          rfl
        refine ⟨fun g => ?_, fun _ => ⟨?_, rfl, fun g => ?_, fun g => ?_⟩⟩
        · rw [hn] at g
          have := nI_inj (by omega) (by omega) g
          omega
        · rw [hn]
          exact vp_nI hi (by omega)
        · rw [ci] at g ⊢
          refine key _ ?_
          rw [r10, if_neg (by rw [r13.mp g]; decide)]
        · rw [ci] at g ⊢
          refine key _ ?_
          rw [if_pos ((hS.th i (by omega)).resolve_right fun z => g (r13.mpr z))]
    · have ci : (nI i).toNatClampNeg = i := nI_cl (by omega)
      refine ⟨fun g => absurd g (by rw [nI_le2 (by omega) (by omega)]; omega), fun _ => ⟨vp_nI hi (by omega), fun v3 e3 => ?_⟩⟩
      rw [ci, hw.rb hi] at e3
      rw [← nI_succ]
      refine hk v3 ?_
      rw [e3, hs]
      rfl
  · have ci : (nI i).toNatClampNeg = i := nI_cl (by omega)
    refine ⟨fun g => absurd g (by rw [show (10 : Int32) = nI 10 from rfl, nI_le2 (by omega) (by omega)]; omega), fun _ => ⟨vp_nI hi (by omega), fun v19 e19 => m_weight hw hi (fun v21 e21 => ?_)⟩⟩
    rw [ci, hw.rt hi] at e19
    rw [← nI_succ]
    refine hk _ ?_
    rw [e21, e19, hs]
    rfl
theorem m_scopy {post : Nat → (Nat → Nat) → (Nat → Nat) → (Nat → Nat → Nat) → Dt → Prop} {t n : Nat → Nat} {rr : Nat → Nat → Nat} {ww : Dt} {B S x : Nat} (hB : 1 ≤ B ∧ 7 ≤ S) (hx : t x ≠ 0) (h4 : chr9 (ww x 4) = ww x 4) (h5 : ww x 5 = 0 ∨ ww x 5 = 1) (hp : ∀ (q : Nat) (ww' : Dt), t q = 0 → (∀ c, c ≠ q → ww' c = ww c) → (∀ k, k ≤ 6 → ww' q k = ww x k) → post q (va_up t q 3) n rr ww') : wp_X11_copy post t n rr ww B S x := by
  refine ⟨hB.1, hB.2, fun q hq t6 e6 w7 e7 w9 e9 w10 e10 w11 e11 w12 e12 => ?_⟩
  have hne : x ≠ q := fun z => hx (by rw [z]; exact hq)
  have f7 : w7 x = ww x := by rw [e7, vup_ne hne]
  have f9 : w9 x = ww x := by rw [e9, up2_ne hne, f7]
  have f10 : w10 x = ww x := by rw [e10, up2_ne hne, f9]
  have f11 : w11 x = ww x := by rw [e11, up2_ne hne, f10]
  have f12 : w12 x = ww x := by rw [e12, up2_ne hne, f11]
  refine ⟨by rw [f12]; exact nw_char h4, by rw [f12]; exact fits_c h4, fun w15 e15 => ?_⟩
  have f15 : w15 x = ww x := by rw [e15, up2_ne hne, f12]
  refine ⟨by rw [f15]; exact nw_bool h5, by rw [f15]; exact fits_b h5, fun w18 e18 w19 e19 => ?_⟩
  have f18 : w18 x = ww x := by rw [e18, up2_ne hne, f15]
  rw [e6]
  refine hp q w19 hq (fun c hc => ?_) (fun k hk => ?_)
  · rw [e19, up2_ne hc, e18, up2_ne hc, e15, up2_ne hc, e12, up2_ne hc, e11, up2_ne hc, e10, up2_ne hc, e9, up2_ne hc, e7, vup_ne hc]
  · rw [f7] at e9
    rw [f9] at e10
    rw [f10] at e11
    rw [f11] at e12
    rw [f12] at e15
    rw [f15] at e18
    rw [f18] at e19
    have hk' : k = 0 ∨ k = 1 ∨ k = 2 ∨ k = 3 ∨ k = 4 ∨ k = 5 ∨ k = 6 := by omega
    rcases hk' with z | z | z | z | z | z | z <;> subst z
    · rw [e19, up2_nk (by omega), e18, up2_nk (by omega), e15, up2_nk (by omega), e12, up2_nk (by omega), e11, up2_nk (by omega), e10, up2_nk (by omega), e9, up2_eq]
    · rw [e19, up2_nk (by omega), e18, up2_nk (by omega), e15, up2_nk (by omega), e12, up2_nk (by omega), e11, up2_nk (by omega), e10, up2_eq]
    · rw [e19, up2_nk (by omega), e18, up2_nk (by omega), e15, up2_nk (by omega), e12, up2_nk (by omega), e11, up2_eq]
    · rw [e19, up2_nk (by omega), e18, up2_nk (by omega), e15, up2_nk (by omega), e12, up2_eq]
    · rw [e19, up2_nk (by omega), e18, up2_nk (by omega), e15, up2_eq]
    · rw [e19, up2_nk (by omega), e18, up2_eq]
    · rw [e19, up2_eq]
/-- the class's data alone, alike where the store's world looks -/
theorem WR.cg2 {ow n : Nat → Nat} {rr : Nat → Nat → Nat} {ww : Dt} {w v : Dt} (h : WR ow n rr ww b a w) (h7 : v 7 0 = w 7 0) (h15 : v 15 0 = w 15 0) (h19 : v 19 0 = w 19 0) (hl : ∀ p k, lv (n (rr a 8)) (n (rr a 9)) (n (rr a 10)) p k → v p k = w p k) (h12 : ∀ k, k < n (rr a 8) → v 12 k = w 12 k) : WR ow n rr ww b a v := by
  refine ⟨h.oa, h.o0, h.o1, h.o2, h.o5, h.o8, h.o9, h.o10, h.ov, h.oi, h.os, h.osc, h.on, h.nC, h.nS, h.nN, h7.trans h.cC, h15.trans h.cS, h19.trans h.cN, fun p k hl' => (hl p k hl').trans (h.da p k hl'), fun k hk => ?_, fun k hk => ?_⟩
  · rw [hl 13 k (lvs (by omega) (by omega) (by omega) hk), h12 k hk]
    exact h.nm k hk
  · rw [hl 13 k (lvs (by omega) (by omega) (by omega) hk)]
    exact h.ng k hk
def rowN (w : Dt) (R : Nat) (f : Nat → Int32) : Nat → Dt
  | 0 => w
  | k + 1 => up2 (rowN w R f k) R k (f k)
theorem rowN_eq (w : Dt) (R : Nat) (f : Nat → Int32) : ∀ n : Nat, rowN w R f n = fun a k => if a = R ∧ k < n then f k else w a k
  | 0 => by
    funext a k
    rw [if_neg (by omega)]
    rfl
  | n + 1 => by
    show up2 (rowN w R f n) R n (f n) = _
    rw [rowN_eq w R f n]
    funext a k
    by_cases z : a = R ∧ k = n
    · obtain ⟨rfl, rfl⟩ := z
      rw [up2_eq, if_pos ⟨rfl, by omega⟩]
    · rw [up2_no z]
      by_cases z2 : a = R ∧ k < n
      · rw [if_pos z2, if_pos (by omega)]
      · rw [if_neg z2, if_neg (by omega)]
theorem row_cpy (w : Dt) (R : Nat) (f : Nat → Int32) (n : Nat) : va_up w R (va_cpy f (w R) 0 0 n) = rowN w R f n := by
  rw [rowN_eq]
  funext a k
  by_cases z : a = R
  · subst z
    rw [vup_eq]
    unfold va_cpy
    by_cases z2 : k < n
    · rw [if_pos (by omega), if_pos ⟨rfl, z2⟩]
      show f (0 + (k - 0)) = f k
      rw [Nat.zero_add, Nat.sub_zero]
    · rw [if_neg (by omega), if_neg (by omega)]
  · rw [vup_ne z, if_neg (by omega)]
theorem WK.rowv {ow n : Nat → Nat} {rr : Nat → Nat → Nat} {ww w : Dt} (h : WK ow n rr ww0 b a ww w) {k : Nat} (hk : k < 10) (f : Nat → Int32) : ∀ m, m ≤ 3 → WK ow n rr ww0 b a (rowN ww (rr (rr a 1) k) f m) (rowN w (k + 22) f m)
  | 0, _ => h
  | m + 1, hm => (WK.rowv h hk f m (by omega)).v hk (by omega) _
theorem WK.rowi {ow n : Nat → Nat} {rr : Nat → Nat → Nat} {ww w : Dt} (h : WK ow n rr ww0 b a ww w) {k : Nat} (hk : k < 10) (f : Nat → Int32) : ∀ m, m ≤ 3 → WK ow n rr ww0 b a (rowN ww (rr (rr a 2) k) f m) (rowN w (k + 32) f m)
  | 0, _ => h
  | m + 1, hm => (WK.rowi h hk f m (by omega)).i hk (by omega) _
theorem WK.rowb {ow n : Nat → Nat} {rr : Nat → Nat → Nat} {ww w : Dt} (h : WK ow n rr ww0 b a ww w) (f : Nat → Int32) : ∀ m, m ≤ 12 → WK ow n rr ww0 b a (rowN ww (rr a 5) f m) (rowN w 6 f m)
  | 0, _ => h
  | m + 1, hm => (WK.rowb h f m (by omega)).b6 (by omega) _
theorem AGS.row {P P' : Nat → Nat → Prop} {s v : Dt} (h : AGS P s v) (p : Nat) {f : Nat → Int32} {m : Nat} (hf : ∀ k, k < m → f k = v p k) (hP : ∀ p' k', P' p' k' → P p' k' ∨ (p' = p ∧ k' < m)) : AGS P' (rowN s p f m) v := fun p' k' z => by
  rw [rowN_eq]
  dsimp only
  by_cases hz : p' = p ∧ k' < m
  · obtain ⟨rfl, hz2⟩ := hz
    rw [if_pos ⟨rfl, hz2⟩, hf k' hz2]
  · rw [if_neg hz]
    exact h p' k' ((hP p' k' z).resolve_right hz)
theorem rowN_nr {w : Dt} {R a : Nat} {f : Nat → Int32} {m : Nat} (h : a ≠ R) : rowN w R f m a = w a := by
  rw [rowN_eq]
  funext k
  dsimp only
  rw [if_neg (by omega)]
end MSUM
