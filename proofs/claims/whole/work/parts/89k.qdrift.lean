/-! THE PURE SIDE: names in frames -/
/-- v: the place of the name c in the frame x of K storms -/
def Plc (x : Dt) (K : Nat) (c v : Int32) : Prop := (v = -1 ∧ ∀ i, i < K → x 1 i ≠ c) ∨ ∃ i, i < K ∧ x 1 i = c ∧ v = x 2 i
theorem x_plc {post : Int32 → Prop} {x : Dt} {c : Int32} {K : Nat} (hK : K ≤ 12) (hx : x 0 1 = nI K) (h : ∀ v, Plc x K c v → post v) : wp_X2_placeOf post x c := by
  refine ⟨K + 1, loopG (σ := Unit) (fun m y _ => wp_X2_placeOf_2 post m c y x) nI K (fun i _ => ∀ k, k < i → x 1 k ≠ c) (fun m s hs => ?_) (fun i m s hi hs hk => ?_) K 0 () (by omega) (fun k hk => absurd hk (by omega))⟩
  · refine ⟨fun _ => h _ (Or.inl ⟨rfl, hs⟩), fun g => absurd ?_ g⟩
    rw [hx]
    exact Int32.le_refl _
  · have ci : (nI i).toNatClampNeg = i := nI_cl (by omega)
    refine ⟨fun g => absurd g (by rw [hx, nI_le2 (by omega) (by omega)]; omega), fun _ => ⟨fun g => absurd g (by rw [show (12 : Int32) = nI 12 from rfl, nI_le2 (by omega) (by omega)]; omega), fun _ => ⟨vp_nI (by omega) (by omega), fun g => ?_, fun g => ?_⟩⟩⟩
    · rw [ci] at g
      rw [← nI_succ]
      refine hk () (fun k hk' => ?_)
      by_cases z : k = i
      · rw [z]; exact g
      · exact hs k (by omega)
    · rw [ci] at g
      rw [ci]
      exact h _ (Or.inr ⟨i, hi, g, rfl⟩)
/-- o: the model's storm of the name c in the list L of K -/
def Wth (rr : Nat → Nat → Nat) (ww : Dt) (L K : Nat) (c : Int32) (o : Option Nat) : Prop := (o = none ∧ ∀ i, i < K → ww (rr L i) 4 ≠ c) ∨ ∃ i, i < K ∧ ww (rr L i) 4 = c ∧ o = some (rr L i)
theorem m_with {post : Option Nat → (Nat → Nat) → (Nat → Nat) → (Nat → Nat → Nat) → Dt → Prop} {t n : Nat → Nat} {rr : Nat → Nat → Nat} {ww : Dt} {B S f : Nat} {c : Int32} {K : Nat} (hK : K ≤ 12) (hn : n (rr f 1) = K) (hB : 1 ≤ B ∧ 4 ≤ S) (h : ∀ o, Wth rr ww (rr f 1) K c o → post o t n rr ww) : wp_X9_with post t n rr ww B S f c := by
  refine ⟨hB.1, hB.2, K + 1, loopG (σ := Option Nat) (fun m y o => wp_X9_with_12 post m c o (rr f 1) y (ww (rr f 1) 0) t n rr ww (B - 1) (S - 4)) nI K (fun i o => (o = none ∧ ∀ k, k < i → ww (rr (rr f 1) k) 4 ≠ c) ∨ ∃ k, k < i ∧ ww (rr (rr f 1) k) 4 = c ∧ o = some (rr (rr f 1) k)) (fun m s hs => ?_) (fun i m s hi hs hk => ?_) K 0 none (by omega) (Or.inl ⟨rfl, fun k hk => absurd hk (by omega)⟩)⟩
  · exact ⟨fun _ => h s hs, fun g => absurd (by rw [hn]) g⟩
  · have ci : (nI i).toNatClampNeg = i := nI_cl (by omega)
    refine ⟨fun g => ?_, fun _ => ⟨by rw [hn]; exact vp_nI hi (by omega), rfl, fun g => ?_, fun g => ?_⟩⟩
    · rw [hn] at g
      have := nI_inj (by omega) (by omega) g
      omega
    · rw [ci] at g
      have := hk s (by
        rcases hs with ⟨a, b⟩ | ⟨k, a, b⟩
        · refine Or.inl ⟨a, fun k hk' => ?_⟩
          by_cases z : k = i
          · rw [z]; exact g
          · exact b k (by omega)
        · exact Or.inr ⟨k, by omega, b⟩)
      rw [nI_succ] at this
      exact this
    · rw [ci] at g
      have := hk (some (rr (rr f 1) i)) (Or.inr ⟨i, by omega, g, rfl⟩)
      rw [nI_succ] at this
      rw [ci]
      exact this
section PLC
variable {ow n : Nat → Nat} {rr : Nat → Nat → Nat} {ww : Dt} {b f : Nat} {x : Dt} {T : Int}
/-- both find the same -/
theorem FRR.same (h : FRR ow n rr ww b f x T) {c : Int32} (hc : 65 ≤ c.toInt) {v : Int32} (hv : Plc x (n (rr f 1)) c v) {o : Option Nat} (ho : Wth rr ww (rr f 1) (n (rr f 1)) c o) : (v = -1 ∧ o = none) ∨ ∃ e, o = some e ∧ v = ww e 1 ∧ 0 ≤ v.toInt ∧ v.toInt < 3600 := by
  rcases hv with ⟨v1, v2⟩ | ⟨i, v1, v2, v3⟩
  · rcases ho with ⟨o1, o2⟩ | ⟨k, o1, o2, o3⟩
    · exact Or.inl ⟨v1, o1⟩
    · exact absurd ((h.nm k o1).trans o2) (v2 k o1)
  · rcases ho with ⟨o1, o2⟩ | ⟨k, o1, o2, o3⟩
    · exact absurd ((h.nm i v1).symm.trans v2) (o2 i v1)
    · have hki : i = k := by
        refine h.un i k v1 o1 (v2.trans ((h.nm k o1).trans o2).symm) (fun z => ?_)
        rw [v2] at z
        rw [z] at hc
        exact absurd hc (by decide)
      subst hki
      obtain ⟨p1, p2, p3⟩ := h.pl i v1
      exact Or.inr ⟨_, o3, by rw [v3, p1], by rw [v3]; exact p2, by rw [v3]; exact p3⟩
end PLC
theorem sim_placeIn : SIM_placeIn RELF := by
  intro j r w sums ns sw np pw nf fw spw q t n rr ww hj hR x1 x2
  obtain ⟨ow, h0⟩ := id hR
  have h := h0.beg
  have e65 : (65 : Int64).toInt = 65 := rfl
  have e90 : (90 : Int64).toInt = 90 := rfl
  obtain ⟨hr1, hr2, hr3⟩ := h.rf
  have bad : ∀ k : Int32, ¬ k = 0 → (up2 (up2 ww q 0 0) q 0 k) q 0 = k ∧ (k = 0 → (0 : Int32) = -1) ∧ RELF (j + 1) r w sums ns sw np pw nf fw spw q t n rr (up2 (up2 ww q 0 0) q 0 k) := fun k hk => ⟨up2_q, fun z => absurd z hk, rf_T j r w sums ns sw np pw nf fw spw q t n rr ww hR _ up2_off2⟩
  refine x_frm hr2 hr1 (fun hin => x_name (fun a b => ?_) (fun hout => ⟨Or.inr (Or.inl rfl), ?_⟩)) (fun hout => ⟨Or.inl rfl, ?_⟩)
  · have hx := vp_lt hin
    have hF := h.fb x1.toNatClampNeg hx
    have hnK := hF.nK
    refine x_plc hnK hF.cK (fun v hv => ?_)
    have hmod : ∀ (k1 a : Int32), (∀ o, Wth rr (up2 ww q 0 0) (rr (rr (rr q 4) x1.toNatClampNeg) 1) (n (rr (rr (rr q 4) x1.toNatClampNeg) 1)) x2 o → (¬ o = none → wp_X13_placeIn_65 (fun (b : Int32) (t2 n2 : Nat → Nat) (r2 : Nat → Nat → Nat) (w2 : Dt) => w2 q 0 = k1 ∧ (k1 = 0 → a = b) ∧ RELF (j + 1) r w sums ns sw np pw nf fw spw q t2 n2 r2 w2) q x1 x2 0 q t n rr (up2 ww q 0 0) (1400 - 1) (12000 - 4)) ∧ (o = none → wp_X13_placeIn_65 (fun (b : Int32) (t2 n2 : Nat → Nat) (r2 : Nat → Nat → Nat) (w2 : Dt) => w2 q 0 = k1 ∧ (k1 = 0 → a = b) ∧ RELF (j + 1) r w sums ns sw np pw nf fw spw q t2 n2 r2 w2) q x1 x2 1 q t n rr (up2 ww q 0 0) (1400 - 1) (12000 - 4))) → MM_placeIn RELF j r w sums ns sw np pw nf fw spw q t n rr ww x1 x2 k1 a := fun k1 a z => by
      unfold MM_placeIn wp_X13_placeIn
      exact m_begins (t := t) (n := n) (rr := rr) (m_noFrame up2_q hr3 (by omega) (fun _ => ⟨fun z => absurd rfl z, fun _ => m_rng e65 e90 (fun _ _ => ⟨fun _ => m_ok up2_q ⟨fun z => absurd rfl z, fun _ => ⟨by rw [hr3]; exact hin, 1, 4, by omega, by omega, m_with hnK rfl ⟨Nat.le_refl _, Nat.le_refl _⟩ z⟩⟩, fun z => absurd z (by decide)⟩) (fun g => absurd ⟨by omega, by omega⟩ g)⟩) (fun g => absurd hin g))
    refine ⟨fun g => hmod _ _ (fun o ho => ⟨fun _ => m_ok up2_q ⟨fun _ => ⟨by rw [hr3]; exact hin, 1, 4, by omega, by omega, m_with hnK rfl ⟨Nat.le_refl _, Nat.le_refl _⟩ (fun o2 ho2 => ?_)⟩, fun z => absurd rfl z⟩, fun z => ?_⟩), fun g => ⟨Or.inr (Or.inr rfl), hmod _ _ (fun o ho => ⟨fun z => ?_, fun _ => m_bad up2_q (by decide) ⟨fun z => absurd z (by decide), fun _ => bad 3 (by decide)⟩⟩)⟩⟩
    · rcases hF.same (by omega) hv ho2 with ⟨v1, -⟩ | ⟨e, v1, v2, -⟩
      · rw [v1] at g
        exact absurd g (by decide)
      · exact ⟨e, v1, up2_q, fun _ => v2, rf_T j r w sums ns sw np pw nf fw spw q t n rr ww hR _ up2_off⟩
    · rcases hF.same (by omega) hv ho with ⟨v1, -⟩ | ⟨e, v1, v2, -⟩
      · rw [v1] at g
        exact absurd g (by decide)
      · rw [v1] at z
        cases z
    · rcases hF.same (by omega) hv ho with ⟨-, v1⟩ | ⟨e, v1, v2, v3, -⟩
      · exact absurd v1 z
      · exact absurd (by rw [Int32.le_iff_toInt_le]; exact v3) g
  · unfold MM_placeIn wp_X13_placeIn
    exact m_begins (t := t) (n := n) (rr := rr) (m_noFrame up2_q hr3 (by omega) (fun _ => ⟨fun z => absurd rfl z, fun _ => m_rng e65 e90 (fun c d => absurd ⟨by omega, by omega⟩ hout) (fun _ => ⟨fun z => absurd rfl z, fun _ => m_bad up2_q (by decide) ⟨fun _ => bad 2 (by decide), fun z => absurd z (by decide)⟩⟩)⟩) (fun g => absurd hin g))
  · unfold MM_placeIn wp_X13_placeIn
    exact m_begins (t := t) (n := n) (rr := rr) (m_noFrame up2_q hr3 (by omega) (fun z => absurd z hout) (fun _ => ⟨fun _ => bad 1 (by decide), fun z => absurd z (by decide)⟩))
theorem sim_drift : SIM_drift RELF := by
  intro j r w sums ns sw np pw nf fw spw q t n rr ww hj hR x1 x2 x3
  obtain ⟨ow, h0⟩ := id hR
  have h := h0.beg
  have e65 : (65 : Int64).toInt = 65 := rfl
  have e90 : (90 : Int64).toInt = 90 := rfl
  have e0 : (0 : Int32).toInt = 0 := rfl
  have e1 : (1 : Int32).toInt = 1 := rfl
  obtain ⟨hr1, hr2, hr3⟩ := h.rf
  have hT := rf_T j r w sums ns sw np pw nf fw spw q t n rr ww hR
  have bad : ∀ k : Int32, ¬ k = 0 → (up2 (up2 ww q 0 0) q 0 k) q 0 = k ∧ (k = 0 → (0 : UInt32) = 0) ∧ RELF (j + 1) r w sums ns sw np pw nf fw spw q t n rr (up2 (up2 ww q 0 0) q 0 k) := fun k hk => ⟨up2_q, fun _ => rfl, hT _ up2_off2⟩
  refine x_frm hr2 hr1 (fun hin => x_frm hr2 hr1 (fun hin3 => x_name (fun a b => ?_) (fun hout => ⟨Or.inr (Or.inl rfl), ?_⟩)) (fun hout => ⟨Or.inl rfl, ?_⟩)) (fun hout => ⟨Or.inl rfl, ?_⟩)
  · have hA := h.fb x2.toNatClampNeg (vp_lt hin)
    have hB := h.fb x3.toNatClampNeg (vp_lt hin3)
    have hj2 : 200 * (j : Int) ≤ 200000 := by omega
    have tA := hA.tr
    have tB := hB.tr
    -- the model's way to the comparing of turns
    have way : ∀ (k1 : Int32) (a : UInt32), ((fw x3.toNatClampNeg 0 0 < fw x2.toNatClampNeg 0 0 → wp_X13_drift_132 (fun (b : UInt32) (t2 n2 : Nat → Nat) (r2 : Nat → Nat → Nat) (w2 : Dt) => w2 q 0 = k1 ∧ (k1 = 0 → a = b) ∧ RELF (j + 1) r w sums ns sw np pw nf fw spw q t2 n2 r2 w2) q x1 x2 x3 (rr (rr q 4) x3.toNatClampNeg) t n rr (up2 ww q 0 0) 1400 12000) ∧ (¬ fw x3.toNatClampNeg 0 0 < fw x2.toNatClampNeg 0 0 → wp_X13_drift_132 (fun (b : UInt32) (t2 n2 : Nat → Nat) (r2 : Nat → Nat → Nat) (w2 : Dt) => w2 q 0 = k1 ∧ (k1 = 0 → a = b) ∧ RELF (j + 1) r w sums ns sw np pw nf fw spw q t2 n2 r2 w2) q x1 x2 x3 (rr (rr q 4) x2.toNatClampNeg) t n rr (up2 ww q 0 0) 1400 12000)) → MM_drift RELF j r w sums ns sw np pw nf fw spw q t n rr ww x1 x2 x3 k1 a := fun k1 a z => by
      unfold MM_drift wp_X13_drift
      refine m_begins (t := t) (n := n) (rr := rr) (m_isOf (by omega) (fun _ => ⟨fun z => absurd z (by decide), fun _ => m_isOf (by omega) (fun _ => ⟨fun _ => m_ok up2_q ⟨fun z => absurd rfl z, fun _ => m_rng e65 e90 (fun _ _ => ⟨fun _ => m_ok up2_q ⟨fun _ => ⟨by rw [hr3]; exact hin, by rw [hr3]; exact hin3, ?_⟩, fun z => absurd rfl z⟩, fun z => absurd z (by decide)⟩) (fun g => absurd ⟨by omega, by omega⟩ g)⟩, fun z => absurd z (by decide)⟩) (fun g => absurd (by rw [hr3]; exact hin3) g)⟩) (fun g => absurd (by rw [hr3]; exact hin) g))
      rw [← hA.tk, ← hB.tk]
      exact z
    -- one earlier frame and one later
    have core : ∀ (iE iL : Nat) (hE : FRR ow n rr (up2 ww q 0 0) (20000 + 100 * iE) (rr (rr q 4) iE) (fw iE) (200 * (j : Int))) (hL : FRR ow n rr (up2 ww q 0 0) (20000 + 100 * iL) (rr (rr q 4) iL) (fw iL) (200 * (j : Int))), ¬ fw iL 0 0 < fw iE 0 0 → (∀ (k1 : Int32) (a : UInt32), wp_X13_drift_178 (fun (b : UInt32) (t2 n2 : Nat → Nat) (r2 : Nat → Nat → Nat) (w2 : Dt) => w2 q 0 = k1 ∧ (k1 = 0 → a = b) ∧ RELF (j + 1) r w sums ns sw np pw nf fw spw q t2 n2 r2 w2) q x1 (rr (rr q 4) iE) (rr (rr q 4) iL) t n rr (up2 ww q 0 0) 1400 12000 → MM_drift RELF j r w sums ns sw np pw nf fw spw q t n rr ww x1 x2 x3 k1 a) →
        ∀ r7, Plc (fw iE) (n (rr (rr (rr q 4) iE) 1)) x1 r7 → ∀ r8, Plc (fw iL) (n (rr (rr (rr q 4) iL) 1)) x1 r8 → ∀ v9 : Int32, v9 = fw iL 0 0 - fw iE 0 0 → ((r7 < 0 → (4 = 0 ∨ 4 = 1 ∨ 4 = 4) ∧ MM_drift RELF j r w sums ns sw np pw nf fw spw q t n rr ww x1 x2 x3 (xnum [0, 1, 4] 4 1) 0) ∧ (¬ r7 < 0 → (r8 < 0 → (4 = 0 ∨ 4 = 1 ∨ 4 = 4) ∧ MM_drift RELF j r w sums ns sw np pw nf fw spw q t n rr ww x1 x2 x3 (xnum [0, 1, 4] 4 1) 0) ∧ (¬ r8 < 0 → (1 ≤ v9 → wp_J9_floorMod_7cf53 (fun r13 => vf_n32 (FP.fdiv (FP.i2f (r13 - 1800)) (FP.i2f v9)) ∧ (vf_n64 (FP.f2d (FP.fdiv (FP.i2f (r13 - 1800)) (FP.i2f v9))) ∧ MM_drift RELF j r w sums ns sw np pw nf fw spw q t n rr ww x1 x2 x3 0 (FP.fdiv (FP.i2f (r13 - 1800)) (FP.i2f v9)))) ((r8 - r7) + 1800) 3600) ∧ (¬ 1 ≤ v9 → (4 = 0 ∨ 4 = 1 ∨ 4 = 4) ∧ MM_drift RELF j r w sums ns sw np pw nf fw spw q t n rr ww x1 x2 x3 (xnum [0, 1, 4] 4 1) 0)))) := fun iE iL hE hL hlt w178 r7 h7 r8 h8 v9 e9 => by
      have gE := hE.tr
      have gL := hL.tr
      rw [Int32.lt_iff_toInt_lt] at hlt
      have ev : v9.toInt = (fw iL 0 0).toInt - (fw iE 0 0).toInt := by rw [e9, ti_sub (by omega) (by omega)]
      have b212 : ∀ (B S : Nat), wp_X13_drift_212 (fun (b : UInt32) (t2 n2 : Nat → Nat) (r2 : Nat → Nat → Nat) (w2 : Dt) => w2 q 0 = 3 ∧ ((3 : Int32) = 0 → (0 : UInt32) = b) ∧ RELF (j + 1) r w sums ns sw np pw nf fw spw q t2 n2 r2 w2) x1 (rr (rr q 4) iE) (rr (rr q 4) iL) q t n rr (up2 ww q 0 0) B S := fun B S => m_bad up2_q (by decide) ⟨fun z => absurd z (by decide), fun _ => ⟨up2_q, fun z => absurd z (by decide), hT _ up2_off2⟩⟩
      -- the model over what it finds
      have m178 : ∀ (k1 : Int32) (a : UInt32), (∀ o1, Wth rr (up2 ww q 0 0) (rr (rr (rr q 4) iE) 1) (n (rr (rr (rr q 4) iE) 1)) x1 o1 → (o1 = none → k1 = 3 ∧ a = 0) ∧ (¬ o1 = none → ∀ o2, Wth rr (up2 ww q 0 0) (rr (rr (rr q 4) iL) 1) (n (rr (rr (rr q 4) iL) 1)) x1 o2 → (o2 = none → k1 = 3 ∧ a = 0) ∧ (¬ o2 = none → (¬ fw iE 0 0 = fw iL 0 0 → wp_X13_drift_217 (fun (b : UInt32) (t2 n2 : Nat → Nat) (r2 : Nat → Nat → Nat) (w2 : Dt) => w2 q 0 = k1 ∧ (k1 = 0 → a = b) ∧ RELF (j + 1) r w sums ns sw np pw nf fw spw q t2 n2 r2 w2) x1 (rr (rr q 4) iE) (rr (rr q 4) iL) 0 q t n rr (up2 ww q 0 0) (1400 - 1 - 1) (12000 - 4 - 4)) ∧ (fw iE 0 0 = fw iL 0 0 → k1 = 3 ∧ a = 0)))) → MM_drift RELF j r w sums ns sw np pw nf fw spw q t n rr ww x1 x2 x3 k1 a := fun k1 a z => by
        have b3 : (k1 = 3 ∧ a = 0) → ∀ (B S : Nat), wp_X13_drift_212 (fun (b : UInt32) (t2 n2 : Nat → Nat) (r2 : Nat → Nat → Nat) (w2 : Dt) => w2 q 0 = k1 ∧ (k1 = 0 → a = b) ∧ RELF (j + 1) r w sums ns sw np pw nf fw spw q t2 n2 r2 w2) x1 (rr (rr q 4) iE) (rr (rr q 4) iL) q t n rr (up2 ww q 0 0) B S := fun y => by
          obtain ⟨rfl, rfl⟩ := y
          exact b212
        refine w178 k1 a ⟨1, 4, by omega, by omega, m_with hE.nK rfl ⟨Nat.le_refl _, Nat.le_refl _⟩ (fun o1 ho1 => ⟨fun y => b3 ((z o1 ho1).1 y) _ _, fun y => ⟨1, 4, by omega, by omega, m_with hL.nK rfl ⟨Nat.le_refl _, Nat.le_refl _⟩ (fun o2 ho2 => ⟨fun y2 => b3 (((z o1 ho1).2 y o2 ho2).1 y2) _ _, fun y2 => ?_⟩)⟩⟩)⟩
        rw [← hE.tk, ← hL.tk]
        exact ⟨fun y3 => (((z o1 ho1).2 y o2 ho2).2 y2).1 y3, fun y3 => b3 ((((z o1 ho1).2 y o2 ho2).2 y2).2 y3) _ _⟩
      refine ⟨fun g => ⟨Or.inr (Or.inr rfl), m178 _ _ (fun o1 ho1 => ⟨fun _ => ⟨rfl, rfl⟩, fun y => ?_⟩)⟩, fun g => ⟨fun g2 => ⟨Or.inr (Or.inr rfl), m178 _ _ (fun o1 ho1 => ⟨fun _ => ⟨rfl, rfl⟩, fun y o2 ho2 => ⟨fun _ => ⟨rfl, rfl⟩, fun y2 => ?_⟩⟩)⟩, fun g2 => ⟨fun g3 => x_fm ?_, fun g3 => ⟨Or.inr (Or.inr rfl), m178 _ _ (fun o1 ho1 => ⟨fun _ => ⟨rfl, rfl⟩, fun y o2 ho2 => ⟨fun _ => ⟨rfl, rfl⟩, fun y2 => ⟨fun y3 => ?_, fun _ => ⟨rfl, rfl⟩⟩⟩⟩)⟩⟩⟩⟩
      · rcases hE.same (by omega) h7 ho1 with ⟨-, v1⟩ | ⟨e, v1, v2, v3, -⟩
        · exact absurd v1 y
        · rw [Int32.lt_iff_toInt_lt, e0] at g
          omega
      · rcases hL.same (by omega) h8 ho2 with ⟨-, v1⟩ | ⟨e, v1, v2, v3, -⟩
        · exact absurd v1 y2
        · rw [Int32.lt_iff_toInt_lt, e0] at g2
          omega
      · rw [Int32.le_iff_toInt_le, e1, ev] at g3
        have hd := fp_div (x := fm (r8 - r7 + 1800) - 1800) (y := v9) (by omega) (by omega)
        refine ⟨hd.1, hd.2, m178 _ _ (fun o1 ho1 => ⟨fun y => ?_, fun y o2 ho2 => ⟨fun y2 => ?_, fun y2 => ⟨fun y3 => ?_, fun y3 => ?_⟩⟩⟩)⟩
        · rcases hE.same (by omega) h7 ho1 with ⟨v1, -⟩ | ⟨e, v1, -⟩
          · rw [v1] at g
            exact absurd (by decide) g
          · rw [v1] at y
            cases y
        · rcases hL.same (by omega) h8 ho2 with ⟨v1, -⟩ | ⟨e, v1, -⟩
          · rw [v1] at g2
            exact absurd (by decide) g2
          · rw [v1] at y2
            cases y2
        · refine m_ok up2_q ⟨fun _ => ⟨1, 4, by omega, by omega, m_with hL.nK rfl ⟨Nat.le_refl _, Nat.le_refl _⟩ (fun o3 ho3 => ?_)⟩, fun z => absurd rfl z⟩
          rcases hL.same (by omega) h8 ho3 with ⟨v1, -⟩ | ⟨eL, v1, v2, -⟩
          · rw [v1] at g2
            exact absurd (by decide) g2
          · refine ⟨eL, v1, 1, 4, by omega, by omega, m_with hE.nK rfl ⟨Nat.le_refl _, Nat.le_refl _⟩ (fun o4 ho4 => ?_)⟩
            rcases hE.same (by omega) h7 ho4 with ⟨u1, -⟩ | ⟨eE, u1, u2, -⟩
            · rw [u1] at g
              exact absurd (by decide) g
            · refine ⟨eE, u1, x_fm ?_⟩
              rw [← v2, ← u2, ← hE.tk, ← hL.tk, ← e9]
              exact ⟨hd.1, up2_q, fun _ => rfl, hT _ up2_off⟩
        · rw [y3] at g3
          omega
      · refine absurd (ti_eq ?_) y3
        rw [Int32.le_iff_toInt_le, e1, ev] at g3
        omega
    refine ⟨fun g => ⟨fun _ => ?_, fun z => absurd g z⟩, fun g => ⟨fun z => absurd z g, fun _ => ?_⟩⟩
    · have w1 : ∀ (k1 : Int32) (a : UInt32), wp_X13_drift_178 (fun (b : UInt32) (t2 n2 : Nat → Nat) (r2 : Nat → Nat → Nat) (w2 : Dt) => w2 q 0 = k1 ∧ (k1 = 0 → a = b) ∧ RELF (j + 1) r w sums ns sw np pw nf fw spw q t2 n2 r2 w2) q x1 (rr (rr q 4) x3.toNatClampNeg) (rr (rr q 4) x2.toNatClampNeg) t n rr (up2 ww q 0 0) 1400 12000 → MM_drift RELF j r w sums ns sw np pw nf fw spw q t n rr ww x1 x2 x3 k1 a := fun k1 a z => way k1 a ⟨fun _ => ⟨by rw [hr3]; exact hin, fun _ => z, fun y => ?_⟩, fun y => absurd g y⟩
      · have hc := core x3.toNatClampNeg x2.toNatClampNeg hB hA (fun z => by rw [Int32.lt_iff_toInt_lt] at z g; omega) w1
        exact x_plc hB.nK hB.cK (fun r7 h7 => x_plc hA.nK hA.cK (fun r8 h8 => hc r7 h7 r8 h8))
      · have o1 := hA.of
        have o2 := hB.of
        rw [y] at o2
        have : x2.toNatClampNeg = x3.toNatClampNeg := by omega
        rw [this, Int32.lt_iff_toInt_lt] at g
        omega
    · have w1 : ∀ (k1 : Int32) (a : UInt32), wp_X13_drift_178 (fun (b : UInt32) (t2 n2 : Nat → Nat) (r2 : Nat → Nat → Nat) (w2 : Dt) => w2 q 0 = k1 ∧ (k1 = 0 → a = b) ∧ RELF (j + 1) r w sums ns sw np pw nf fw spw q t2 n2 r2 w2) q x1 (rr (rr q 4) x2.toNatClampNeg) (rr (rr q 4) x3.toNatClampNeg) t n rr (up2 ww q 0 0) 1400 12000 → MM_drift RELF j r w sums ns sw np pw nf fw spw q t n rr ww x1 x2 x3 k1 a := fun k1 a z => way k1 a ⟨fun y => absurd y g, fun _ => ⟨by rw [hr3]; exact hin, fun y => absurd rfl y, fun _ => ⟨by rw [hr3]; exact hin3, z⟩⟩⟩
      have hc := core x2.toNatClampNeg x3.toNatClampNeg hA hB g w1
      exact x_plc hA.nK hA.cK (fun r7 h7 => x_plc hB.nK hB.cK (fun r8 h8 => hc r7 h7 r8 h8))
  · unfold MM_drift wp_X13_drift
    exact m_begins (t := t) (n := n) (rr := rr) (m_isOf (by omega) (fun _ => ⟨fun z => absurd z (by decide), fun _ => m_isOf (by omega) (fun _ => ⟨fun _ => m_ok up2_q ⟨fun z => absurd rfl z, fun _ => m_rng e65 e90 (fun c d => absurd ⟨by omega, by omega⟩ hout) (fun _ => ⟨fun z => absurd rfl z, fun _ => m_bad up2_q (by decide) ⟨fun z => absurd z (by decide), fun _ => bad 2 (by decide)⟩⟩)⟩, fun z => absurd z (by decide)⟩) (fun g => absurd (by rw [hr3]; exact hin3) g)⟩) (fun g => absurd (by rw [hr3]; exact hin) g))
  · unfold MM_drift wp_X13_drift
    exact m_begins (t := t) (n := n) (rr := rr) (m_isOf (by omega) (fun _ => ⟨fun z => absurd z (by decide), fun _ => m_isOf (by omega) (fun g => absurd (by rw [hr3] at g; exact g) hout) (fun _ => ⟨fun z => absurd rfl z, fun _ => m_bad up2_q (by decide) ⟨fun _ => bad 1 (by decide), fun z => absurd z (by decide)⟩⟩)⟩) (fun g => absurd (by rw [hr3]; exact hin) g))
  · unfold MM_drift wp_X13_drift
    exact m_begins (t := t) (n := n) (rr := rr) (m_isOf (by omega) (fun g => absurd (by rw [hr3] at g; exact g) hout) (fun _ => ⟨fun _ => m_bad up2_q (by decide) ⟨fun _ => bad 1 (by decide), fun z => absurd z (by decide)⟩, fun z => absurd rfl z⟩))
