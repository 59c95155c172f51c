/-! THE PURE SIDE: nameStorm, livesIn, scarTurns -/
theorem chr_90 : ∀ k : Fin 91, chr9 (nI k.1) = nI k.1 := by decide +kernel
theorem chr_name {x : Int32} (h1 : 65 ≤ x.toInt) (h2 : x.toInt ≤ 90) : chr9 x = x := by
  have e := nI_ofI (x := x) (by omega)
  rw [e]
  exact chr_90 ⟨x.toInt.toNat, by omega⟩
theorem sim_nameStorm : SIM_nameStorm RELF := by
  intro j r w sums ns sw np pw nf fw spw q t n rr ww hj hR x1 x2
  obtain ⟨ow, h0⟩ := id hR
  have h := h0.beg
  have e65 : (65 : Int64).toInt = 65 := rfl
  have e90 : (90 : Int64).toInt = 90 := rfl
  have hC := h.wr.nC
  obtain ⟨D, rk, N, hS, hI, hN⟩ := h.sn
  have bad : ∀ k : Int32, ¬ k = 0 → (up2 (up2 ww q 0 0) q 0 k) q 0 = k ∧ (k = 0 → (0 : Int32) = 32) ∧ RELF (j + 1) r w sums ns sw np pw nf fw spw q t n rr (up2 (up2 ww q 0 0) q 0 k) := fun k hk => ⟨up2_q, fun z => absurd z hk, rf_T j r w sums ns sw np pw nf fw spw q t n rr ww hR _ up2_off2⟩
  obtain ⟨hq, -, hw0, hst⟩ := h.storms
  have hun := rf_un j r w sums ns sw np pw nf fw spw q t n rr ww hR
  have hiff : ∀ i, i < n (rr (rr q 1) 8) → ((up2 ww q 0 0 (rr (rr (rr q 1) 8) i) 5 = 0 ∧ up2 ww q 0 0 (rr (rr (rr q 1) 8) i) 4 = x2) ↔ (¬ w 13 i = 0 ∧ w 12 i = x2)) := fun i hi => by
    obtain ⟨g1, g2, g3, g4, g5, g6, g7⟩ := hst i hi
    rcases g7 with ⟨z1, z2⟩ | ⟨z1, z2⟩
    · rw [← g6 z1, z1, z2]
      exact ⟨fun h => ⟨by decide, h.2⟩, fun h => ⟨rfl, h.2⟩⟩
    · rw [z1, z2]
      exact ⟨fun h => absurd h.1 (by decide), fun h => absurd rfl h.1⟩
  refine x_storm hC h.wr.cC (fun hin => x_name (fun a b => x_bearer hC h.wr.cC fun v hv => ?_) (fun hout => ⟨Or.inr (Or.inl rfl), ?_⟩)) (fun hout => ⟨Or.inl rfl, ?_⟩)
  · have hx := vp_lt hin
    have hg13 : up2 ww q 0 0 (rr (rr (rr q 1) 8) x1.toNatClampNeg) 5 = 0 ↔ w 13 x1.toNatClampNeg = 1 := h.k.rg0 hx
    have hne : ∀ v', Fnd (fun i => up2 ww q 0 0 (rr (rr (rr q 1) 8) i) 5 = 0 ∧ up2 ww q 0 0 (rr (rr (rr q 1) 8) i) 4 = x2) (n (rr (rr q 1) 8)) v' → v' = v := fun v' h' => (hv.eq (h'.iff hiff) (hun x2 (by omega))).symm
    have hxe : x1 = nI x1.toNatClampNeg := (nI_ofc (fun z => hin (Or.inl z))).symm
    -- the model's way to the test
    have way : ∀ (v9 : Dt) (k1 a : Int32), ((¬ up2 ww q 0 0 (rr (rr (rr q 1) 8) x1.toNatClampNeg) 5 = 0 → wp_X13_nameStorm_80 (fun (b : Int32) (w2 : Dt) => w2 q 0 = k1 ∧ (k1 = 0 → a = b) ∧ RELF (j + 1) r v9 sums ns sw np pw nf fw spw q t n rr w2) t n rr q x1 x2 q (up2 ww q 0 0)) ∧ (up2 ww q 0 0 (rr (rr (rr q 1) 8) x1.toNatClampNeg) 5 = 0 → (v = -1 → wp_X13_nameStorm_84 (fun (b : Int32) (w2 : Dt) => w2 q 0 = k1 ∧ (k1 = 0 → a = b) ∧ RELF (j + 1) r v9 sums ns sw np pw nf fw spw q t n rr w2) t n rr q x1 x2 q (up2 ww q 0 0)) ∧ (¬ v = -1 → (v = x1 → wp_X13_nameStorm_84 (fun (b : Int32) (w2 : Dt) => w2 q 0 = k1 ∧ (k1 = 0 → a = b) ∧ RELF (j + 1) r v9 sums ns sw np pw nf fw spw q t n rr w2) t n rr q x1 x2 q (up2 ww q 0 0)) ∧ (¬ v = x1 → wp_X13_nameStorm_80 (fun (b : Int32) (w2 : Dt) => w2 q 0 = k1 ∧ (k1 = 0 → a = b) ∧ RELF (j + 1) r v9 sums ns sw np pw nf fw spw q t n rr w2) t n rr q x1 x2 q (up2 ww q 0 0))))) → MM_nameStorm RELF j r v9 sums ns sw np pw nf fw spw q t n rr ww x1 x2 k1 a := fun v9 k1 a z => by
      unfold MM_nameStorm wp_X13_nameStorm
      refine m_begins (t := t) (n := n) (rr := rr) (m_noStorm up2_q (by omega) (fun _ => ⟨fun z => absurd rfl z, fun _ => m_rng e65 e90 (fun _ _ => ⟨fun _ => m_ok up2_q ⟨fun z => absurd rfl z, fun _ => ⟨hin, z.1, fun g => m_named (by omega) fun v' h' => ?_⟩⟩, fun z => absurd z (by decide)⟩) (fun g => absurd ⟨by omega, by omega⟩ g)⟩) (fun g => absurd hin g))
      have ev := hne v' h'
      subst ev
      refine ⟨fun g2 => (z.2 g).1 g2, fun g2 => m_named (by omega) fun v3 h3 => ?_⟩
      have ev := hne v3 h3
      subst ev
      exact (z.2 g).2 g2
    have z80 : MM_nameStorm RELF j r w sums ns sw np pw nf fw spw q t n rr ww x1 x2 3 0 → MM_nameStorm RELF j r w sums ns sw np pw nf fw spw q t n rr ww x1 x2 3 0 := id
    have b80 : wp_X13_nameStorm_80 (fun (b : Int32) (w2 : Dt) => w2 q 0 = 3 ∧ ((3 : Int32) = 0 → (0 : Int32) = b) ∧ RELF (j + 1) r w sums ns sw np pw nf fw spw q t n rr w2) t n rr q x1 x2 q (up2 ww q 0 0) := m_bad up2_q (by decide) ⟨fun z => absurd z (by decide), fun _ => bad 3 (by decide)⟩
    have hv1 : v = -1 ∨ (¬ v < 0 ∧ ¬ v = -1) := by
      rcases hv with ⟨e, -⟩ | ⟨i, i1, -, e⟩
      · exact Or.inl e
      · refine Or.inr ⟨by rw [e]; exact nI_nn' (by omega), fun z => ?_⟩
        rw [e] at z
        exact nI_nn' (n := i) (by omega) (by rw [z]; decide)
    -- the name is given
    have good : w 13 x1.toNatClampNeg = 1 → (v = -1 ∨ v = x1) → wp_X8_nameStorm_55 (fun (a : Int32) (v : Dt) => MM_nameStorm RELF j r v sums ns sw np pw nf fw spw q t n rr ww x1 x2 0 a) (fun k => (k = 0 ∨ k = 1 ∨ k = 3) ∧ MM_nameStorm RELF j r w sums ns sw np pw nf fw spw q t n rr ww x1 x2 (xnum [0, 1, 3] k 1) 0) x1 x2 r w := fun t1 hvv => by
      have hold : chr9 (w 12 x1.toNatClampNeg) = w 12 x1.toNatClampNeg := hS.ch _ (by omega)
      have hnm := h.wr.nm _ hx t1
      have iv : INVj (j + 1) (up2 w 12 x1.toNatClampNeg x2) := by
        obtain ⟨S, hSk⟩ := h.iv.sk
        refine INV.rows h.iv.mono ⟨n (rr (rr q 1) 8), D, rk, N, hS.nam (chr_name a b) (fun k hk tk nk ne => ?_), hI.cg (fun p k a b _ => by rw [up2_ne (by omega)])⟩ ⟨S, hSk.cg (fun p k a b _ => by rw [up2_ne (by omega)])⟩ (fun p k hp => by rw [up2_ne (by omega)])
        rcases hv with ⟨-, e⟩ | ⟨i, i1, i2, e⟩
        · exact absurd ⟨by rw [tk]; decide, nk⟩ (e k hk)
        · have hki := hun x2 (by omega) k i hk i1 ⟨by rw [tk]; decide, nk⟩ i2
          rcases hvv with z | z
          · rw [z] at e
            exact absurd (by rw [← e]; decide) (nI_nn' (n := i) (by omega))
          · rw [z] at e
            rw [hki, e, nI_cl (by omega)]
      refine ⟨vp_mono hin hC, nw_char (chr_name a b), fun w7 e7 => ⟨nw_char hold, ?_⟩⟩
      subst e7
      have b84 : wp_X13_nameStorm_84 (fun (b : Int32) (w2 : Dt) => w2 q 0 = 0 ∧ ((0 : Int32) = 0 → w 12 x1.toNatClampNeg = b) ∧ RELF (j + 1) r (up2 w 12 x1.toNatClampNeg x2) sums ns sw np pw nf fw spw q t n rr w2) t n rr q x1 x2 q (up2 ww q 0 0) := by
        refine m_ok up2_q ⟨fun _ => ⟨hin, fun v22 e22 => ⟨nw_char (chr_name a b), fits_c (chr_name a b), fun w28 e28 => ?_⟩⟩, fun z => absurd rfl z⟩
        rw [← hnm] at e22
        have hk := h.k.name hx t1 x2
        rw [← e28] at hk
        obtain ⟨e1, e2⟩ := h.fin (spw := spw) (h.g.st hk) iv
        rw [e22]
        exact ⟨nw_char hold, e1.trans up2_q, fun _ => rfl, e2⟩
      refine way _ _ _ ⟨fun g => absurd (hg13.mpr t1) g, fun _ => ⟨fun _ => b84, fun g => ⟨fun _ => b84, fun g2 => ?_⟩⟩⟩
      rcases hvv with z | z
      · exact absurd z g
      · exact absurd z g2
    refine ⟨vp_mono hin hC, fun g => ⟨Or.inr (Or.inr rfl), way _ _ _ ⟨fun _ => b80, fun z => ?_⟩⟩, fun g => ?_⟩
    · rw [hg13, g] at z
      exact absurd z (by decide)
    · have t1 : w 13 x1.toNatClampNeg = 1 := (hS.th _ (by omega)).resolve_left g
      refine ⟨fun g2 => good t1 (Or.inl ?_), fun g2 => ⟨fun g3 => good t1 (Or.inr g3), fun g3 => ⟨Or.inr (Or.inr rfl), way _ _ _ ⟨fun z => absurd (hg13.mpr t1) z, fun _ => ⟨fun z => ?_, fun _ => ⟨fun z => absurd z g3, fun _ => b80⟩⟩⟩⟩⟩⟩
      · rcases hv1 with z | z
        · exact z
        · exact absurd g2 z.1
      · rw [z] at g2
        exact absurd (by decide) g2
  · unfold MM_nameStorm wp_X13_nameStorm
    exact m_begins (t := t) (n := n) (rr := rr) (m_noStorm up2_q (by omega) (fun _ => ⟨fun z => absurd rfl z, fun _ => m_rng e65 e90 (fun c d => absurd ⟨by omega, by omega⟩ hout) (fun _ => ⟨fun z => absurd rfl z, fun _ => m_bad up2_q (by decide) ⟨fun _ => bad 2 (by decide), fun z => absurd z (by decide)⟩⟩)⟩) (fun z => absurd hin z))
  · unfold MM_nameStorm wp_X13_nameStorm
    exact m_begins (t := t) (n := n) (rr := rr) (m_noStorm up2_q (by omega) (fun z => absurd z hout) (fun _ => ⟨fun _ => bad 1 (by decide), fun z => absurd z (by decide)⟩))
/-- in which a storm lives on -/
def HR (w : Dt) : Nat → Int32 → Int32
  | 0, _ => -1
  | f + 1, x => if x < 0 then -1 else if w 13 x.toNatClampNeg = 0 then HR w f (w 14 x.toNatClampNeg) else x
theorem HR_m1 (w : Dt) : ∀ f : Nat, HR w f (-1) = -1
  | 0 => rfl
  | f + 1 => if_pos (by decide)
theorem HR_nI {w : Dt} {f h : Nat} (hh : h ≤ 100) : HR w (f + 1) (nI h) = if w 13 h = 0 then HR w f (w 14 h) else nI h := by
  show (if nI h < 0 then -1 else if w 13 (nI h).toNatClampNeg = 0 then HR w f (w 14 (nI h).toNatClampNeg) else nI h) = _
  rw [if_neg (nI_nn' (by omega)), nI_cl (by omega)]
theorem HR_gone {w : Dt} {C D : Nat} {rk : Nat → Nat} (hS : IS w C D rk) (hall : ∀ i, i < C → w 13 i = 0) : ∀ f h : Nat, h < C → HR w f (nI h) = -1
  | 0, _, _ => rfl
  | f + 1, h, hh => by
    have hC := hS.hC
    rw [HR_nI (by omega), if_pos (hall h hh)]
    rcases (hS.he h hh (hall h hh)).2 with z | ⟨k, k1, k2, -⟩
    · rw [z, HR_m1]
    · rw [k2]
      exact HR_gone hS hall f k k1
theorem x_heir {post : Int32 → Prop} {w : Dt} {C D : Nat} {rk : Nat → Nat} (hS : IS w C D rk) : ∀ (d s : Nat) (x : Int32), s + d = 12 → (x = -1 ∨ ∃ h, h < C ∧ x = nI h) → post (HR w d x) → wp_X6_heirOf_4 post (d + 1) x (nI s) w
  | 0, s, x, e, _, hp => by
    rw [show s = 12 by omega]
    exact ⟨fun _ => hp, fun g => absurd (Int32.le_refl _) g⟩
  | d + 1, s, x, e, hx, hp => by
    have hC := hS.hC
    refine ⟨fun g => absurd g (by rw [show (12 : Int32) = nI 12 from rfl, nI_le2 (by omega) (by omega)]; omega), fun _ => ?_⟩
    rcases hx with z | ⟨h, hh, z⟩
    · subst z
      exact ⟨fun _ => hp, fun g => absurd (by decide) g⟩
    · subst z
      rw [HR_nI (by omega)] at hp
      have ch : (nI h).toNatClampNeg = h := nI_cl (by omega)
      refine ⟨fun g => absurd g (nI_nn' (by omega)), fun _ => ⟨fun _ => ⟨vp_nI (by omega) (by omega), fun g => ?_, fun g => ?_⟩, fun g => absurd (by rw [show (12 : Int32) = nI 12 from rfl, nI_ltl (by omega) (by omega)]; omega) g⟩⟩
      · rw [ch] at g ⊢
        rw [if_pos g] at hp
        rw [← nI_succ]
        refine x_heir hS d (s + 1) _ (by omega) ?_ hp
        rcases (hS.he h hh g).2 with z | ⟨k, k1, k2, -⟩
        · exact Or.inl z
        · exact Or.inr ⟨k, k1, k2⟩
      · rw [ch] at g
        rw [if_neg g] at hp
        exact hp
theorem HR_val {w : Dt} {C D : Nat} {rk : Nat → Nat} (hS : IS w C D rk) : ∀ (f : Nat) (x : Int32), (x = -1 ∨ ∃ h, h < C ∧ x = nI h) → HR w f x = -1 ∨ ∃ h, h < C ∧ HR w f x = nI h
  | 0, _, _ => Or.inl rfl
  | f + 1, x, hx => by
    have hC := hS.hC
    rcases hx with z | ⟨h, hh, z⟩
    · rw [z, HR_m1]
      exact Or.inl rfl
    · subst z
      rw [HR_nI (by omega)]
      split
      · rename_i g
        refine HR_val hS f _ ?_
        rcases (hS.he h hh g).2 with z | ⟨k, k1, k2, -⟩
        · exact Or.inl z
        · exact Or.inr ⟨k, k1, k2⟩
      · exact Or.inr ⟨h, hh, rfl⟩
theorem m_heir {post : Int32 → Dt → Prop} {ow t n : Nat → Nat} {rr : Nat → Nat → Nat} {ww w : Dt} {q C D : Nat} {rk : Nat → Nat} (hw : WK ow n rr ww 1000 (rr q 1) ww w) (hn : n (rr (rr q 1) 8) = C) (hS : IS w C D rk) : ∀ (d h F : Nat), h < C → (w 13 h = 0 → D ≤ rk h + d) → d + 1 ≤ F → wp_X13_livesIn_66 post t n rr q (HR w F (nI h)) ww → ∃ k : Nat, wp_X13_livesIn_16 post t n rr k q (nI h) ww := by
  have hC := hS.hC
  intro d
  induction d with
  | zero =>
    intro h F hh hd hF hp
    obtain ⟨f, rfl⟩ : ∃ f, F = f + 1 := ⟨F - 1, by omega⟩
    have ch : (nI h).toNatClampNeg = h := nI_cl (by omega)
    have t1 : ¬ w 13 h = 0 := fun z => by
      have := (hS.he h hh z).1
      have := hd z
      omega
    rw [HR_nI (by omega), if_neg t1] at hp
    refine ⟨1, fun g => absurd (show nI h < 0 by rw [g]; decide) (nI_nn' (by omega)), fun _ => ⟨by rw [hn]; exact vp_nI hh (by omega), fun _ => hp, fun g => ?_⟩⟩
    rw [ch] at g
    exact absurd ((hw.rg0 (by omega)).mpr ((hS.th h (by omega)).resolve_left t1)) g
  | succ d ih =>
    intro h F hh hd hF hp
    obtain ⟨f, rfl⟩ : ∃ f, F = f + 1 := ⟨F - 1, by omega⟩
    have ch : (nI h).toNatClampNeg = h := nI_cl (by omega)
    rw [HR_nI (by omega)] at hp
    have r14 : ww (rr (rr (rr q 1) 8) h) 6 = w 14 h := hw.rs (p := 14) (by omega) (by omega) (by omega)
    by_cases t0 : w 13 h = 0
    · rw [if_pos t0] at hp
      have hno : ¬ ww (rr (rr (rr q 1) 8) h) 5 = 0 := fun z => by
        rw [hw.rg0 (by omega), t0] at z
        exact absurd z (by decide)
      have step : ∀ k : Nat, wp_X13_livesIn_16 post t n rr k q (w 14 h) ww → ∃ k : Nat, wp_X13_livesIn_16 post t n rr k q (nI h) ww := fun k hk => by
        refine ⟨k + 1, fun g => absurd (show nI h < 0 by rw [g]; decide) (nI_nn' (by omega)), fun _ => ⟨by rw [hn]; exact vp_nI hh (by omega), fun g => ?_, fun _ v18 e18 => ?_⟩⟩
        · rw [ch] at g
          exact absurd g hno
        · rw [ch, r14] at e18
          rw [e18]
          exact hk
      rcases (hS.he h hh t0).2 with z | ⟨k, k1, k2, k3⟩
      · rw [z, HR_m1] at hp
        exact step 1 ⟨fun _ => by rw [z]; exact hp, fun g => absurd z g⟩
      · rw [k2] at hp
        have hdk : w 13 k = 0 → D ≤ rk k + d := fun z => by
          rcases k3 with y | y
          · rw [y] at z
            exact absurd z (by decide)
          · have := hd t0
            omega
        obtain ⟨m, hm⟩ := ih k f k1 hdk (by omega) hp
        exact step m (by rw [k2]; exact hm)
    · rw [if_neg t0] at hp
      refine ⟨1, fun g => absurd (show nI h < 0 by rw [g]; decide) (nI_nn' (by omega)), fun _ => ⟨by rw [hn]; exact vp_nI hh (by omega), fun _ => hp, fun g => ?_⟩⟩
      rw [ch] at g
      exact absurd ((hw.rg0 (by omega)).mpr ((hS.th h (by omega)).resolve_left t0)) g
theorem sim_livesIn : SIM_livesIn RELF := by
  intro j r w sums ns sw np pw nf fw spw q t n rr ww hj hR x1
  obtain ⟨ow, h0⟩ := id hR
  have h := h0.beg
  have hC := h.wr.nC
  obtain ⟨D, rk, N, hS, hI, hN⟩ := h.sn
  refine x_storm hC h.wr.cC (fun hin => ?_) (fun hout => ⟨Or.inl rfl, ?_⟩)
  · have hx := vp_lt hin
    have hxe : x1 = nI x1.toNatClampNeg := (nI_ofc (fun z => hin (Or.inl z))).symm
    generalize hm : x1.toNatClampNeg = m at hx hxe
    have hval := HR_val hS 12 (nI m) (Or.inr ⟨m, hx, rfl⟩)
    have hmod : ∀ (k1 a : Int32), wp_X13_livesIn_66 (fun (b : Int32) (w2 : Dt) => w2 q 0 = k1 ∧ (k1 = 0 → a = b) ∧ RELF (j + 1) r w sums ns sw np pw nf fw spw q t n rr w2) t n rr q (HR w 12 (nI m)) (up2 ww q 0 0) → MM_livesIn RELF j r w sums ns sw np pw nf fw spw q t n rr ww x1 k1 a := fun k1 a z => by
      unfold MM_livesIn wp_X13_livesIn
      refine m_begins (t := t) (n := n) (rr := rr) (m_noStorm up2_q (by omega) (fun _ => ⟨fun _ => ?_, fun z => absurd rfl z⟩) (fun z => absurd hin z))
      rw [hxe]
      have hct := hS.ct
      have hsum := sumI_le (f := fun i => (w 13 i).toInt) (n (rr (rr q 1) 8)) (fun k hk => by
        rcases hS.th k (by omega) with y | y
        · rw [y]; decide
        · rw [y]; decide)
      by_cases hD : D ≤ 11
      · exact m_heir h.k rfl hS D m 12 hx (fun _ => by omega) (by omega) z
      · have hall : ∀ i, i < n (rr (rr q 1) 8) → w 13 i = 0 := fun i hi => by
          rcases hS.th i (by omega) with y | y
          · exact y
          · have := hsum.2 i hi
            rw [y, show (1 : Int32).toInt = 1 from rfl] at this
            omega
        rw [HR_gone hS hall 12 m hx, ← HR_gone hS hall (D + 1) m hx] at z
        exact m_heir h.k rfl hS D m (D + 1) hx (fun _ => by omega) (Nat.le_refl _) z
    refine ⟨12 + 1, ?_⟩
    rw [hxe]
    refine x_heir hS 12 0 (nI m) (by omega) (Or.inr ⟨m, hx, rfl⟩) ?_
    rw [← hxe]
    refine ⟨fun g => ?_, fun g => ⟨Or.inr rfl, ?_⟩⟩
    · refine hmod _ _ ⟨fun _ => m_ok up2_q ⟨fun _ => ⟨up2_q, fun _ => by rw [hxe], rf_T j r w sums ns sw np pw nf fw spw q t n rr ww hR _ up2_off⟩, fun z => absurd rfl z⟩, fun z => ?_⟩
      rw [hxe, z] at g
      exact absurd g (by decide)
    · refine hmod _ _ ⟨fun z => ?_, fun _ => m_bad up2_q (by decide) ⟨fun z => absurd z (by decide), fun _ => ⟨up2_q, fun z => absurd z (by decide), rf_T j r w sums ns sw np pw nf fw spw q t n rr ww hR _ up2_off2⟩⟩⟩
      rcases hval with y | ⟨k, k1, y⟩
      · exact absurd y z
      · rw [hxe, y, show (0 : Int32) = nI 0 from rfl, nI_le2 (by omega) (by omega)] at g
        omega
  · unfold MM_livesIn wp_X13_livesIn
    exact m_begins (t := t) (n := n) (rr := rr) (m_noStorm up2_q (by omega) (fun z => absurd z hout) (fun _ => ⟨fun z => absurd z (by decide), fun _ => ⟨up2_q, fun z => absurd z (by decide), rf_T j r w sums ns sw np pw nf fw spw q t n rr ww hR _ up2_off2⟩⟩))
/-- shears are no less than 0 -/
theorem wid_ok : ∀ k : Fin 12, 1 ≤ (fWid k.1).toInt := by decide +kernel
theorem shV_rg {f : Nat → Int32} {U : Int} (hU : U ≤ 500000000) (hf : ∀ k, k < 12 → -U ≤ (f k).toInt ∧ (f k).toInt ≤ U) {i : Nat} (hi : i < 12) : 0 ≤ (shV f i).toInt ∧ (shV f i).toInt ≤ 2 * U := by
  have key : ∀ k, k < 12 → (f k / fWid k).toInt = (f k).toInt.tdiv (fWid k).toInt ∧ -U ≤ (f k).toInt.tdiv (fWid k).toInt ∧ (f k).toInt.tdiv (fWid k).toInt ≤ U := fun k hk => by
    have hw := wid_ok ⟨k, hk⟩
    dsimp only at hw
    have g := hf k hk
    have b := tdiv_bd hw g.1 g.2
    exact ⟨ti_div (by omega), b.2.2⟩
  obtain ⟨a1, a2, a3⟩ := key (i - 1) (by omega)
  obtain ⟨b1, b2, b3⟩ := key (min 11 (i + 1)) (by omega)
  have e0 : (0 : Int32).toInt = 0 := rfl
  have d1 : (f (i - 1) / fWid (i - 1) - f (min 11 (i + 1)) / fWid (min 11 (i + 1))).toInt = (f (i - 1) / fWid (i - 1)).toInt - (f (min 11 (i + 1)) / fWid (min 11 (i + 1))).toInt := ti_sub (by omega) (by omega)
  unfold shV
  split
  · rename_i g
    rw [Int32.le_iff_toInt_le, e0] at g
    omega
  · rename_i g
    rw [Int32.le_iff_toInt_le, e0] at g
    rw [ti_sub (by omega) (by omega), e0]
    omega
theorem grw_ok {x : Int32} (h1 : 0 ≤ x.toInt) (h2 : x.toInt ≤ 1000000000) : 1 ≤ 1 + x / 20 ∧ ¬ (1 + x / 20) = 0 := by
  have e : (x / 20).toInt = x.toInt / 20 := by rw [ti_divp h1 (by decide)]; rfl
  have e1 : (1 : Int32).toInt = 1 := rfl
  have e2 : (1 + x / 20).toInt = 1 + x.toInt / 20 := by rw [ti_add (by omega) (by omega), e, e1]
  refine ⟨by rw [Int32.le_iff_toInt_le, e2, e1]; omega, fun z => ?_⟩
  rw [z, show (0 : Int32).toInt = 0 from rfl] at e2
  omega
theorem sim_scarTurns : SIM_scarTurns RELF := by
  intro j r w sums ns sw np pw nf fw spw q t n rr ww hj hR x1
  obtain ⟨ow, h0⟩ := id hR
  have h := h0.beg
  have hS8 := h.wr.nS
  obtain ⟨Sk, hK⟩ := h.iv.sk
  have eS : n (rr (rr q 1) 9) = Sk := nI_inj (by omega) (by have := hK.hS; omega) (h.wr.cS.symm.trans hK.cS)
  unfold wp_X8_scarTurns
  rw [h.wr.cS, x_min (N := 8) (a := 8) hS8 (by decide) rfl]
  refine x_idx (k := n (rr (rr q 1) 9)) (nI_toInt (by omega)) (fun hin => ⟨vp_mono hin hS8, ?_⟩) (fun hout => ⟨rfl, ?_⟩)
  · have hx := vp_lt hin
    have hb := hK.be x1.toNatClampNeg (by omega)
    have hU := h.iv.ib.tu
    have hsh := shV_rg (f := w 6) (U := 3000 + 3000 * (j : Int)) (by omega) hU (vp_lt hb)
    have hg := grw_ok hsh.1 (by omega)
    refine x_shear (post := fun r1 => _) hb ⟨fun _ => ⟨hg.2, ?_⟩, fun z => absurd hg.1 z⟩
    have c16 : up2 ww q 0 0 (rr (rr (rr q 1) 9) x1.toNatClampNeg) 0 = w 16 x1.toNatClampNeg := h.k.rc (p := 16) (Or.inl ⟨rfl, rfl⟩) hx
    have c17 : up2 ww q 0 0 (rr (rr (rr q 1) 9) x1.toNatClampNeg) 2 = w 17 x1.toNatClampNeg := h.k.rc (p := 17) (Or.inr (Or.inl ⟨rfl, rfl⟩)) hx
    have c18 : up2 ww q 0 0 (rr (rr (rr q 1) 9) x1.toNatClampNeg) 1 = w 18 x1.toNatClampNeg := h.k.rc (p := 18) (Or.inr (Or.inr ⟨rfl, rfl⟩)) hx
    have hse : shV (up2 ww q 0 0 (rr (rr q 1) 5)) (w 16 x1.toNatClampNeg).toNatClampNeg = shV (w 6) (w 16 x1.toNatClampNeg).toNatClampNeg := shV_eq (vp_lt hb) (fun k hk => h.k.rb hk)
    unfold MM_scarTurns wp_X13_scarTurns
    refine m_begins (t := t) (n := n) (rr := rr) (m_noScar up2_q (by omega) (fun _ => ⟨fun _ => ⟨hin, ?_⟩, fun z => absurd rfl z⟩) (fun z => absurd hin z))
    refine m_shear (by rw [c16]; exact hb) ?_
    rw [c16, hse, c17, c18]
    exact ⟨hg.2, up2_q, fun _ => rfl, rf_T j r w sums ns sw np pw nf fw spw q t n rr ww hR _ up2_off⟩
  · unfold MM_scarTurns wp_X13_scarTurns
    exact m_begins (t := t) (n := n) (rr := rr) (m_noScar up2_q (by omega) (fun z => absurd z hout) (fun _ => ⟨fun z => absurd z (by decide), fun _ => ⟨up2_q, fun z => absurd z (by decide), rf_T j r w sums ns sw np pw nf fw spw q t n rr ww hR _ up2_off2⟩⟩))
