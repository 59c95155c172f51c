/-! THE PURE SIDE: what probes and frames read, the beginning -/
theorem rf_snt (j : Nat) (r w : Dt) (sums : Nat → Int64) (ns : Nat) (sw : Nat → Dt) (np : Nat) (pw : Nat → Dt) (nf : Nat) (fw : Nat → Dt) (spw : Dt) (q : Nat) (t n : Nat → Nat) (rr : Nat → Nat → Nat) (ww : Dt) (hR : RELF j r w sums ns sw np pw nf fw spw q t n rr ww) : np ≤ 4 ∧ r 0 6 = nI np ∧ n (rr q 3) = np ∧ ∀ k, k < np → pw k 0 13 = nI (n (rr (rr (rr q 3) k) 9)) := by
  obtain ⟨ow, h⟩ := hR
  refine ⟨h.rp.2.1, h.rp.1, h.rp.2.2, fun k hk => ?_⟩
  obtain ⟨tk, lvl, P⟩ := h.pb k hk
  exact P.cS
theorem rf_lst (j : Nat) (r w : Dt) (sums : Nat → Int64) (ns : Nat) (sw : Nat → Dt) (np : Nat) (pw : Nat → Dt) (nf : Nat) (fw : Nat → Dt) (spw : Dt) (q : Nat) (t n : Nat → Nat) (rr : Nat → Nat → Nat) (ww : Dt) (hR : RELF j r w sums ns sw np pw nf fw spw q t n rr ww) : np ≤ 4 ∧ r 0 6 = nI np ∧ n (rr q 3) = np ∧ ∀ k, k < np → rr (rr q 3) k ≠ q ∧ pw k 0 14 = ww (rr (rr q 3) k) 7 := by
  obtain ⟨ow, h⟩ := hR
  refine ⟨h.rp.2.1, h.rp.1, h.rp.2.2, fun k hk => ?_⟩
  obtain ⟨tk, lvl, P⟩ := h.pb k hk
  exact ⟨h.ne (by rw [P.op]; omega), P.c14⟩
theorem rf_see (j : Nat) (r w : Dt) (sums : Nat → Int64) (ns : Nat) (sw : Nat → Dt) (np : Nat) (pw : Nat → Dt) (nf : Nat) (fw : Nat → Dt) (spw : Dt) (q : Nat) (t n : Nat → Nat) (rr : Nat → Nat → Nat) (ww : Dt) (hR : RELF j r w sums ns sw np pw nf fw spw q t n rr ww) : nf ≤ 6 ∧ r 0 8 = nI nf ∧ n (rr q 4) = nf ∧ ∀ k, k < nf → fw k 0 1 = nI (n (rr (rr (rr q 4) k) 1)) := by
  obtain ⟨ow, h⟩ := hR
  exact ⟨h.rf.2.1, h.rf.1, h.rf.2.2, fun k hk => (h.fb k hk).cK⟩
theorem rf_st : R_rd RELF (fun w n rr ww q => rr q 1 ≠ q ∧ n (rr (rr q 1) 8) ≤ 12 ∧ w 7 0 = nI (n (rr (rr q 1) 8)) ∧ ∀ i, i < n (rr (rr q 1) 8) → rr (rr (rr q 1) 8) i ≠ q ∧ w 8 i = ww (rr (rr (rr q 1) 8) i) 0 ∧ w 9 i = ww (rr (rr (rr q 1) 8) i) 1 ∧ w 10 i = ww (rr (rr (rr q 1) 8) i) 2 ∧ w 11 i = ww (rr (rr (rr q 1) 8) i) 3 ∧ (w 13 i = 1 → w 12 i = ww (rr (rr (rr q 1) 8) i) 4) ∧ ((w 13 i = 1 ∧ ww (rr (rr (rr q 1) 8) i) 5 = 0) ∨ (w 13 i = 0 ∧ ww (rr (rr (rr q 1) 8) i) 5 = 1))) := fun j r w sums ns sw np pw nf fw spw q t n rr ww hR => by
  obtain ⟨ow, h⟩ := hR
  exact h.storms
theorem relf_b : RLB RELF := fun j r w sums ns sw np pw nf fw spw q t n rr ww hR => by
  obtain ⟨ow, h⟩ := hR
  exact ⟨⟨h.rs.1, h.rs.2.1⟩, ow, h.mono⟩
theorem cw0_2 : ∀ k : Fin 10, cw0 2 k.val = warm0 zw 2 10 2 k.val := by decide +kernel
theorem cw0_te : ∀ k : Fin 10, 0 ≤ (cw0 2 k.val).toInt ∧ (cw0 2 k.val).toInt ≤ 1000 := by decide +kernel
theorem warm0_ne {w : Dt} {a p : Nat} (hp : p ≠ a) : ∀ m, warm0 w a m p = w p
  | 0 => rfl
  | m + 1 => by
    show up2 (warm0 w a m) a m _ p = w p
    rw [up2_ne hp, warm0_ne hp m]
theorem cw0_z {p k : Nat} (h : ¬ (p = 1 ∧ (k = 3 ∨ k = 5))) (h2 : p ≠ 2) : cw0 p k = 0 := by
  unfold cw0
  split
  · split
    · exact absurd ⟨rfl, Or.inl rfl⟩ h
    · exact absurd ⟨rfl, Or.inr rfl⟩ h
    · rfl
  · exact absurd rfl h2
  · rfl
theorem inv0 : INVj 0 cw0 := by
  have z : ∀ p k, 3 ≤ p → cw0 p k = 0 := fun p k hp => cw0_z (by omega) (by omega)
  have z1 : ∀ p, ¬ (p = 3 ∨ p = 5) → cw0 1 p = 0 := fun p hp => cw0_z (by omega) (by omega)
  have e0 : (0 : Int32).toInt = 0 := rfl
  have hT : TOT cw0 = 0 := by decide +kernel
  refine ⟨⟨by decide +kernel, fun k hk => ?_, fun p v _ _ => by rw [z _ _ (by omega)]; decide, by rw [hT, z1 7 (by omega)]; rfl, by rw [hT]; omega, by decide +kernel⟩, ⟨fun k _ => by rw [z _ _ (by omega), e0]; omega, by rw [z _ _ (by omega)]; decide, by decide +kernel⟩, ⟨0, 0, fun _ => 0, 0, ⟨by omega, z _ _ (by omega), fun i _ => by rw [z _ _ (by omega)]; decide, fun i _ => Or.inl (z _ _ (by omega)), fun i hi => absurd hi (by omega), fun i hi => absurd hi (by omega), fun i hi => absurd hi (by omega), fun i i' hi => absurd hi (by omega), fun i hi => absurd hi (by omega), fun i hi => absurd hi (by omega), rfl⟩, ⟨by omega, z _ _ (by omega), fun i _ => by rw [z _ _ (by omega)]; decide⟩⟩, ⟨0, by omega, z _ _ (by omega), fun i hi => absurd hi (by omega)⟩, ?_⟩
  · have := cw0_te ⟨k, hk⟩
    dsimp only at this
    omega
  · rw [cw0_z (by omega) (by omega), e0]
    omega
set_option maxHeartbeats 4000000 in
theorem relf_0 : RL0 RELF := fun q t n rr ww hN => by
  obtain ⟨qw, qs, qp, qf, t4, n4, r4, w4, h4, l1, l2, l3, l4, ht, -, et, en, er, ew⟩ := hN
  obtain ⟨ow, hg, -⟩ := new_w (ow := fun _ => 0) (b := 1000) (fun c hc => absurd rfl hc) (Nat.le_refl _) h4
  have hz : ∀ c, t4 c = 0 → ow c = 0 := fun c hc => Decidable.byContradiction fun z => hg.fr c z hc
  have t0 : ∀ c, (c < qw ∨ qs ≤ c) → t4 c = 0 := fun c hc => Decidable.byContradiction fun z => by have := ht c z; omega
  have oq := hz q (t0 q (by omega))
  have os := hz qs (t0 qs (by omega))
  have op := hz qp (t0 qp (by omega))
  have of := hz qf (t0 qf (by omega))
  have hO : ∃ ow1 : Nat → Nat, (∀ c, c ≠ q → c ≠ qs → c ≠ qp → c ≠ qf → ow1 c = ow c) ∧ ow1 q = 1 ∧ ow1 qs = 2 ∧ ow1 qp = 3 ∧ ow1 qf = 4 := ⟨va_up (va_up (va_up (va_up ow q 1) qs 2) qp 3) qf 4, fun c a1 a2 a3 a4 => by rw [vup_ne a4, vup_ne a3, vup_ne a2, vup_ne a1], by rw [vup_ne (by omega), vup_ne (by omega), vup_ne (by omega), vup_eq], by rw [vup_ne (by omega), vup_ne (by omega), vup_eq], by rw [vup_ne (by omega), vup_eq], vup_eq _ _ _⟩
  obtain ⟨ow1, w0, w1, w2, w3, w5⟩ := hO
  obtain ⟨wa, ewa⟩ : ∃ wa : Dt, wa = va_up (va_up (va_up (va_up w4 qs (fun _ => 0)) qp (fun _ => 0)) qf (fun _ => 0)) q (fun _ => 0) := ⟨_, rfl⟩
  rw [← ewa] at ew
  have hk : ∀ c, ow c ≠ 0 → ow1 c = ow c ∧ n c = n4 c ∧ rr c = r4 c ∧ wa c = w4 c := fun c hc => by
    have a1 : c ≠ q := fun z => hc (by rw [z]; exact oq)
    have a2 : c ≠ qs := fun z => hc (by rw [z]; exact os)
    have a3 : c ≠ qp := fun z => hc (by rw [z]; exact op)
    have a4 : c ≠ qf := fun z => hc (by rw [z]; exact of)
    exact ⟨w0 c a1 a2 a3 a4, by rw [en, vup_ne a4, vup_ne a3, vup_ne a2], by rw [er, vup_ne a1], by rw [ewa, vup_ne a1, vup_ne a4, vup_ne a3, vup_ne a2]⟩
  have hW : WR ow1 n rr wa 1000 qw zw := hg.wr.keep (fun c hc => hk c (by omega))
  have hwm : ∀ m, m ≤ 10 → WK ow1 n rr wa 1000 qw (warm0 wa (rr qw 0) m) (warm0 zw 2 m) := fun m => by
    induction m with
    | zero => exact fun _ => WK.rfl0 (Nat.le_refl _) hW
    | succ m ih => exact fun hm => (ih (by omega)).t (by omega) (100 + 20 * nI m)
  have hW1 := (hwm 10 (by omega)).2.1
  rw [← ew] at hW1
  have hW2 : WR ow1 n rr ww 1000 qw cw0 := hW1.cg (fun p k hd h1 h5 => by
    by_cases z2 : p = 2
    · subst z2
      have hk : k < 10 := by unfold dm at hd; omega
      exact cw0_2 ⟨k, hk⟩
    · rw [warm0_ne z2]
      by_cases z1 : p = 1 ∧ k = 3
      · obtain ⟨rfl, rfl⟩ := z1
        rfl
      · rw [cw0_z (by omega) z2]
        unfold zw
        rw [if_neg z1])
  have r1 : rr q 1 = qw := by rw [er, vup_eq]; rfl
  have r2 : rr q 2 = qs := by rw [er, vup_eq]; rfl
  have r3 : rr q 3 = qp := by rw [er, vup_eq]; rfl
  have r4' : rr q 4 = qf := by rw [er, vup_eq]; rfl
  refine ⟨ow1, fun c hc => ?_, w1, by rw [r2]; exact w2, by rw [r3]; exact w3, by rw [r4']; exact w5, by rw [r1]; exact hW2, inv0, ⟨rfl, by omega, by rw [r2, en, vup_ne (by omega), vup_ne (by omega), vup_eq]⟩, fun i hi => absurd hi (by omega), ⟨rfl, by omega, by rw [r3, en, vup_ne (by omega), vup_eq]⟩, fun i hi => absurd hi (by omega), ⟨rfl, by omega, by rw [r4', en, vup_eq]⟩, fun i hi => absurd hi (by omega), fun c => ?_⟩
  · rw [et]
    by_cases a1 : c = q
    · rw [a1, vup_eq]; decide
    · rw [vup_ne a1]
      by_cases a4 : c = qf
      · rw [a4, vup_eq]; decide
      · rw [vup_ne a4]
        by_cases a3 : c = qp
        · rw [a3, vup_eq]; decide
        · rw [vup_ne a3]
          by_cases a2 : c = qs
          · rw [a2, vup_eq]; decide
          · rw [vup_ne a2]
            rw [w0 c a1 a2 a3 a4] at hc
            exact hg.fr c hc
  · by_cases a1 : c = q
    · rw [a1, w1]; omega
    · by_cases a2 : c = qs
      · rw [a2, w2]; omega
      · by_cases a3 : c = qp
        · rw [a3, w3]; omega
        · by_cases a4 : c = qf
          · rw [a4, w5]; omega
          · rw [w0 c a1 a2 a3 a4]
            rcases hg.nw c with z | z | z
            · rw [z]; omega
            · omega
            · omega
/-- the relation holds -/
theorem relf_all : SIMS RELF :=
  ⟨sim_setTemperature RELF rf_T rf_t rf_temp, sim_getTemperature RELF rf_T rf_t, sim_setVapour2 RELF rf_T rf_v rf_vap, sim_getVapour RELF rf_T rf_v, sim_getIce RELF rf_T rf_i, sim_deck RELF rf_T rf_i, sim_setCore RELF rf_T rf_13 rf_core, sim_getRadiated RELF rf_T rf_14, sim_pressure RELF rf_T, sim_setTurning RELF rf_T rf_b rf_turng, sim_getTurning RELF rf_T rf_b, sim_getWind RELF rf_T rf_b, sim_getShear RELF rf_T rf_b, sim_stir2 RELF rf_T rf_b rf_stir, sim_setDrag RELF rf_T rf_51 rf_drag, sim_getDeep RELF rf_T rf_52,
    sim_addStorm, sim_nameStorm, sim_findName RELF rf_T rf_st rf_un, sim_getLongitude RELF rf_T rf_st, sim_getSize RELF rf_T rf_st, sim_getAge RELF rf_T rf_st, sim_isThere RELF rf_T rf_st, sim_livesIn, sim_burst, sim_strike, sim_getWidth RELF rf_T rf_sc, sim_scarTurns, sim_turn, sim_dropProbe, sim_tick, sim_sent RELF rf_T rf_snt, sim_sentAt, sim_lost RELF rf_T rf_lst, sim_frame, sim_countSeen RELF rf_T rf_see, sim_placeIn, sim_drift, sim_save, sim_load, sim_happenings RELF rf_T rf_nt, sim_happening RELF rf_T rf_nt, sim_happenedTo RELF rf_T rf_nt, sim_checksum, sim_thereShare, sim_meanWind, sim_isSound⟩
