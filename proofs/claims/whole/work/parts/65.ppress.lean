/-! THE PURE SIDE: pressure -/
def prV : Nat → UInt32
  | 0 => 1036831949
  | k + 1 => FP.fmul (prV k) 0x40000000
theorem prV_ok : ∀ k : Fin 10, vf_n32 (prV k.1) ∧ vf_n64 (FP.f2d (prV k.1)) := by
  unfold vf_n32 vf_n64
  decide +kernel
theorem x_pr {post : UInt32 → Prop} {xpost : Nat → Prop} {r w : Dt} {j : Nat} (hj : j < 10) (h : post (prV j)) : ∀ d k : Nat, k + d = j → wp_X8_pressure_11 post xpost (d + 1) (nI j) (prV k) (nI k) r w := by
  intro d
  induction d with
  | zero =>
    intro k hk
    have e : k = j := by omega
    subst e
    exact ⟨fun _ => h, fun g => absurd (nI_le (Nat.le_refl _) (by omega)) g⟩
  | succ d ih =>
    intro k hk
    refine ⟨fun g => absurd g ?_, fun _ => ⟨(prV_ok ⟨k + 1, by omega⟩).1, ?_⟩⟩
    · rw [nI_leI (by omega) (by omega)]
      omega
    · rw [nI_1]
      exact ih (k + 1) (by omega)
theorem m_pr {t n : Nat → Nat} {rr : Nat → Nat → Nat} {post : UInt32 → Dt → Prop} {w : Dt} {j : Nat} (hj : j < 10) (h : post (prV j) w) : ∀ d k : Nat, k + d = j → wp_X13_pressure_19 post t n rr (d + 1) (nI j) (prV k) (nI k) w := by
  intro d
  induction d with
  | zero =>
    intro k hk
    have e : k = j := by omega
    subst e
    exact ⟨fun _ => h, fun g => absurd (nI_le (Nat.le_refl _) (by omega)) g⟩
  | succ d ih =>
    intro k hk
    refine ⟨fun g => absurd g ?_, fun _ => ⟨(prV_ok ⟨k + 1, by omega⟩).1, ?_⟩⟩
    · rw [nI_leI (by omega) (by omega)]
      omega
    · rw [nI_1]
      exact ih (k + 1) (by omega)
theorem sim_pressure (Rel : RLT) (hT : R_T Rel) : SIM_pressure Rel := by
  intro j r w sums ns sw np pw nf fw spw q t n rr ww hj hR x1
  refine x_idx (k := 10) rfl (fun hin => ?_) (fun hout => ⟨rfl, ?_⟩)
  · obtain ⟨i, hi, rfl⟩ := vp_in_of hin (by decide)
    refine ⟨i + 1, x_pr (k := 0) hi ⟨(prV_ok ⟨i, hi⟩).2, ?_⟩ i (by omega)⟩
    unfold MM_pressure wp_X13_pressure
    exact m_begins (t := t) (n := n) (rr := rr) (m_noLevel up2_q (fun _ => ⟨fun _ => ⟨i + 1, m_pr (k := 0) hi ⟨up2_q, fun _ => rfl, hT j r w sums ns sw np pw nf fw spw q t n rr ww hR _ up2_off⟩ i (by omega)⟩, fun h => absurd rfl h⟩) (fun h => absurd hin h))
  · unfold MM_pressure wp_X13_pressure
    exact m_begins (t := t) (n := n) (rr := rr) (m_noLevel up2_q (fun h => absurd h hout) (fun _ => ⟨fun h => absurd h (by decide), fun _ => ⟨up2_q, fun h => absurd h (by decide), hT j r w sums ns sw np pw nf fw spw q t n rr ww hR _ up2_off2⟩⟩))
