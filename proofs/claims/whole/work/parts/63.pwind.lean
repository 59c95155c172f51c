/-! THE PURE SIDE: winds and shears -/
def wdV (x : Int32) : Int32 := (ch246 (if 6 ≤ x then 11 - x else x) - 48) + (if x = 5 ∨ x = 6 then 1 else 0)
theorem wdV_eq : ∀ j : Fin 12, wdV (nI j.1) = fWid j.1 ∧ vp_in (if 6 ≤ nI j.1 then 11 - nI j.1 else nI j.1) 6 ∧ 1 ≤ fWid j.1 ∧ ¬ fWid j.1 = 0 := by
  unfold vp_in
  decide +kernel
section PUREW
variable {t n : Nat → Nat} {rr : Nat → Nat → Nat} {ww : Dt} {q a : Nat}
theorem m_width {post : Int32 → Prop} {x : Int32} (hx : vp_in x 12) (h : post (fWid x.toNatClampNeg)) : wp_X13_width post t n rr ww x := by
  obtain ⟨j, hj, rfl⟩ := vp_in_of hx (by decide)
  rw [nI_clamp (by omega)] at h
  obtain ⟨e1, e2, -⟩ := wdV_eq ⟨j, hj⟩
  dsimp only at e1 e2
  rw [← e1] at h
  unfold wdV at h
  refine ⟨fun g => ?_, fun g => ?_⟩
  · rw [if_pos g] at h e2
    refine ⟨e2, fun g5 => ?_, fun g5 => ⟨fun g6 => ?_, fun g6 => ?_⟩⟩
    · rw [if_pos (Or.inl g5)] at h
      exact h
    · rw [if_neg (fun z => z.elim g5 g6)] at h
      exact h
    · rw [if_pos (Or.inr g6)] at h
      exact h
  · rw [if_neg g] at h e2
    refine ⟨e2, fun g5 => ?_, fun g5 => ⟨fun g6 => ?_, fun g6 => ?_⟩⟩
    · rw [if_pos (Or.inl g5)] at h
      exact h
    · rw [if_neg (fun z => z.elim g5 g6)] at h
      exact h
    · rw [if_pos (Or.inr g6)] at h
      exact h
theorem m_wind {post : Int32 → Prop} {x : Int32} (hx : vp_in x 12) (h : post (ww (rr a 5) x.toNatClampNeg / fWid x.toNatClampNeg)) : wp_X12_wind post t n rr ww a x := by
  refine ⟨hx, m_width hx ⟨?_, h⟩⟩
  obtain ⟨j, hj, rfl⟩ := vp_in_of hx (by decide)
  rw [nI_clamp (by omega)]
  exact (wdV_eq ⟨j, hj⟩).2.2.2
theorem x_wind {post : Int32 → Prop} {w : Dt} {x : Int32} (hx : vp_in x 12) (h : post (w 6 x.toNatClampNeg / fWid x.toNatClampNeg)) : wp_X0_windOf post w x := by
  obtain ⟨j, hj, rfl⟩ := vp_in_of hx (by decide)
  obtain ⟨-, -, e3, e4⟩ := wdV_eq ⟨j, hj⟩
  dsimp only at e3 e4
  refine ⟨fun g => absurd (Or.inl g) hx, fun _ => ⟨fun g => absurd g ?_, fun _ => ⟨hx, fun _ => ⟨hx, ?_, h⟩, fun g => ?_⟩⟩⟩
  · rw [show (12 : Int32) = nI 12 from rfl, nI_leI (by omega) (by omega)]
    omega
  · rw [nI_clamp (by omega)]
    exact e4
  · rw [nI_clamp (by omega)] at g
    exact absurd e3 g
/-- the neighbours of a belt -/
theorem sh_nb : ∀ j : Fin 12, ((if (nI j.1 - 1) < 0 then 0 else (nI j.1 - 1)) = nI (j.1 - 1) ∧ (if 11 < (nI j.1 + 1) then 11 else (nI j.1 + 1)) = nI (min 11 (j.1 + 1))) ∧ ((if 0 < (nI j.1 - 1) then (nI j.1 - 1) else 0) = nI (j.1 - 1) ∧ (if (nI j.1 + 1) < 11 then (nI j.1 + 1) else 11) = nI (min 11 (j.1 + 1))) := by decide +kernel
def shV (f : Nat → Int32) (j : Nat) : Int32 := if 0 ≤ (f (j - 1) / fWid (j - 1) - f (min 11 (j + 1)) / fWid (min 11 (j + 1))) then (f (j - 1) / fWid (j - 1) - f (min 11 (j + 1)) / fWid (min 11 (j + 1))) else 0 - (f (j - 1) / fWid (j - 1) - f (min 11 (j + 1)) / fWid (min 11 (j + 1)))
theorem x_shear {post : Int32 → Prop} {w : Dt} {x : Int32} (hx : vp_in x 12) (h : post (shV (w 6) x.toNatClampNeg)) : wp_X0_shearOf post w x := by
  obtain ⟨j, hj, rfl⟩ := vp_in_of hx (by decide)
  rw [nI_clamp (by omega)] at h
  obtain ⟨⟨e1, e2⟩, -⟩ := sh_nb ⟨j, hj⟩
  dsimp only at e1 e2
  intro v1 h1 v2 h2
  rw [e1] at h1
  rw [e2] at h2
  subst h1
  subst h2
  refine x_wind (vp_in_nI (by omega) (by omega)) (x_wind (vp_in_nI (by omega) (by omega)) ?_)
  rw [nI_clamp (by omega), nI_clamp (by omega)]
  exact h
theorem m_shear {post : Int32 → Prop} {x : Int32} (hx : vp_in x 12) (h : post (shV (ww (rr a 5)) x.toNatClampNeg)) : wp_X12_shear post t n rr ww a x := by
  obtain ⟨j, hj, rfl⟩ := vp_in_of hx (by decide)
  rw [nI_clamp (by omega)] at h
  obtain ⟨-, e1, e2⟩ := sh_nb ⟨j, hj⟩
  dsimp only at e1 e2
  unfold wp_X12_shear
  rw [e1, e2]
  refine m_wind (vp_in_nI (by omega) (by omega)) (m_wind (vp_in_nI (by omega) (by omega)) ?_)
  rw [nI_clamp (by omega), nI_clamp (by omega)]
  exact h
theorem shV_eq {f g : Nat → Int32} {j : Nat} (hj : j < 12) (h : ∀ k, k < 12 → f k = g k) : shV f j = shV g j := by
  unfold shV
  rw [h (j - 1) (by omega), h (min 11 (j + 1)) (by omega)]
end PUREW
theorem sim_getWind (Rel : RLT) (hT : R_T Rel) (hr : R_rd Rel (fun w n rr ww q => rr (rr q 1) 5 ≠ q ∧ ∀ k, k < 12 → w 6 k = ww (rr (rr q 1) 5) k)) : SIM_getWind Rel := by
  intro j r w sums ns sw np pw nf fw spw q t n rr ww hj hR x1
  refine x_idx (k := 12) rfl (fun hin => x_wind hin ?_) (fun hout => ⟨rfl, ?_⟩)
  · unfold MM_getWind wp_X13_getWind
    refine m_begins (t := t) (n := n) (rr := rr) (m_noBelt up2_q (fun _ => ⟨fun _ => m_wind hin ⟨up2_q, fun _ => ?_, hT j r w sums ns sw np pw nf fw spw q t n rr ww hR _ up2_off⟩, fun h => absurd rfl h⟩) (fun h => absurd hin h))
    obtain ⟨h1, h2⟩ := hr j r w sums ns sw np pw nf fw spw q t n rr ww hR
    rw [h2 _ (vp_lt hin)]
    exact congrArg (fun z : Int32 => z / fWid x1.toNatClampNeg) (up2_off _ _ fun z => h1 z.1).symm
  · unfold MM_getWind wp_X13_getWind
    exact m_begins (t := t) (n := n) (rr := rr) (m_noBelt up2_q (fun h => absurd h hout) (fun _ => ⟨fun h => absurd h (by decide), fun _ => ⟨up2_q, fun h => absurd h (by decide), hT j r w sums ns sw np pw nf fw spw q t n rr ww hR _ up2_off2⟩⟩))
theorem sim_getShear (Rel : RLT) (hT : R_T Rel) (hr : R_rd Rel (fun w n rr ww q => rr (rr q 1) 5 ≠ q ∧ ∀ k, k < 12 → w 6 k = ww (rr (rr q 1) 5) k)) : SIM_getShear Rel := by
  intro j r w sums ns sw np pw nf fw spw q t n rr ww hj hR x1
  refine x_idx (k := 12) rfl (fun hin => x_shear hin ?_) (fun hout => ⟨rfl, ?_⟩)
  · unfold MM_getShear wp_X13_getShear
    refine m_begins (t := t) (n := n) (rr := rr) (m_noBelt up2_q (fun _ => ⟨fun _ => m_shear hin ⟨up2_q, fun _ => ?_, hT j r w sums ns sw np pw nf fw spw q t n rr ww hR _ up2_off⟩, fun h => absurd rfl h⟩) (fun h => absurd hin h))
    obtain ⟨h1, h2⟩ := hr j r w sums ns sw np pw nf fw spw q t n rr ww hR
    exact shV_eq (vp_lt hin) fun k hk => (h2 k hk).trans (up2_off _ _ fun z => h1 z.1).symm
  · unfold MM_getShear wp_X13_getShear
    exact m_begins (t := t) (n := n) (rr := rr) (m_noBelt up2_q (fun h => absurd h hout) (fun _ => ⟨fun h => absurd h (by decide), fun _ => ⟨up2_q, fun h => absurd h (by decide), hT j r w sums ns sw np pw nf fw spw q t n rr ww hR _ up2_off2⟩⟩))
