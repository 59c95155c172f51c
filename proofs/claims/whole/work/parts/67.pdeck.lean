/-! THE PURE SIDE: deck -/
def dkV (f : Nat → Int32) : Nat → Int32 × Int32
  | 0 => (-1, 0)
  | k + 1 => if f k ≤ (dkV f k).2 then dkV f k else (nI k, f k)
theorem dkV_1 (f : Nat → Int32) : ∀ k : Nat, (dkV f k).1 = -1 ∨ ∃ i, i < k ∧ (dkV f k).1 = nI i
  | 0 => Or.inl rfl
  | k + 1 => by
    show (if f k ≤ (dkV f k).2 then dkV f k else (nI k, f k)).1 = -1 ∨ ∃ i, i < k + 1 ∧ (if f k ≤ (dkV f k).2 then dkV f k else (nI k, f k)).1 = nI i
    split
    · rcases dkV_1 f k with h | ⟨i, h1, h2⟩
      · exact Or.inl h
      · exact Or.inr ⟨i, by omega, h2⟩
    · exact Or.inr ⟨k, by omega, rfl⟩
theorem dkV_eq {f g : Nat → Int32} (h : ∀ k, k < 10 → f k = g k) : ∀ k : Nat, k ≤ 10 → dkV f k = dkV g k
  | 0, _ => rfl
  | k + 1, hk => by
    show (if f k ≤ (dkV f k).2 then dkV f k else (nI k, f k)) = (if g k ≤ (dkV g k).2 then dkV g k else (nI k, g k))
    rw [dkV_eq h k (by omega), h k (by omega)]
theorem x_dk {post : Int32 → Prop} {w : Dt} {x : Int32} (hx : vp_in x 3) (h : post (dkV (fun k => w (k + 32) x.toNatClampNeg) 10).1) : ∀ d k : Nat, k + d = 10 → wp_X1_iciestLevel_7 post (d + 1) x (dkV (fun k => w (k + 32) x.toNatClampNeg) k).1 (dkV (fun k => w (k + 32) x.toNatClampNeg) k).2 (nI k) w := by
  intro d
  induction d with
  | zero =>
    intro k hk
    have e : k = 10 := by omega
    subst e
    exact ⟨fun _ => h, fun g => absurd (nI_le (a := 10) (b := 10) (by omega) (by omega)) g⟩
  | succ d ih =>
    intro k hk
    have hs : dkV (fun k => w (k + 32) x.toNatClampNeg) (k + 1) = if w (k + 32) x.toNatClampNeg ≤ (dkV (fun k => w (k + 32) x.toNatClampNeg) k).2 then dkV (fun k => w (k + 32) x.toNatClampNeg) k else (nI k, w (k + 32) x.toNatClampNeg) := rfl
    have h1 := ih (k + 1) (by omega)
    rw [hs] at h1
    refine ⟨fun g => absurd g ?_, fun _ => ⟨vp_in_nI (by omega) (by omega), hx, fun g => ?_, fun g v e => ?_⟩⟩
    · rw [show (10 : Int32) = nI 10 from rfl, nI_leI (by omega) (by omega)]
      omega
    · rw [nI_clamp (by omega)] at g
      rw [if_pos g, ← nI_1] at h1
      exact h1
    · subst e
      rw [nI_clamp (by omega)] at g ⊢
      rw [if_neg g, ← nI_1] at h1
      exact h1
theorem m_dk {t n : Nat → Nat} {rr : Nat → Nat → Nat} {W : Dt} {q : Nat} {post : Int32 → Dt → Prop} {x : Int32} (hx : vp_in x 3) (h0 : W q 0 = 0) (ha : ¬ (dkV (fun k => W (rr (rr (rr q 1) 2) k) x.toNatClampNeg) 10).1 = -1 → post (dkV (fun k => W (rr (rr (rr q 1) 2) k) x.toNatClampNeg) 10).1 W) (hb : (dkV (fun k => W (rr (rr (rr q 1) 2) k) x.toNatClampNeg) 10).1 = -1 → post (-1) (up2 W q 0 2)) : ∀ d k : Nat, k + d = 10 → wp_X13_deck_38 post t n rr (d + 1) q x (dkV (fun k => W (rr (rr (rr q 1) 2) k) x.toNatClampNeg) k).1 (dkV (fun k => W (rr (rr (rr q 1) 2) k) x.toNatClampNeg) k).2 (nI k) W := by
  intro d
  induction d with
  | zero =>
    intro k hk
    have e : k = 10 := by omega
    subst e
    refine ⟨fun _ => ⟨fun g => ?_, fun g => ?_⟩, fun g => absurd (nI_le (a := 10) (b := 10) (by omega) (by omega)) g⟩
    · exact m_ok h0 ⟨fun _ => ha g, fun z => absurd rfl z⟩
    · exact m_bad h0 (by decide) ⟨fun z => absurd z (by decide), fun _ => hb g⟩
  | succ d ih =>
    intro k hk
    have hs : dkV (fun k => W (rr (rr (rr q 1) 2) k) x.toNatClampNeg) (k + 1) = if W (rr (rr (rr q 1) 2) k) x.toNatClampNeg ≤ (dkV (fun k => W (rr (rr (rr q 1) 2) k) x.toNatClampNeg) k).2 then dkV (fun k => W (rr (rr (rr q 1) 2) k) x.toNatClampNeg) k else (nI k, W (rr (rr (rr q 1) 2) k) x.toNatClampNeg) := rfl
    have h1 := ih (k + 1) (by omega)
    rw [hs] at h1
    have hin : vp_in (nI k) 10 := vp_in_nI (by omega) (by omega)
    refine ⟨fun g => absurd g ?_, fun _ => ⟨hin, hx, fun g => ⟨hin, hx, fun v e => ?_⟩, fun g => ⟨hin, hx, fun v e => ?_⟩⟩⟩
    · rw [show (10 : Int32) = nI 10 from rfl, nI_leI (by omega) (by omega)]
      omega
    · rw [nI_clamp (by omega)] at g e
      rw [if_neg (Int32.not_lt.mpr g)] at e
      subst e
      rw [if_pos g, ← nI_1] at h1
      exact h1
    · rw [nI_clamp (by omega)] at g e
      rw [if_pos (Int32.not_le.mp g)] at e
      subst e
      rw [if_neg g, ← nI_1] at h1
      exact h1
theorem sim_deck (Rel : RLT) (hT : R_T Rel) (hr : R_rd Rel (fun w n rr ww q => ∀ k, k < 10 → rr (rr (rr q 1) 2) k ≠ q ∧ ∀ v, v < 3 → w (k + 32) v = ww (rr (rr (rr q 1) 2) k) v)) : SIM_deck Rel := by
  intro j r w sums ns sw np pw nf fw spw q t n rr ww hj hR x1
  have e0 : (0 : Int64).toInt = 0 := rfl
  have e2 : (2 : Int64).toInt = 2 := rfl
  refine x_idx (k := 3) rfl (fun hin => ?_) (fun hout => ⟨Or.inl rfl, ?_⟩)
  · have hfg : ∀ k, k < 10 → w (k + 32) x1.toNatClampNeg = up2 ww q 0 0 (rr (rr (rr q 1) 2) k) x1.toNatClampNeg := fun k hk => by
      obtain ⟨h1, h2⟩ := hr j r w sums ns sw np pw nf fw spw q t n rr ww hR k hk
      rw [h2 _ (vp_lt hin)]
      exact (up2_off _ _ fun z => h1 z.1).symm
    have hE := dkV_eq (f := fun k => w (k + 32) x1.toNatClampNeg) (g := fun k => up2 ww q 0 0 (rr (rr (rr q 1) 2) k) x1.toNatClampNeg) hfg 10 (by omega)
    have i1 := vp_i64.mp hin
    refine ⟨11, x_dk hin ⟨fun g => ?_, fun g => ⟨Or.inr rfl, ?_⟩⟩ 10 0 rfl⟩
    · unfold MM_deck wp_X13_deck
      refine m_begins (t := t) (n := n) (rr := rr) (m_in (fun _ _ => ⟨fun _ => m_ok up2_q ⟨fun _ => ⟨11, m_dk hin up2_q (fun z => ⟨up2_q, fun _ => congrArg Prod.fst hE, hT j r w sums ns sw np pw nf fw spw q t n rr ww hR _ up2_off⟩) (fun z => ?_) 10 0 rfl⟩, fun g => absurd rfl g⟩, fun g => absurd g (by decide)⟩) (fun g => absurd ⟨by omega, by omega⟩ g))
      rw [hE, z] at g
      exact absurd g (by decide)
    · unfold MM_deck wp_X13_deck
      refine m_begins (t := t) (n := n) (rr := rr) (m_in (fun _ _ => ⟨fun _ => m_ok up2_q ⟨fun _ => ⟨11, m_dk hin up2_q (fun z => ?_) (fun z => ⟨up2_q, fun h => absurd h (by decide), hT j r w sums ns sw np pw nf fw spw q t n rr ww hR _ up2_off2⟩) 10 0 rfl⟩, fun g => absurd rfl g⟩, fun g => absurd g (by decide)⟩) (fun g => absurd ⟨by omega, by omega⟩ g))
      rcases dkV_1 (fun k => w (k + 32) x1.toNatClampNeg) 10 with e | ⟨i, hi, e⟩
      · rw [hE] at e
        exact absurd e z
      · rw [e] at g
        exact absurd (nI_pos' (by omega)) g
  · unfold MM_deck wp_X13_deck
    refine m_begins (t := t) (n := n) (rr := rr) (m_in (fun a b => absurd (vp_i64.mpr (by omega)) hout) (fun _ => ⟨fun g => absurd rfl g, fun _ => ?_⟩))
    exact m_bad up2_q (by decide) ⟨fun g => absurd g (by decide), fun _ => ⟨up2_q, fun h => absurd h (by decide), hT j r w sums ns sw np pw nf fw spw q t n rr ww hR _ up2_off2⟩⟩
