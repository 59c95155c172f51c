/-! THE PURE SIDE: names -/
def Fnd (B : Nat → Prop) (C : Nat) (v : Int32) : Prop := (v = -1 ∧ ∀ i, i < C → ¬ B i) ∨ ∃ i, i < C ∧ B i ∧ v = nI i
theorem Fnd.eq {B : Nat → Prop} {C : Nat} {v v' : Int32} (h : Fnd B C v) (h' : Fnd B C v') (hu : ∀ i i', i < C → i' < C → B i → B i' → i = i') : v = v' := by
  rcases h with ⟨e, h⟩ | ⟨i, h1, h2, e⟩
  · rcases h' with ⟨e', -⟩ | ⟨i', h1', h2', -⟩
    · rw [e, e']
    · exact absurd h2' (h i' h1')
  · rcases h' with ⟨-, h'⟩ | ⟨i', h1', h2', e'⟩
    · exact absurd h2 (h' i h1)
    · rw [e, e', hu i i' h1 h1' h2 h2']
theorem Fnd.iff {B B' : Nat → Prop} {C : Nat} {v : Int32} (h : Fnd B C v) (hb : ∀ i, i < C → (B i ↔ B' i)) : Fnd B' C v := by
  rcases h with ⟨e, h⟩ | ⟨i, h1, h2, e⟩
  · exact Or.inl ⟨e, fun i hi z => h i hi ((hb i hi).mpr z)⟩
  · exact Or.inr ⟨i, h1, (hb i h1).mp h2, e⟩
theorem x_bearer {post : Int32 → Prop} {w : Dt} {c : Int32} {C : Nat} (hC : C ≤ 12) (hw : w 7 0 = nI C) (h : ∀ v, Fnd (fun i => ¬ w 13 i = 0 ∧ w 12 i = c) C v → post v) : wp_X6_bearerOf post w c := by
  have key : ∀ d k : Nat, k + d = C → (∀ i, i < k → ¬ (¬ w 13 i = 0 ∧ w 12 i = c)) → wp_X6_bearerOf_2 post (d + 1) c (nI k) w := by
    intro d
    induction d with
    | zero =>
      intro k hk hn
      have e : k = C := by omega
      subst e
      exact ⟨fun _ => h _ (Or.inl ⟨rfl, hn⟩), fun g => absurd (by rw [hw]; exact nI_le (Nat.le_refl _) (by omega)) g⟩
    | succ d ih =>
      intro k hk hn
      have hlt : ¬ nI C ≤ nI k := by
        rw [nI_leI (by omega) (by omega)]
        omega
      have h12 : ¬ (12 : Int32) ≤ nI k := by
        rw [show (12 : Int32) = nI 12 from rfl, nI_leI (by omega) (by omega)]
        omega
      have next : ¬ (¬ w 13 k = 0 ∧ w 12 k = c) → wp_X6_bearerOf_2 post (d + 1) c (nI k + 1) w := fun z => by
        rw [nI_1]
        exact ih (k + 1) (by omega) fun i hi => by
          by_cases e : i = k
          · rw [e]
            exact z
          · exact hn i (by omega)
      refine ⟨fun g => absurd (hw ▸ g) hlt, fun _ => ⟨fun g => absurd g h12, fun _ => ⟨vp_in_nI (by omega) (by omega), ?_, ?_⟩⟩⟩
      · intro g
        rw [nI_clamp (by omega)] at g
        exact next fun z => z.1 g
      · intro g
        rw [nI_clamp (by omega)] at g ⊢
        exact ⟨fun g2 => next fun z => g2 z.2, fun g2 => h _ (Or.inr ⟨k, by omega, ⟨g, g2⟩, rfl⟩)⟩
  exact ⟨C + 1, key C 0 (by omega) (fun i hi => absurd hi (Nat.not_lt_zero _))⟩
theorem m_named {t n : Nat → Nat} {rr : Nat → Nat → Nat} {W : Dt} {q : Nat} {post : Int32 → Prop} {c : Int32} (hC : n (rr (rr q 1) 8) ≤ 1000) (h : ∀ v, Fnd (fun i => W (rr (rr (rr q 1) 8) i) 5 = 0 ∧ W (rr (rr (rr q 1) 8) i) 4 = c) (n (rr (rr q 1) 8)) v → post v) : wp_X13_named post t n rr W q c := by
  have key : ∀ d k : Nat, k + d = n (rr (rr q 1) 8) → ∀ v, Fnd (fun i => W (rr (rr (rr q 1) 8) i) 5 = 0 ∧ W (rr (rr (rr q 1) 8) i) 4 = c) k v → wp_X13_named_4 post t n rr W (d + 1) q c v (nI k) := by
    intro d
    induction d with
    | zero =>
      intro k hk v hv
      have e : k = n (rr (rr q 1) 8) := by omega
      subst e
      exact ⟨fun _ => h v hv, fun g => absurd (nI_le (Nat.le_refl _) (by omega)) g⟩
    | succ d ih =>
      intro k hk v hv
      have hlt : ¬ nI (n (rr (rr q 1) 8)) ≤ nI k := by
        rw [nI_leI (by omega) (by omega)]
        omega
      have next : ¬ (W (rr (rr (rr q 1) 8) k) 5 = 0 ∧ W (rr (rr (rr q 1) 8) k) 4 = c) → wp_X13_named_4 post t n rr W (d + 1) q c v (nI k + 1) := fun z => by
        rw [nI_1]
        refine ih (k + 1) (by omega) v ?_
        rcases hv with ⟨e, g⟩ | ⟨i, g1, g2, e⟩
        · refine Or.inl ⟨e, fun i hi => ?_⟩
          by_cases e2 : i = k
          · rw [e2]
            exact z
          · exact g i (by omega)
        · exact Or.inr ⟨i, by omega, g2, e⟩
      refine ⟨fun g => absurd g hlt, fun _ => ⟨vp_in_nI (by omega) (by omega), ?_, ?_⟩⟩
      · intro g
        rw [nI_clamp (by omega)] at g
        exact next fun z => g z.1
      · intro g
        rw [nI_clamp (by omega)] at g ⊢
        refine ⟨fun g2 => next fun z => g2 z.2, fun g2 => ?_⟩
        show wp_X13_named_4 post t n rr W (d + 1) q c (nI k) (nI k + 1)
        rw [nI_1]
        exact ih (k + 1) (by omega) _ (Or.inr ⟨k, by omega, ⟨g, g2⟩, rfl⟩)
  exact ⟨n (rr (rr q 1) 8) + 1, key _ 0 (by omega) (-1) (Or.inl ⟨rfl, fun i hi => absurd hi (Nat.not_lt_zero _)⟩)⟩
theorem x_name {post : Unit → Prop} {xpost : Nat → Prop} {x : Int32} (h1 : 65 ≤ x.toInt → x.toInt ≤ 90 → post ()) (h2 : ¬ (65 ≤ x.toInt ∧ x.toInt ≤ 90) → xpost 1) : wp_X8_checkName post xpost x := by
  have f0 : (65 : Int32).toInt = 65 := rfl
  have f9 : (90 : Int32).toInt = 90 := rfl
  refine ⟨fun h => h2 ?_, fun h => ⟨fun g => h1 ?_ ?_, fun g => h2 ?_⟩⟩ <;> simp only [Int32.lt_iff_toInt_lt, Int32.le_iff_toInt_le] at * <;> omega
theorem sim_findName (Rel : RLT) (hT : R_T Rel) (hr : R_rd Rel (fun w n rr ww q => rr q 1 ≠ q ∧ n (rr (rr q 1) 8) ≤ 12 ∧ w 7 0 = nI (n (rr (rr q 1) 8)) ∧ ∀ i, i < n (rr (rr q 1) 8) → rr (rr (rr q 1) 8) i ≠ q ∧ w 8 i = ww (rr (rr (rr q 1) 8) i) 0 ∧ w 9 i = ww (rr (rr (rr q 1) 8) i) 1 ∧ w 10 i = ww (rr (rr (rr q 1) 8) i) 2 ∧ w 11 i = ww (rr (rr (rr q 1) 8) i) 3 ∧ (w 13 i = 1 → w 12 i = ww (rr (rr (rr q 1) 8) i) 4) ∧ ((w 13 i = 1 ∧ ww (rr (rr (rr q 1) 8) i) 5 = 0) ∨ (w 13 i = 0 ∧ ww (rr (rr (rr q 1) 8) i) 5 = 1)))) (hu : R_rd Rel (fun w n rr ww q => ∀ c : Int32, 65 ≤ c.toInt → ∀ i i', i < n (rr (rr q 1) 8) → i' < n (rr (rr q 1) 8) → (¬ w 13 i = 0 ∧ w 12 i = c) → (¬ w 13 i' = 0 ∧ w 12 i' = c) → i = i')) : SIM_findName Rel := by
  intro j r w sums ns sw np pw nf fw spw q t n rr ww hj hR x1
  have e0 : (65 : Int64).toInt = 65 := rfl
  have e9 : (90 : Int64).toInt = 90 := rfl
  have ex : x1.toInt64.toInt = x1.toInt := Int32.toInt_toInt64 x1
  obtain ⟨hq, hC, hw0, hst⟩ := hr j r w sums ns sw np pw nf fw spw q t n rr ww hR
  have hun := hu j r w sums ns sw np pw nf fw spw q t n rr ww hR
  have hiff : ∀ i, i < n (rr (rr q 1) 8) → ((up2 ww q 0 0 (rr (rr (rr q 1) 8) i) 5 = 0 ∧ up2 ww q 0 0 (rr (rr (rr q 1) 8) i) 4 = x1) ↔ (¬ w 13 i = 0 ∧ w 12 i = x1)) := fun i hi => by
    obtain ⟨g1, g2, g3, g4, g5, g6, g7⟩ := hst i hi
    rw [up2_off _ 5 fun z => g1 z.1, up2_off _ 4 fun z => g1 z.1]
    rcases g7 with ⟨z1, z2⟩ | ⟨z1, z2⟩
    · rw [← g6 z1, z1, z2]
      exact ⟨fun h => ⟨by decide, h.2⟩, fun h => ⟨rfl, h.2⟩⟩
    · rw [z1, z2]
      exact ⟨fun h => absurd h.1 (by decide), fun h => absurd rfl h.1⟩
  refine x_name (fun a b => x_bearer hC hw0 fun v hv => ⟨fun g => ?_, fun g => ⟨Or.inr rfl, ?_⟩⟩) (fun hout => ⟨Or.inl rfl, ?_⟩)
  · have hne : ∀ v', Fnd (fun i => up2 ww q 0 0 (rr (rr (rr q 1) 8) i) 5 = 0 ∧ up2 ww q 0 0 (rr (rr (rr q 1) 8) i) 4 = x1) (n (rr (rr q 1) 8)) v' → v = v' := fun v' h' => hv.eq (h'.iff hiff) (hun x1 (by omega))
    unfold MM_findName wp_X13_findName
    refine m_begins (t := t) (n := n) (rr := rr) (m_in (fun _ _ => ⟨fun _ => m_ok up2_q ⟨fun z => absurd rfl z, fun _ => m_named (by omega) fun v' h' => ?_⟩, fun z => absurd z (by decide)⟩) (fun z => absurd ⟨by omega, by omega⟩ z))
    have ev := hne v' h'
    subst ev
    refine ⟨fun _ => m_ok up2_q ⟨fun _ => m_named (by omega) fun v2 h2 => ?_, fun z => absurd rfl z⟩, fun z => ?_⟩
    · have ev := hne v2 h2
      subst ev
      exact ⟨up2_q, fun _ => rfl, hT j r w sums ns sw np pw nf fw spw q t n rr ww hR _ up2_off⟩
    · rw [z] at g
      exact absurd g (by decide)
  · have hne : ∀ v', Fnd (fun i => up2 ww q 0 0 (rr (rr (rr q 1) 8) i) 5 = 0 ∧ up2 ww q 0 0 (rr (rr (rr q 1) 8) i) 4 = x1) (n (rr (rr q 1) 8)) v' → v = v' := fun v' h' => hv.eq (h'.iff hiff) (hun x1 (by omega))
    have hv1 : v = -1 := by
      rcases hv with ⟨e, -⟩ | ⟨i, h1, -, e⟩
      · exact e
      · rw [e] at g
        exact absurd (nI_pos' (by omega)) g
    unfold MM_findName wp_X13_findName
    refine m_begins (t := t) (n := n) (rr := rr) (m_in (fun _ _ => ⟨fun _ => m_ok up2_q ⟨fun z => absurd rfl z, fun _ => m_named (by omega) fun v' h' => ?_⟩, fun z => absurd z (by decide)⟩) (fun z => absurd ⟨by omega, by omega⟩ z))
    have ev := hne v' h'
    refine ⟨fun z => absurd (ev.symm.trans hv1) z, fun _ => m_bad up2_q (by decide) ⟨fun z => absurd z (by decide), fun _ => ⟨up2_q, fun h => absurd h (by decide), hT j r w sums ns sw np pw nf fw spw q t n rr ww hR _ up2_off2⟩⟩⟩
  · unfold MM_findName wp_X13_findName
    refine m_begins (t := t) (n := n) (rr := rr) (m_in (fun a b => absurd ⟨by omega, by omega⟩ hout) (fun _ => ⟨fun z => absurd rfl z, fun _ => m_bad up2_q (by decide) ⟨fun _ => ⟨up2_q, fun h => absurd h (by decide), hT j r w sums ns sw np pw nf fw spw q t n rr ww hR _ up2_off2⟩, fun z => absurd z (by decide)⟩⟩))
