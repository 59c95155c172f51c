/-! THE PURE SIDE: probes of the class -/
/-- how many are kept, which; how many are sent, which -/
abbrev PS : Type := Nat × (Nat → Nat) × Nat × (Nat → Nat)
def CV (x : Dt) (s : PS) : Prop := x 0 11 = nI s.1 ∧ x 0 13 = nI s.2.2.1 ∧ (∀ i, i < s.1 → x 4 i = nI (s.2.1 i)) ∧ ∀ i, i < s.2.2.1 → x 5 i = nI (s.2.2.2 i)
def p_cut (pl : Nat) (f : Nat → Nat) : Nat → Nat := fun i => if i < pl then f i else f (i + 1)
def p_mov (pl : Nat) (s : PS) : PS := (s.1 - 1, p_cut pl s.2.1, s.2.2.1 + 1, fun i => if i = s.2.2.1 then s.2.1 pl else s.2.2.2 i)
def p_tra (old : Bool) : Nat → PS → PS
  | 0, s => s
  | m + 1, s => if s.1 = 0 then s else p_tra old m (p_mov (if old then 0 else s.1 - 1) s)
def p_keep (tk : Nat) (s : PS) : PS := if s.1 < 6 then (s.1 + 1, (fun i => if i = s.1 then tk else s.2.1 i), s.2.2.1, s.2.2.2) else (6, (fun i => if i = 5 then tk else s.2.1 (i + 1)), s.2.2.1, s.2.2.2)
/-- all but the kept and the sent stays -/
def PO (x' x : Dt) : Prop := (∀ p k, p ≠ 4 → p ≠ 5 → ¬ (p = 0 ∧ (k = 11 ∨ k = 13)) → x' p k = x p k)
theorem PO.tr {x y z : Dt} (h : PO x y) (h2 : PO y z) : PO x z := fun p k a b c => (h p k a b c).trans (h2 p k a b c)
theorem x_take {post : Int32 → Dt → Prop} {x : Dt} {K pl : Nat} (hK : K ≤ 6) (hx : x 0 11 = nI K) (hp : pl < K) (h : ∀ x', x' 0 11 = nI (K - 1) → (∀ i, i < K - 1 → x' 4 i = if i < pl then x 4 i else x 4 (i + 1)) → (∀ p k, p ≠ 4 → ¬ (p = 0 ∧ k = 11) → x' p k = x p k) → post (x 4 pl) x') : wp_X4_takeKept post x (nI pl) := by
  have cp : (nI pl).toNatClampNeg = pl := nI_cl (by omega)
  refine ⟨fun g => absurd g (nI_nn' (by omega)), fun _ => ⟨fun g => absurd g (by rw [show (6 : Int32) = nI 6 from rfl, nI_le2 (by omega) (by omega)]; omega), fun _ => ⟨fun _ => ⟨vp_nI (by omega) (by omega), ?_⟩, fun g => absurd (by rw [hx, show (6 : Int32) = nI 6 from rfl, nI_le2 (by omega) (by omega)]; omega) g⟩⟩⟩
  rw [cp, ← nI_succ]
  refine ⟨(K - (pl + 1)) + 1, loopG (σ := Dt) (fun m y s => wp_X4_takeKept_32 post m (x 4 pl) y s) (fun d => nI (pl + 1 + d)) (K - (pl + 1)) (fun d s => s 0 11 = nI K ∧ (∀ i, s 4 i = if pl ≤ i ∧ i < pl + d then x 4 (i + 1) else x 4 i) ∧ ∀ p k, p ≠ 4 → s p k = x p k) (fun m s hs => ?_) (fun d m s hd hs hk => ?_) (K - (pl + 1)) 0 x (by omega) ⟨hx, fun i => by rw [if_neg (by omega)], fun p k _ => rfl⟩⟩
  · obtain ⟨h1, h2, h3⟩ := hs
    refine ⟨fun _ w6 e6 => h w6 ?_ (fun i hi => ?_) (fun p k a b => ?_), fun g => absurd (by rw [h1, nI_le2 (by omega) (by omega)]; omega) g⟩
    · rw [e6, up2_eq, h1]
      obtain ⟨m, rfl⟩ : ∃ m, K = m + 1 := ⟨K - 1, by omega⟩
      rw [nI_succ, Nat.add_sub_cancel]
      exact q_r1 _
    · rw [e6, up2_nr (by omega), h2]
      by_cases z : i < pl
      · rw [if_pos z, if_neg (by omega)]
      · rw [if_neg z, if_pos (by omega)]
    · rw [e6, up2_no (by omega)]
      exact h3 p k a
  · obtain ⟨h1, h2, h3⟩ := hs
    have c1 : (nI (pl + 1 + d)).toNatClampNeg = pl + 1 + d := nI_cl (by omega)
    have e1 : nI (pl + 1 + d) - 1 = nI (pl + d) := by
      rw [show pl + 1 + d = pl + d + 1 by omega, nI_succ]
      exact q_r1 _
    have c2 : (nI (pl + 1 + d) - 1).toNatClampNeg = pl + d := by rw [e1]; exact nI_cl (by omega)
    refine ⟨fun g => absurd g (by rw [h1, nI_le2 (by omega) (by omega)]; omega), fun _ => ⟨fun g => absurd g (by rw [show (6 : Int32) = nI 6 from rfl, nI_le2 (by omega) (by omega)]; omega), fun _ => ⟨vp_nI (by omega) (by omega), by rw [e1]; exact vp_nI (by omega) (by omega), fun w10 e10 => ?_⟩⟩⟩
    rw [c1, c2] at e10
    have := hk w10 ⟨by rw [e10, up2_nr (by omega)]; exact h1, fun i => ?_, fun p k a => by rw [e10, up2_nr a]; exact h3 p k a⟩
    · rw [show pl + 1 + (d + 1) = pl + 1 + d + 1 by omega, nI_succ] at this
      exact this
    · rw [e10]
      by_cases z : i = pl + d
      · rw [z, up2_eq, h2, if_neg (by omega), if_pos (by omega), show pl + 1 + d = pl + d + 1 by omega]
      · rw [up2_nk z, h2]
        by_cases y : pl ≤ i ∧ i < pl + d
        · rw [if_pos y, if_pos (by omega)]
        · rw [if_neg y, if_neg (by omega)]
theorem x_keep {post : Dt → Prop} {x : Dt} {s : PS} {tk : Nat} (hK : s.1 ≤ 6) (hx : CV x s) (h : ∀ x', CV x' (p_keep tk s) → (∀ p k, p ≠ 4 → ¬ (p = 0 ∧ k = 11) → ¬ (p = 0 ∧ k = 14) → x' p k = x p k) → (x' 0 14 = if s.1 < 6 then x 0 14 else x 0 14 + 1) → post x') : wp_X4_keep post x (nI tk) := by
  obtain ⟨h1, h2, h3, h4⟩ := hx
  have add : ∀ (y : Dt) (K : Nat), K < 6 → y 0 11 = nI K → (∀ y', y' 0 11 = nI (K + 1) → (∀ i, y' 4 i = if i = K then nI tk else y 4 i) → (∀ p k, p ≠ 4 → ¬ (p = 0 ∧ k = 11) → y' p k = y p k) → post y') → wp_X4_keep_25 post (nI tk) y := fun y K hK6 hy hp => by
    have cK : (y 0 11).toNatClampNeg = K := by rw [hy, nI_cl (by omega)]
    refine ⟨fun g => absurd g (by rw [hy]; exact nI_nn' (by omega)), fun _ => ⟨fun g => absurd g (by rw [hy, show (6 : Int32) = nI 6 from rfl, nI_le2 (by omega) (by omega)]; omega), fun _ => ⟨by rw [hy]; exact vp_nI (by omega) (by omega), fun w5 e5 w6 e6 => ?_⟩⟩⟩
    rw [cK] at e5
    refine hp w6 ?_ (fun i => ?_) (fun p k a b => ?_)
    · rw [e6, up2_eq, e5, up2_nr (by omega), hy, nI_succ]
    · rw [e6, up2_nr (by omega), e5]
      by_cases z : i = K
      · rw [z, up2_eq, if_pos rfl]
      · rw [up2_nk z, if_neg z]
    · rw [e6, up2_no b, e5, up2_nr a]
  refine ⟨fun g => ?_, fun g => ?_⟩
  · rw [h1, show (6 : Int32) = nI 6 from rfl, nI_ltl (by omega) (by omega)] at g
    refine add x s.1 g h1 (fun y' a1 a2 a3 => h y' ?_ (fun p k a b _ => a3 p k a b) ?_)
    · unfold p_keep
      rw [if_pos g]
      refine ⟨a1, by rw [a3 0 13 (by omega) (by omega)]; exact h2, fun i hi => ?_, fun i hi => by rw [a3 5 i (by omega) (by omega)]; exact h4 i hi⟩
      dsimp only at hi ⊢
      rw [a2]
      by_cases z : i = s.1
      · rw [if_pos z, if_pos z]
      · rw [if_neg z, if_neg z]
        exact h3 i (by omega)
    · rw [if_pos g, a3 0 14 (by omega) (by omega)]
  · rw [h1, show (6 : Int32) = nI 6 from rfl, nI_ltl (by omega) (by omega)] at g
    have h6 : s.1 = 6 := by omega
    rw [h6] at h1
    rw [show (0 : Int32) = nI 0 from rfl]
    refine x_take (K := 6) (by omega) h1 (by omega) (fun x1 b1 b2 b3 w9 e9 => ?_)
    refine add w9 5 (by omega) (by rw [e9, up2_nk (by omega)]; exact b1) (fun y' a1 a2 a3 => h y' ?_ (fun p k a b c => ?_) ?_)
    · unfold p_keep
      rw [if_neg g]
      refine ⟨a1, by rw [a3 0 13 (by omega) (by omega), e9, up2_nk (by omega), b3 0 13 (by omega) (by omega)]; exact h2, fun i hi => ?_, fun i hi => by rw [a3 5 i (by omega) (by omega), e9, up2_nr (by omega), b3 5 i (by omega) (by omega)]; exact h4 i hi⟩
      dsimp only at hi ⊢
      rw [a2]
      by_cases z : i = 5
      · rw [if_pos z, if_pos z]
      · rw [if_neg z, if_neg z, e9, up2_nr (by omega), b2 i (by omega), if_neg (by omega)]
        exact h3 (i + 1) (by omega)
    · rw [a3 p k a b, e9, up2_no c, b3 p k a b]
    · rw [if_neg g, a3 0 14 (by omega) (by omega), e9, up2_eq, b3 0 14 (by omega) (by omega)]
theorem p_tra_le (old : Bool) : ∀ (m : Nat) (s : PS), (p_tra old m s).1 ≤ s.1 ∧ (p_tra old m s).1 + (p_tra old m s).2.2.1 = s.1 + s.2.2.1
  | 0, s => ⟨Nat.le_refl _, rfl⟩
  | m + 1, s => by
    show (if s.1 = 0 then s else p_tra old m (p_mov (if old then 0 else s.1 - 1) s)).1 ≤ s.1 ∧ (if s.1 = 0 then s else p_tra old m (p_mov (if old then 0 else s.1 - 1) s)).1 + (if s.1 = 0 then s else p_tra old m (p_mov (if old then 0 else s.1 - 1) s)).2.2.1 = s.1 + s.2.2.1
    by_cases z : s.1 = 0
    · rw [if_pos z]
      exact ⟨Nat.le_refl _, rfl⟩
    · rw [if_neg z]
      obtain ⟨a, b⟩ := p_tra_le old m (p_mov (if old then 0 else s.1 - 1) s)
      have e1 : (p_mov (if old then 0 else s.1 - 1) s).1 = s.1 - 1 := rfl
      have e2 : (p_mov (if old then 0 else s.1 - 1) s).2.2.1 = s.2.2.1 + 1 := rfl
      rw [e1] at a b
      rw [e2] at b
      omega
theorem x_transmit {post : Dt → Prop} : ∀ (d i : Nat) (x : Dt) (s : PS), i + d ≤ 3 → s.1 ≤ 6 → s.1 + s.2.2.1 ≤ 19 → x 0 2 = nI (i + d) → CV x s → (∀ x', CV x' (p_tra (decide (¬ x 0 3 = 0)) d s) → PO x' x → post x') → wp_X4_transmit_2 post (d + 1) (nI i) x
  | 0, i, x, s, _, _, _, h2, hx, h => by
    exact ⟨fun _ => h x hx (fun p k _ _ _ => rfl), fun g => absurd (by rw [h2]; exact Int32.le_refl _) g⟩
  | d + 1, i, x, s, hi, hK, hS, h2, hx, h => by
    obtain ⟨c1, c2, c3, c4⟩ := id hx
    refine ⟨fun g => absurd g (by rw [h2, nI_le2 (by omega) (by omega)]; omega), fun _ => ⟨fun g => ?_, fun g => ?_⟩⟩
    · rw [c1, show (0 : Int32) = nI 0 from rfl, nI_le2 (by omega) (by omega)] at g
      refine h x ?_ (fun p k _ _ _ => rfl)
      show CV x (if s.1 = 0 then s else _)
      rw [if_pos (by omega)]
      exact hx
    · rw [c1, show (0 : Int32) = nI 0 from rfl, nI_le2 (by omega) (by omega)] at g
      have step : ∀ pl, pl < s.1 → pl = (if decide (¬ x 0 3 = 0) = true then 0 else s.1 - 1) → wp_X4_transmit_35 post (fun a0 x => wp_X4_transmit_2 post (d + 1) a0 x) (nI i) (nI pl) x := fun pl hpl epl => by
        refine x_take hK c1 hpl (fun x1 b1 b2 b3 => ?_)
        have e13 : x1 0 13 = nI s.2.2.1 := by rw [b3 0 13 (by omega) (by omega)]; exact c2
        refine ⟨fun g => absurd g (by rw [e13]; exact nI_nn' (by omega)), fun _ => ⟨fun g => absurd g (by rw [e13, show (19 : Int32) = nI 19 from rfl, nI_le2 (by omega) (by omega)]; omega), fun _ => ⟨by rw [e13]; exact vp_nI (by omega) (by omega), fun w9 e9 w10 e10 => ?_⟩⟩⟩
        rw [e13, nI_cl (by omega)] at e9
        have cv : CV w10 (p_mov pl s) := by
          refine ⟨?_, ?_, fun k hk => ?_, fun k hk => ?_⟩
          · rw [e10, up2_nk (by omega), e9, up2_nr (by omega)]
            exact b1
          · rw [e10, up2_eq, e9, up2_nr (by omega), e13]
            exact (nI_succ _).symm
          · have hk' : k < s.1 - 1 := hk
            rw [e10, up2_nr (by omega), e9, up2_nr (by omega), b2 k hk']
            show _ = nI (if k < pl then s.2.1 k else s.2.1 (k + 1))
            by_cases z : k < pl
            · rw [if_pos z, if_pos z]
              exact c3 k (by omega)
            · rw [if_neg z, if_neg z]
              exact c3 (k + 1) (by omega)
          · have hk' : k < s.2.2.1 + 1 := hk
            rw [e10, up2_nr (by omega), e9]
            show _ = nI (if k = s.2.2.1 then s.2.1 pl else s.2.2.2 k)
            by_cases z : k = s.2.2.1
            · rw [z, up2_eq, if_pos rfl]
              exact c3 pl hpl
            · rw [up2_nk z, if_neg z, b3 5 k (by omega) (by omega)]
              exact c4 k (by omega)
        have po : PO w10 x := fun p k a b c => by
          rw [e10, up2_no (by omega), e9, up2_nr b]
          exact b3 p k a (by omega)
        show wp_X4_transmit_2 post (d + 1) (nI i + 1) w10
        rw [← nI_succ]
        have hm1 : (p_mov pl s).1 = s.1 - 1 := rfl
        have hm2 : (p_mov pl s).2.2.1 = s.2.2.1 + 1 := rfl
        refine x_transmit d (i + 1) w10 (p_mov pl s) (by omega) (by omega) (by omega) (by rw [po 0 2 (by omega) (by omega) (by omega), h2, show i + 1 + d = i + (d + 1) by omega]) cv (fun x' g1 g2 => h x' ?_ (g2.tr po))
        rw [po 0 3 (by omega) (by omega) (by omega)] at g1
        show CV x' (if s.1 = 0 then s else _)
        rw [if_neg (by omega)]
        rw [epl] at g1
        exact g1
      refine ⟨fun g2 => ?_, fun g2 => ?_⟩
      · have := step (s.1 - 1) (by omega) (by rw [if_neg (by rw [g2]; decide)])
        rw [c1]
        obtain ⟨m, hm⟩ : ∃ m, s.1 = m + 1 := ⟨s.1 - 1, by omega⟩
        rw [hm, nI_succ, q_r1]
        rw [hm, Nat.add_sub_cancel] at this
        exact this
      · exact step 0 (by omega) (by rw [if_pos (decide_eq_true g2)])
/-- the ice in a level, as a probe finds it -/
def iceV (w : Dt) (k : Nat) : Int32 := 0 + w (k + 32) 0 + w (k + 32) 1 + w (k + 32) 2
theorem x_ice {post : Int32 → Prop} {w : Dt} {k : Nat} (hk : k < 10) (h : post (iceV w k)) : wp_X1_iceIn post w (nI k) := by
  have ck : (nI k).toNatClampNeg = k := nI_cl (by omega)
  refine ⟨4, ⟨fun g => absurd g (by decide), fun _ => ⟨vp_nI hk (by omega), vp_in_iff.mpr (by decide), fun v e => ?_⟩⟩⟩
  refine ⟨fun g => absurd g (by decide), fun _ => ⟨vp_nI hk (by omega), vp_in_iff.mpr (by decide), fun v' e' => ?_⟩⟩
  refine ⟨fun g => absurd g (by decide), fun _ => ⟨vp_nI hk (by omega), vp_in_iff.mpr (by decide), fun v'' e'' => ?_⟩⟩
  refine ⟨fun _ => ?_, fun g => absurd (by decide) g⟩
  rw [ck] at e e' e''
  rw [e'', e', e]
  exact h
/-- what a tick makes of a probe of the class -/
abbrev TKR (w x x' : Dt) (tk lvl : Nat) (s : PS) : Prop := ∃ _ : (∀ k, k ≤ 3 → x' 0 k = x 0 k), ∃ _ : (x' 0 5 = nI (tk + 1)), ∃ _ : (∀ p k, 1 ≤ p → p ≤ 3 → k ≠ tk → x' p k = x p k), ∃ _ : (x' 1 tk = nI lvl ∧ x' 2 tk = w 2 lvl ∧ x' 3 tk = iceV w lvl), ∃ _ : (CV x' (if x 0 1 < nI (tk + 1) then p_keep tk s else p_tra (decide (¬ x 0 3 = 0)) (x 0 2).toNatClampNeg (p_keep tk s))), ∃ _ : (x' 0 14 = if s.1 < 6 then x 0 14 else x 0 14 + 1), ∃ _ : ((9 ≤ lvl ∨ ¬ w 2 lvl ≤ 600) → x' 0 6 = 1 ∧ x' 0 4 = nI lvl), (¬ (9 ≤ lvl ∨ ¬ w 2 lvl ≤ 600) → x' 0 6 = 0 ∧ ((x 0 0 ≤ nI lvl ∨ nI (tk + 1) - nI (tk + 1) / 2 * 2 = 0) → x' 0 4 = nI (lvl + 1)) ∧ (¬ (x 0 0 ≤ nI lvl ∨ nI (tk + 1) - nI (tk + 1) / 2 * 2 = 0) → x' 0 4 = nI lvl))
theorem TKR.c {w x x' : Dt} {tk lvl : Nat} {s : PS} (h : TKR w x x' tk lvl s) : ∀ k, k ≤ 3 → x' 0 k = x 0 k := ex1 h
theorem TKR.t5 {w x x' : Dt} {tk lvl : Nat} {s : PS} (h : TKR w x x' tk lvl s) : x' 0 5 = nI (tk + 1) := ex1 (ex2 h)
theorem TKR.r1 {w x x' : Dt} {tk lvl : Nat} {s : PS} (h : TKR w x x' tk lvl s) : ∀ p k, 1 ≤ p → p ≤ 3 → k ≠ tk → x' p k = x p k := ex1 (ex2 (ex2 h))
theorem TKR.r2 {w x x' : Dt} {tk lvl : Nat} {s : PS} (h : TKR w x x' tk lvl s) : x' 1 tk = nI lvl ∧ x' 2 tk = w 2 lvl ∧ x' 3 tk = iceV w lvl := ex1 (ex2 (ex2 (ex2 h)))
theorem TKR.cv {w x x' : Dt} {tk lvl : Nat} {s : PS} (h : TKR w x x' tk lvl s) : CV x' (if x 0 1 < nI (tk + 1) then p_keep tk s else p_tra (decide (¬ x 0 3 = 0)) (x 0 2).toNatClampNeg (p_keep tk s)) := ex1 (ex2 (ex2 (ex2 (ex2 h))))
theorem TKR.lo {w x x' : Dt} {tk lvl : Nat} {s : PS} (h : TKR w x x' tk lvl s) : x' 0 14 = if s.1 < 6 then x 0 14 else x 0 14 + 1 := ex1 (ex2 (ex2 (ex2 (ex2 (ex2 h)))))
theorem TKR.de {w x x' : Dt} {tk lvl : Nat} {s : PS} (h : TKR w x x' tk lvl s) : (9 ≤ lvl ∨ ¬ w 2 lvl ≤ 600) → x' 0 6 = 1 ∧ x' 0 4 = nI lvl := ex1 (ex2 (ex2 (ex2 (ex2 (ex2 (ex2 h))))))
theorem TKR.al {w x x' : Dt} {tk lvl : Nat} {s : PS} (h : TKR w x x' tk lvl s) : ¬ (9 ≤ lvl ∨ ¬ w 2 lvl ≤ 600) → x' 0 6 = 0 ∧ ((x 0 0 ≤ nI lvl ∨ nI (tk + 1) - nI (tk + 1) / 2 * 2 = 0) → x' 0 4 = nI (lvl + 1)) ∧ (¬ (x 0 0 ≤ nI lvl ∨ nI (tk + 1) - nI (tk + 1) / 2 * 2 = 0) → x' 0 4 = nI lvl) := ex2 (ex2 (ex2 (ex2 (ex2 (ex2 (ex2 h))))))
theorem x_tick {post : Dt → Prop} {w x : Dt} {tk lvl : Nat} {s : PS} (h5 : x 0 5 = nI tk) (h4 : x 0 4 = nI lvl) (h6 : x 0 6 = 0) (ht : tk ≤ 18) (hl : lvl ≤ 9) (hr : 1 ≤ (x 0 2).toInt ∧ (x 0 2).toInt ≤ 3) (hK : s.1 ≤ 6) (hKS : s.1 + s.2.2.1 ≤ tk) (hx : CV x s) (h : ∀ x', TKR w x x' tk lvl s → post x') : wp_X4_goOn post x w := by
  have c5 : (x 0 5).toNatClampNeg = tk := by rw [h5, nI_cl (by omega)]
  refine ⟨fun g => absurd g (by rw [h5]; exact nI_nn' (by omega)), fun _ => ⟨fun g => absurd g (by rw [h5, show (19 : Int32) = nI 19 from rfl, nI_le2 (by omega) (by omega)]; omega), fun _ => ⟨fun g => absurd g (by rw [h4]; exact nI_nn' (by omega)), fun _ => ⟨fun _ => ⟨by rw [h5]; exact vp_nI (by omega) (by omega), fun w7 e7 => ?_⟩, fun g => absurd (by rw [h4, show (10 : Int32) = nI 10 from rfl, nI_ltl (by omega) (by omega)]; omega) g⟩⟩⟩⟩
  rw [c5, h4] at e7
  have f7 : ∀ k, w7 0 k = x 0 k := fun k => by rw [e7, up2_nr (by omega)]
  refine ⟨by rw [f7, h4]; exact vp_nI (by omega) (by omega), by rw [f7, h5]; exact vp_nI (by omega) (by omega), fun w10 e10 => ?_⟩
  rw [f7, f7, c5, h4, nI_cl (by omega)] at e10
  have f10 : ∀ k, w10 0 k = x 0 k := fun k => by rw [e10, up2_nr (by omega), f7]
  rw [f10 5, f10 4, h4]
  refine x_ice (by omega) ⟨by rw [h5]; exact vp_nI (by omega) (by omega), fun w13 e13 => ?_⟩
  rw [c5] at e13
  have f13 : ∀ p k, ¬ (1 ≤ p ∧ p ≤ 3 ∧ k = tk) → w13 p k = x p k := fun p k hp => by rw [e13, up2_no (by omega), e10, up2_no (by omega), e7, up2_no (by omega)]
  have g1 : w13 1 tk = nI lvl := by rw [e13, up2_nr (by omega), e10, up2_nr (by omega), e7, up2_eq]
  have g2 : w13 2 tk = w 2 lvl := by rw [e13, up2_nr (by omega), e10, up2_eq]
  have g3 : w13 3 tk = iceV w lvl := by rw [e13, up2_eq]
  have cv13 : CV w13 s := by
    obtain ⟨c1, c2, c3, c4⟩ := hx
    exact ⟨by rw [f13 0 11 (by omega)]; exact c1, by rw [f13 0 13 (by omega)]; exact c2, fun i hi => by rw [f13 4 i (by omega)]; exact c3 i hi, fun i hi => by rw [f13 5 i (by omega)]; exact c4 i hi⟩
  rw [f13 0 5 (by omega), h5]
  refine x_keep hK cv13 (fun w14 cv14 k14 l14 w15 e15 => ?_)
  rw [f13 0 14 (by omega)] at l14
  have t14 : w14 0 5 = nI tk := by rw [k14 0 5 (by omega) (by omega) (by omega), f13 0 5 (by omega), h5]
  rw [t14, ← nI_succ] at e15
  have f15 : ∀ p k, ¬ (p = 0 ∧ k = 5) → w15 p k = w14 p k := fun p k hp => by rw [e15, up2_no hp]
  have t15 : w15 0 5 = nI (tk + 1) := by rw [e15, up2_eq]
  have cv15 : CV w15 (p_keep tk s) := by
    obtain ⟨c1, c2, c3, c4⟩ := cv14
    exact ⟨by rw [f15 0 11 (by omega)]; exact c1, by rw [f15 0 13 (by omega)]; exact c2, fun i hi => by rw [f15 4 i (by omega)]; exact c3 i hi, fun i hi => by rw [f15 5 i (by omega)]; exact c4 i hi⟩
  have a15 : ∀ k, k ≤ 6 → k ≠ 5 → w15 0 k = x 0 k := fun k hk hk5 => by rw [f15 0 k (by omega), k14 0 k (by omega) (by omega) (by omega), f13 0 k (by omega)]
  have b15 : ∀ p k, 1 ≤ p → p ≤ 3 → w15 p k = w13 p k := fun p k h1 h2 => by rw [f15 p k (by omega), k14 p k (by omega) (by omega) (by omega)]
  have l15 : w15 0 14 = if s.1 < 6 then x 0 14 else x 0 14 + 1 := by rw [f15 0 14 (by omega)]; exact l14
  -- the fall
  have fall : ∀ (y : Dt) (s2 : PS), PO y w15 → CV y s2 → s2 = (if x 0 1 < nI (tk + 1) then p_keep tk s else p_tra (decide (¬ x 0 3 = 0)) (x 0 2).toNatClampNeg (p_keep tk s)) → wp_X4_goOn_119 post y w := fun y s2 po cy es => by
    have y4 : y 0 4 = nI lvl := by rw [po 0 4 (by omega) (by omega) (by omega), a15 4 (by omega) (by omega), h4]
    have y5 : y 0 5 = nI (tk + 1) := by rw [po 0 5 (by omega) (by omega) (by omega), t15]
    have y0 : y 0 0 = x 0 0 := by rw [po 0 0 (by omega) (by omega) (by omega), a15 0 (by omega) (by omega)]
    have y6 : y 0 6 = 0 := by rw [po 0 6 (by omega) (by omega) (by omega), a15 6 (by omega) (by omega), h6]
    have mk : ∀ x' : Dt, (∀ p k, ¬ (p = 0 ∧ (k = 4 ∨ k = 6)) → x' p k = y p k) → ((9 ≤ lvl ∨ ¬ w 2 lvl ≤ 600) → x' 0 6 = 1 ∧ x' 0 4 = nI lvl) → (¬ (9 ≤ lvl ∨ ¬ w 2 lvl ≤ 600) → x' 0 6 = 0 ∧ ((x 0 0 ≤ nI lvl ∨ nI (tk + 1) - nI (tk + 1) / 2 * 2 = 0) → x' 0 4 = nI (lvl + 1)) ∧ (¬ (x 0 0 ≤ nI lvl ∨ nI (tk + 1) - nI (tk + 1) / 2 * 2 = 0) → x' 0 4 = nI lvl)) → TKR w x x' tk lvl s := fun x' hx' d1 d2 => by
      refine ⟨fun k hk => ?_, ?_, fun p k p1 p2 hk => ?_, ⟨?_, ?_, ?_⟩, ?_, ?_, d1, d2⟩
      · rw [hx' 0 k (by omega), po 0 k (by omega) (by omega) (by omega), a15 k (by omega) (by omega)]
      · rw [hx' 0 5 (by omega), y5]
      · rw [hx' p k (by omega), po p k (by omega) (by omega) (by omega), b15 p k p1 p2, f13 p k (by omega)]
      · rw [hx' 1 tk (by omega), po 1 tk (by omega) (by omega) (by omega), b15 1 tk (by omega) (by omega), g1]
      · rw [hx' 2 tk (by omega), po 2 tk (by omega) (by omega) (by omega), b15 2 tk (by omega) (by omega), g2]
      · rw [hx' 3 tk (by omega), po 3 tk (by omega) (by omega) (by omega), b15 3 tk (by omega) (by omega), g3]
      · rw [← es]
        obtain ⟨c1, c2, c3, c4⟩ := cy
        exact ⟨by rw [hx' 0 11 (by omega)]; exact c1, by rw [hx' 0 13 (by omega)]; exact c2, fun i hi => by rw [hx' 4 i (by omega)]; exact c3 i hi, fun i hi => by rw [hx' 5 i (by omega)]; exact c4 i hi⟩
      · rw [hx' 0 14 (by omega), po 0 14 (by omega) (by omega) (by omega), l15]
    refine ⟨by rw [y4]; exact vp_nI (by omega) (by omega), ?_⟩
    rw [y4, nI_cl (by omega)]
    unfold wp_X4_fall
    rw [y4, y5, y0]
    have h9 : (9 : Int32) ≤ nI lvl ↔ 9 ≤ lvl := by rw [show (9 : Int32) = nI 9 from rfl, nI_le2 (by omega) (by omega)]
    rw [h9]
    have dead : (9 ≤ lvl ∨ ¬ w 2 lvl ≤ 600) → wp_X4_fall_16 (fun w18 => post w18) y := fun hd w2 e2 => h w2 (mk w2 (fun p k hp => by rw [e2, up2_no (by omega)]) (fun _ => ⟨by rw [e2, up2_eq], by rw [e2, up2_nk (by omega), y4]⟩) (fun z => absurd hd z))
    refine ⟨fun g => dead (Or.inl g), fun g => ⟨fun gt => ?_, fun gt => dead (Or.inr gt)⟩⟩
    have hnd : ¬ (9 ≤ lvl ∨ ¬ w 2 lvl ≤ 600) := fun z => z.elim g (fun z => z gt)
    have go : (x 0 0 ≤ nI lvl ∨ nI (tk + 1) - nI (tk + 1) / 2 * 2 = 0) → wp_X4_fall_44 (fun w18 => post w18) y := fun hf w5 e5 => h w5 (mk w5 (fun p k hp => by rw [e5, up2_no (by omega)]) (fun z => absurd z hnd) (fun _ => ⟨by rw [e5, up2_nk (by omega), y6], fun _ => by rw [e5, up2_eq, y4, nI_succ], fun z => absurd hf z⟩))
    refine ⟨fun gc => go (Or.inl gc), fun gc => ⟨fun gm => ?_, fun gm => go (Or.inr gm)⟩⟩
    exact h y (mk y (fun p k _ => rfl) (fun z => absurd z hnd) (fun _ => ⟨y6, fun z => absurd z (fun z => z.elim gc gm), fun _ => y4⟩))
  rw [a15 1 (by omega) (by omega), t15]
  have hk1 : (p_keep tk s).1 ≤ 6 ∧ (p_keep tk s).1 + (p_keep tk s).2.2.1 ≤ tk + 1 := by
    unfold p_keep
    split
    · exact ⟨by dsimp only; omega, by dsimp only; omega⟩
    · exact ⟨Nat.le_refl 6, by dsimp only; omega⟩
  refine ⟨fun g => fall w15 (p_keep tk s) (fun p k _ _ _ => rfl) cv15 (by rw [if_pos g]), fun g => ?_⟩
  have hrc : x 0 2 = nI (x 0 2).toNatClampNeg := by
    have := nI_ofI (x := x 0 2) (by omega)
    have h3 : (x 0 2).toInt.toNat = (x 0 2).toNatClampNeg := rfl
    rw [h3] at this
    exact this
  have hr3 : (x 0 2).toNatClampNeg ≤ 3 := by
    have h3 : (x 0 2).toInt.toNat = (x 0 2).toNatClampNeg := rfl
    omega
  refine ⟨(x 0 2).toNatClampNeg + 1, x_transmit (x 0 2).toNatClampNeg 0 w15 (p_keep tk s) (by omega) hk1.1 (by omega) (by rw [a15 2 (by omega) (by omega), Nat.zero_add]; exact hrc) cv15 (fun x' g1 g2 => ?_)⟩
  rw [a15 3 (by omega) (by omega)] at g1
  exact fall x' _ g2 g1 (by rw [if_neg g])
