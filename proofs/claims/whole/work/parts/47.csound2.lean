/-! THE CLASS: isSound -/
def wp_X8_isSound (post : Int32 → Dt → Prop) (w pw : Dt) (sums : Nat → Int64) (sw : Nat → Dt) (ns : Nat) : Prop := wp_X1_isBalanced (fun r1 => (r1 = 0 → post 0 pw) ∧ (¬ r1 = 0 → wp_X0_isBalanced (fun r2 => (r2 = 0 → post 0 pw) ∧ (¬ r2 = 0 → wp_X6_areNamesSingle (fun r3 => (r3 = 0 → post 0 pw) ∧ (¬ r3 = 0 → wp_X6_areSizesRight (fun r4 => (r4 = 0 → post 0 pw) ∧ (¬ r4 = 0 → wp_saves (fun r5 cw => (r5 = 0 → post 0 cw) ∧ (¬ r5 = 0 → post 1 cw)) w pw sums sw ns 0)) w)) w)) w)) w
abbrev rm_X8_isSound : Room := { frames := 5, cells := 45, slots := 456, locals := 115 }
set_option maxHeartbeats 4000000 in
theorem c_X8_isSound (l : Launch) (D : va_G) (tc : Nat → ClassId) (h0 : Nat) (sa : Nat → Nat) (H0 : Heap) {ad : Nat → Nat} {A : Nat → Prop} {w : Dt} (hBw : Blk D tc A (shW ad) ad w H0) {sp : Option Nat} {ns np nf : Nat} {sd pd fd : Nat → Nat → Nat} {sums : Nat → Int64} {ar : Nat → Nat} {Ar Ap : Nat → Prop} {As : Nat → Nat → Prop} {r pw : Dt} {sw : Nat → Dt} (hBr : Blk D tc Ar (shR (ad 0) sp ns np nf sd pd fd sums ar) ar r H0) (hBs : ∀ k : Nat, k < ns → Blk D tc (As k) (shW (sd k)) (sd k) (sw k) H0) (hsp : SPR D tc Ap sp pw H0) (hns : r 0 3 = nI ns) (hn3 : ns ≤ 3) (hA0 : ∀ q, (Ar q ∨ Ap q ∨ H0.size ≤ q) → h0 ≤ q) (hDw : ∀ x, A x → ¬ Ar x) (hDp : ∀ x, Ap x → ¬ Ar x ∧ ¬ A x) {post : Int32 → Dt → Prop} (hw : wp_X8_isSound post w pw sums sw ns) : MB (S := Int32 × Option Nat × Dt) l yX8_isSound cX8_isSound 1 (Option.some FieldType.boolean) rm_X8_isSound (fun x : Nat => Ar x ∨ Ap x ∨ H0.size ≤ x) [.ref (ar 0)] D tc h0 sa H0 (fun u => post u.1 u.2.2) (fun u H1 => Blk D tc (fun x => Ar x ∧ x < H0.size) (shR (ad 0) u.2.1 ns np nf sd pd fd sums ar) ar r H1 ∧ SPR D tc (fun x => (Ap x ∧ x < H0.size) ∨ H0.size ≤ x) u.2.1 u.2.2 H1) (fun u => some (.int u.1)) := by
  refine MB.of RX8 [(0, .ref (ar 0))] (by decide +kernel) rfl (Nat.le_of_ble_eq_true rfl) rfl ?_
  intro p e s m below meth c ls X hr hin hT hH hS hl
  subst hH
  have hx := X.1
  have hb := X.2.1
  have hown := X.2.2.2.1
  have hU := X.2.2.2.2.1.1
  unfold wp_X8_isSound at hw
  refine lv_aload_n hx hb dX8_isSound_0 rfl (lv_at hl 0 rfl) ?_
  refine g_get X dX8_isSound_1 f_X8_12 hBr 0 (v := .ref (ad 0)) rfl rfl ?_
  refine g_get X dX8_isSound_4 f_X8_44 hBw 0 (v := .ref (ad 1)) rfl rfl ?_
  refine g_after (st0 := [.ref (ad 1)]) (rest := []) (g_V X m_X8_333 (c_X1_isBalanced l D tc h0 sa _ hBw hw) (hBw.recv X 1 rfl (q := (RX1, TX1, 8)) rfl) hT hS hA0 dX8_isSound_7 hl.1 rfl rfl ⟨Nat.le_of_ble_eq_true rfl, Nat.le_of_ble_eq_true rfl⟩ (Nat.le_of_ble_eq_true rfl) ⟨Nat.le_of_ble_eq_true rfl, Nat.le_of_ble_eq_true rfl⟩) hS (fun _ h => h.elim) (fun u => [.int u]) (fun _ => rfl) (fun r0 H9 locs hw hP9 hz9 hk9 hS => ?_)
  have e9 : H9 = _ := hP9
  rw [e9] at hS ⊢
  by_cases hq0 : r0 = 0
  · have hw := hw.1 hq0
    refine lv_if_eq (tgt := 63) hx hb dX8_isSound_10 (by decide) (fun _ => ?_) (fun hc0 => absurd hq0 hc0)
    refine lv_iconst (v := 0) hx hb dX8_isSound_63 (by decide) ?_
    exact e_z X hr rfl dX8_isSound_64 hS (0, sp, pw) rfl hw ⟨hBr.mono (fun i c hc h => ⟨h, hBr.lt hc⟩), hsp.mono (fun q h1 h2 => Or.inl ⟨h2, h1⟩)⟩ ⟨Nat.le_of_ble_eq_true rfl, Nat.le_of_ble_eq_true rfl⟩
  · have hw := hw.2 hq0
    refine lv_if_eq (tgt := 63) hx hb dX8_isSound_10 (by decide) (fun hc0 => absurd hc0 hq0) (fun _ => ?_)
    refine lv_aload_n hx hb dX8_isSound_13 rfl (lv_at hl 0 rfl) ?_
    refine g_get X dX8_isSound_14 f_X8_12 hBr 0 (v := .ref (ad 0)) rfl rfl ?_
    refine g_get X dX8_isSound_17 f_X8_88 hBw 0 (v := .ref (ad 5)) rfl rfl ?_
    refine g_after (st0 := [.ref (ad 5)]) (rest := []) (g_V X m_X8_336 (c_X0_isBalanced l D tc h0 sa _ hBw hw) (hBw.recv X 5 rfl (q := (RX0, TX0, 4)) rfl) hT hS hA0 dX8_isSound_20 hl.1 rfl rfl ⟨Nat.le_of_ble_eq_true rfl, Nat.le_of_ble_eq_true rfl⟩ (Nat.le_of_ble_eq_true rfl) ⟨Nat.le_of_ble_eq_true rfl, Nat.le_of_ble_eq_true rfl⟩) hS (fun _ h => h.elim) (fun u => [.int u]) (fun _ => rfl) (fun r1 H9 locs hw hP9 hz9 hk9 hS => ?_)
    have e9 : H9 = _ := hP9
    rw [e9] at hS ⊢
    by_cases hq1 : r1 = 0
    · have hw := hw.1 hq1
      refine lv_if_eq (tgt := 63) hx hb dX8_isSound_23 (by decide) (fun _ => ?_) (fun hc0 => absurd hq1 hc0)
      refine lv_iconst (v := 0) hx hb dX8_isSound_63 (by decide) ?_
      exact e_z X hr rfl dX8_isSound_64 hS (0, sp, pw) rfl hw ⟨hBr.mono (fun i c hc h => ⟨h, hBr.lt hc⟩), hsp.mono (fun q h1 h2 => Or.inl ⟨h2, h1⟩)⟩ ⟨Nat.le_of_ble_eq_true rfl, Nat.le_of_ble_eq_true rfl⟩
    · have hw := hw.2 hq1
      refine lv_if_eq (tgt := 63) hx hb dX8_isSound_23 (by decide) (fun hc0 => absurd hc0 hq1) (fun _ => ?_)
      refine lv_aload_n hx hb dX8_isSound_26 rfl (lv_at hl 0 rfl) ?_
      refine g_get X dX8_isSound_27 f_X8_12 hBr 0 (v := .ref (ad 0)) rfl rfl ?_
      refine g_get X dX8_isSound_30 f_X8_126 hBw 0 (v := .ref (ad 7)) rfl rfl ?_
      refine g_after (st0 := [.ref (ad 7)]) (rest := []) (g_V X m_X8_337 (c_X6_areNamesSingle l D tc h0 sa _ hBw hw) (hBw.recv X 7 rfl (q := (RX6, TX6, 8)) rfl) hT hS hA0 dX8_isSound_33 hl.1 rfl rfl ⟨Nat.le_of_ble_eq_true rfl, Nat.le_of_ble_eq_true rfl⟩ (Nat.le_of_ble_eq_true rfl) ⟨Nat.le_of_ble_eq_true rfl, Nat.le_of_ble_eq_true rfl⟩) hS (fun _ h => h.elim) (fun u => [.int u]) (fun _ => rfl) (fun r2 H9 locs hw hP9 hz9 hk9 hS => ?_)
      have e9 : H9 = _ := hP9
      rw [e9] at hS ⊢
      by_cases hq2 : r2 = 0
      · have hw := hw.1 hq2
        refine lv_if_eq (tgt := 63) hx hb dX8_isSound_36 (by decide) (fun _ => ?_) (fun hc0 => absurd hq2 hc0)
        refine lv_iconst (v := 0) hx hb dX8_isSound_63 (by decide) ?_
        exact e_z X hr rfl dX8_isSound_64 hS (0, sp, pw) rfl hw ⟨hBr.mono (fun i c hc h => ⟨h, hBr.lt hc⟩), hsp.mono (fun q h1 h2 => Or.inl ⟨h2, h1⟩)⟩ ⟨Nat.le_of_ble_eq_true rfl, Nat.le_of_ble_eq_true rfl⟩
      · have hw := hw.2 hq2
        refine lv_if_eq (tgt := 63) hx hb dX8_isSound_36 (by decide) (fun hc0 => absurd hc0 hq2) (fun _ => ?_)
        refine lv_aload_n hx hb dX8_isSound_39 rfl (lv_at hl 0 rfl) ?_
        refine g_get X dX8_isSound_40 f_X8_12 hBr 0 (v := .ref (ad 0)) rfl rfl ?_
        refine g_get X dX8_isSound_43 f_X8_126 hBw 0 (v := .ref (ad 7)) rfl rfl ?_
        refine g_after (st0 := [.ref (ad 7)]) (rest := []) (g_V X m_X8_340 (c_X6_areSizesRight l D tc h0 sa _ hBw hw) (hBw.recv X 7 rfl (q := (RX6, TX6, 8)) rfl) hT hS hA0 dX8_isSound_46 hl.1 rfl rfl ⟨Nat.le_of_ble_eq_true rfl, Nat.le_of_ble_eq_true rfl⟩ (Nat.le_of_ble_eq_true rfl) ⟨Nat.le_of_ble_eq_true rfl, Nat.le_of_ble_eq_true rfl⟩) hS (fun _ h => h.elim) (fun u => [.int u]) (fun _ => rfl) (fun r3 H9 locs hw hP9 hz9 hk9 hS => ?_)
        have e9 : H9 = _ := hP9
        rw [e9] at hS ⊢
        by_cases hq3 : r3 = 0
        · have hw := hw.1 hq3
          refine lv_if_eq (tgt := 63) hx hb dX8_isSound_49 (by decide) (fun _ => ?_) (fun hc0 => absurd hq3 hc0)
          refine lv_iconst (v := 0) hx hb dX8_isSound_63 (by decide) ?_
          exact e_z X hr rfl dX8_isSound_64 hS (0, sp, pw) rfl hw ⟨hBr.mono (fun i c hc h => ⟨h, hBr.lt hc⟩), hsp.mono (fun q h1 h2 => Or.inl ⟨h2, h1⟩)⟩ ⟨Nat.le_of_ble_eq_true rfl, Nat.le_of_ble_eq_true rfl⟩
        · have hw := hw.2 hq3
          refine lv_if_eq (tgt := 63) hx hb dX8_isSound_49 (by decide) (fun hc0 => absurd hc0 hq3) (fun _ => ?_)
          refine lv_aload_n hx hb dX8_isSound_52 rfl (lv_at hl 0 rfl) ?_
          refine g_after (st0 := [.ref (ar 0)]) (rest := []) (g_V X m_X8_343 (c_X8_areSavesTrue l D tc h0 sa _ hBw hBr hBs hsp hns hn3 hA0 hDw hDp hw) (hBr.recv X 0 rfl (q := (RX8, TX8, 9)) rfl) hT hS hA0 dX8_isSound_53 hl.1 rfl rfl ⟨Nat.le_of_ble_eq_true rfl, Nat.le_of_ble_eq_true rfl⟩ (Nat.le_of_ble_eq_true rfl) ⟨Nat.le_of_ble_eq_true rfl, Nat.le_of_ble_eq_true rfl⟩) hS (fun _ h => h) (fun u => [.int u.1]) (fun _ => rfl) (fun u H9 locs hw hP9 hz9 hk9 hS => ?_)
          obtain ⟨r4, sp9, cw⟩ := u
          dsimp only at hw
          by_cases hq4 : r4 = 0
          · have hw := hw.1 hq4
            refine lv_if_eq (tgt := 63) hx hb dX8_isSound_56 (by decide) (fun _ => ?_) (fun hc0 => absurd hq4 hc0)
            refine lv_iconst (v := 0) hx hb dX8_isSound_63 (by decide) ?_
            exact e_z X hr rfl dX8_isSound_64 hS (0, sp9, cw) rfl hw hP9 ⟨Nat.le_of_ble_eq_true rfl, Nat.le_of_ble_eq_true rfl⟩
          · have hw := hw.2 hq4
            refine lv_if_eq (tgt := 63) hx hb dX8_isSound_56 (by decide) (fun hc0 => absurd hc0 hq4) (fun _ => ?_)
            refine lv_iconst (v := 1) hx hb dX8_isSound_59 (by decide) ?_
            refine lv_goto (tgt := 64) hx hb dX8_isSound_60 (by decide) ?_
            exact e_z X hr rfl dX8_isSound_64 hS (1, sp9, cw) rfl hw hP9 ⟨Nat.le_of_ble_eq_true rfl, Nat.le_of_ble_eq_true rfl⟩
