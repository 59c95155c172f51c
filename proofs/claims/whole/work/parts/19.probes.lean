abbrev rm_X8_sent : Room := { frames := 8, cells := 2, slots := 12, locals := 133 }
def wp_X8_sent (post : Int32 → Prop) (xpost : Nat → Prop) (r : Dt) (np : Nat) (pw : Nat → Dt) (x1 : Int32) : Prop := wp_X8_probeAt (fun r1 => post ((pw x1.toNatClampNeg) 0 13)) xpost r np pw x1
set_option maxHeartbeats 4000000 in
set_option maxRecDepth 100000 in
theorem c_X8_sent (l : Launch) (D : va_G) (tc : Nat → ClassId) (h0 : Nat) (sa : Nat → Nat) (x1 : Int32) (H0 : Heap) {ar : Nat → Nat} {Ar : Nat → Prop} {sp : Option Nat} {ns : Nat} {nf : Nat} {sd : Nat → Nat → Nat} {pd : Nat → Nat → Nat} {fd : Nat → Nat → Nat} {sums : Nat → Int64} {ad : Nat → Nat} {Ap : Nat → Nat → Prop} {r : Dt} {np : Nat} {pw : Nat → Dt} (hBr : Blk D tc Ar (shR (ad 0) sp ns np nf sd pd fd sums ar) ar r H0) (hBps : ∀ k : Nat, k < np → Blk D tc (Ap k) (shPr (pd k)) (pd k) (pw k) H0) (hlf : l.stackTraces = false) {post : Int32 → Prop} {xpost : Nat → Prop} (hw : wp_X8_sent post xpost r np pw x1) : MX l yX8_sent cX8_sent 2 (Option.some FieldType.int) rm_X8_sent (fun _ => False) [.ref (ar 0), .int x1] D tc h0 sa H0 post (fun (_ : Int32) (H1 : Heap) => H1 = H0) (fun u : Int32 => some (.int u)) xpost := by
  have hA0 : ∀ q : Nat, (fun _ : Nat => False) q → h0 ≤ q := fun _ h => h.elim
  refine MX.of RX8 [(0, .ref (ar 0)), (1, .int x1)] (by decide +kernel) rfl (Nat.le_of_ble_eq_true rfl) rfl ?_
  intro p e s m below meth c ls X hr hnt hT hH hS hl
  subst hH
  have hx := X.1
  have hb := X.2.1
  have hown := X.2.2.2.1
  have hU := X.2.2.2.2.1.1
  unfold wp_X8_sent at hw
  refine lv_aload_n hx hb dX8_sent_0 rfl (lv_at hl 0 rfl) ?_
  refine lv_iload_n hx hb dX8_sent_1 rfl (lv_at hl 1 rfl) ?_
  refine g_afterX (st0 := .int x1 :: .ref (ar 0) :: []) (rest := []) (g_VX X m_X8_234 (c_X8_probeAt l D tc h0 sa x1 _ hBr hBps hlf hw) (hBr.recv X 0 rfl (q := (RX8, TX8, 9)) rfl) hT hS hA0 dX8_sent_2 hl.1 rfl rfl ⟨Nat.le_of_ble_eq_true rfl, Nat.le_of_ble_eq_true rfl⟩ (Nat.le_of_ble_eq_true rfl) ⟨Nat.le_of_ble_eq_true rfl, Nat.le_of_ble_eq_true rfl⟩) hS (fun _ h => h.elim) (fun u => .ref (pd u 0) :: []) (fun _ => rfl) (fun k ce q9 H1 locs1 hx9 hz9 ho9 hS9 hce hcv hcl => ?_) (fun u H9 locs hw hP9 hz9 hk9 hS => ?_)
  · exact e_x X hnt ⟨hz9, ho9⟩ hce hcv hcl hx9 hS9 ⟨Nat.le_of_ble_eq_true rfl, Nat.le_of_ble_eq_true rfl⟩
  obtain ⟨e9, c9, rfl⟩ := hP9
  rw [e9] at hS ⊢
  have c2 : x1.toNatClampNeg < np := c9
  have hBp1 := hBps _ c2
  try dsimp only at hw
  refine g_get X dX8_sent_5 f_X8_250 hBp1 0 (v := .int ((pw x1.toNatClampNeg) 0 13)) rfl rfl ?_
  refine W.widen (k := rm_X8_sent.cells) (n := rm_X8_sent.slots) (Nat.le_of_ble_eq_true rfl) (Nat.le_of_ble_eq_true rfl) ?_
  exact vx_ret (e_i X hr dX8_sent_8 hS (((pw x1.toNatClampNeg) 0 13)) rfl hw rfl ⟨Nat.le_refl _, Nat.le_refl _⟩)
abbrev rm_X8_lost : Room := { frames := 8, cells := 2, slots := 12, locals := 133 }
def wp_X8_lost (post : Int32 → Prop) (xpost : Nat → Prop) (r : Dt) (np : Nat) (pw : Nat → Dt) (x1 : Int32) : Prop := wp_X8_probeAt (fun r1 => post ((pw x1.toNatClampNeg) 0 14)) xpost r np pw x1
set_option maxHeartbeats 4000000 in
set_option maxRecDepth 100000 in
theorem c_X8_lost (l : Launch) (D : va_G) (tc : Nat → ClassId) (h0 : Nat) (sa : Nat → Nat) (x1 : Int32) (H0 : Heap) {ar : Nat → Nat} {Ar : Nat → Prop} {sp : Option Nat} {ns : Nat} {nf : Nat} {sd : Nat → Nat → Nat} {pd : Nat → Nat → Nat} {fd : Nat → Nat → Nat} {sums : Nat → Int64} {ad : Nat → Nat} {Ap : Nat → Nat → Prop} {r : Dt} {np : Nat} {pw : Nat → Dt} (hBr : Blk D tc Ar (shR (ad 0) sp ns np nf sd pd fd sums ar) ar r H0) (hBps : ∀ k : Nat, k < np → Blk D tc (Ap k) (shPr (pd k)) (pd k) (pw k) H0) (hlf : l.stackTraces = false) {post : Int32 → Prop} {xpost : Nat → Prop} (hw : wp_X8_lost post xpost r np pw x1) : MX l yX8_lost cX8_lost 2 (Option.some FieldType.int) rm_X8_lost (fun _ => False) [.ref (ar 0), .int x1] D tc h0 sa H0 post (fun (_ : Int32) (H1 : Heap) => H1 = H0) (fun u : Int32 => some (.int u)) xpost := by
  have hA0 : ∀ q : Nat, (fun _ : Nat => False) q → h0 ≤ q := fun _ h => h.elim
  refine MX.of RX8 [(0, .ref (ar 0)), (1, .int x1)] (by decide +kernel) rfl (Nat.le_of_ble_eq_true rfl) rfl ?_
  intro p e s m below meth c ls X hr hnt hT hH hS hl
  subst hH
  have hx := X.1
  have hb := X.2.1
  have hown := X.2.2.2.1
  have hU := X.2.2.2.2.1.1
  unfold wp_X8_lost at hw
  refine lv_aload_n hx hb dX8_lost_0 rfl (lv_at hl 0 rfl) ?_
  refine lv_iload_n hx hb dX8_lost_1 rfl (lv_at hl 1 rfl) ?_
  refine g_afterX (st0 := .int x1 :: .ref (ar 0) :: []) (rest := []) (g_VX X m_X8_234 (c_X8_probeAt l D tc h0 sa x1 _ hBr hBps hlf hw) (hBr.recv X 0 rfl (q := (RX8, TX8, 9)) rfl) hT hS hA0 dX8_lost_2 hl.1 rfl rfl ⟨Nat.le_of_ble_eq_true rfl, Nat.le_of_ble_eq_true rfl⟩ (Nat.le_of_ble_eq_true rfl) ⟨Nat.le_of_ble_eq_true rfl, Nat.le_of_ble_eq_true rfl⟩) hS (fun _ h => h.elim) (fun u => .ref (pd u 0) :: []) (fun _ => rfl) (fun k ce q9 H1 locs1 hx9 hz9 ho9 hS9 hce hcv hcl => ?_) (fun u H9 locs hw hP9 hz9 hk9 hS => ?_)
  · exact e_x X hnt ⟨hz9, ho9⟩ hce hcv hcl hx9 hS9 ⟨Nat.le_of_ble_eq_true rfl, Nat.le_of_ble_eq_true rfl⟩
  obtain ⟨e9, c9, rfl⟩ := hP9
  rw [e9] at hS ⊢
  have c2 : x1.toNatClampNeg < np := c9
  have hBp1 := hBps _ c2
  try dsimp only at hw
  refine g_get X dX8_lost_5 f_X8_266 hBp1 0 (v := .int ((pw x1.toNatClampNeg) 0 14)) rfl rfl ?_
  refine W.widen (k := rm_X8_lost.cells) (n := rm_X8_lost.slots) (Nat.le_of_ble_eq_true rfl) (Nat.le_of_ble_eq_true rfl) ?_
  exact vx_ret (e_i X hr dX8_lost_8 hS (((pw x1.toNatClampNeg) 0 14)) rfl hw rfl ⟨Nat.le_refl _, Nat.le_refl _⟩)
abbrev rm_X8_sentAt : Room := { frames := 8, cells := 3, slots := 18, locals := 133 }
def wp_X8_sentAt (post : Int32 → Prop) (xpost : Nat → Prop) (r : Dt) (np : Nat) (pw : Nat → Dt) (x1 : Int32) (x2 : Int32) (x3 : Int32) : Prop := wp_X8_probeAt (fun r1 => (x3 = 108 → (x2 < 0 → xpost 4) ∧ (¬ x2 < 0 → (((pw x1.toNatClampNeg) 0 13) ≤ x2 → xpost 4) ∧ (¬ ((pw x1.toNatClampNeg) 0 13) ≤ x2 → (x2 < 19 → vp_in x2 19 ∧ (∀ v8 : Int32, v8 = ((pw x1.toNatClampNeg) 5 x2.toNatClampNeg) → ((v8 < 0 → xpost 4) ∧ (¬ v8 < 0 → (v8 < 19 → (¬ x3 = 108 → (¬ x3 = 116 → vp_in v8 19 ∧ (post ((pw x1.toNatClampNeg) 3 v8.toNatClampNeg))) ∧ (x3 = 116 → vp_in v8 19 ∧ (post ((pw x1.toNatClampNeg) 2 v8.toNatClampNeg)))) ∧ (x3 = 108 → vp_in v8 19 ∧ (post ((pw x1.toNatClampNeg) 1 v8.toNatClampNeg)))) ∧ (¬ v8 < 19 → xpost 4))))) ∧ (¬ x2 < 19 → xpost 4)))) ∧ (¬ x3 = 108 → (x3 = 116 → (x2 < 0 → xpost 4) ∧ (¬ x2 < 0 → (((pw x1.toNatClampNeg) 0 13) ≤ x2 → xpost 4) ∧ (¬ ((pw x1.toNatClampNeg) 0 13) ≤ x2 → (x2 < 19 → vp_in x2 19 ∧ (∀ v21 : Int32, v21 = ((pw x1.toNatClampNeg) 5 x2.toNatClampNeg) → ((v21 < 0 → xpost 4) ∧ (¬ v21 < 0 → (v21 < 19 → (¬ x3 = 108 → (¬ x3 = 116 → vp_in v21 19 ∧ (post ((pw x1.toNatClampNeg) 3 v21.toNatClampNeg))) ∧ (x3 = 116 → vp_in v21 19 ∧ (post ((pw x1.toNatClampNeg) 2 v21.toNatClampNeg)))) ∧ (x3 = 108 → vp_in v21 19 ∧ (post ((pw x1.toNatClampNeg) 1 v21.toNatClampNeg)))) ∧ (¬ v21 < 19 → xpost 4))))) ∧ (¬ x2 < 19 → xpost 4)))) ∧ (¬ x3 = 116 → (x3 = 105 → (x2 < 0 → xpost 4) ∧ (¬ x2 < 0 → (((pw x1.toNatClampNeg) 0 13) ≤ x2 → xpost 4) ∧ (¬ ((pw x1.toNatClampNeg) 0 13) ≤ x2 → (x2 < 19 → vp_in x2 19 ∧ (∀ v34 : Int32, v34 = ((pw x1.toNatClampNeg) 5 x2.toNatClampNeg) → ((v34 < 0 → xpost 4) ∧ (¬ v34 < 0 → (v34 < 19 → (¬ x3 = 108 → (¬ x3 = 116 → vp_in v34 19 ∧ (post ((pw x1.toNatClampNeg) 3 v34.toNatClampNeg))) ∧ (x3 = 116 → vp_in v34 19 ∧ (post ((pw x1.toNatClampNeg) 2 v34.toNatClampNeg)))) ∧ (x3 = 108 → vp_in v34 19 ∧ (post ((pw x1.toNatClampNeg) 1 v34.toNatClampNeg)))) ∧ (¬ v34 < 19 → xpost 4))))) ∧ (¬ x2 < 19 → xpost 4)))) ∧ (¬ x3 = 105 → xpost 1)))) xpost r np pw x1
set_option maxHeartbeats 4000000 in
set_option maxRecDepth 100000 in
theorem c_X8_sentAt (l : Launch) (D : va_G) (tc : Nat → ClassId) (h0 : Nat) (sa : Nat → Nat) (x1 : Int32) (x2 : Int32) (x3 : Int32) (H0 : Heap) {ar : Nat → Nat} {Ar : Nat → Prop} {sp : Option Nat} {ns : Nat} {nf : Nat} {sd : Nat → Nat → Nat} {pd : Nat → Nat → Nat} {fd : Nat → Nat → Nat} {sums : Nat → Int64} {ad : Nat → Nat} {Ap : Nat → Nat → Prop} {r : Dt} {np : Nat} {pw : Nat → Dt} (hBr : Blk D tc Ar (shR (ad 0) sp ns np nf sd pd fd sums ar) ar r H0) (hBps : ∀ k : Nat, k < np → Blk D tc (Ap k) (shPr (pd k)) (pd k) (pw k) H0) (hlf : l.stackTraces = false) {post : Int32 → Prop} {xpost : Nat → Prop} (hw : wp_X8_sentAt post xpost r np pw x1 x2 x3) : MX l yX8_sentAt cX8_sentAt 6 (Option.some FieldType.int) rm_X8_sentAt (fun _ => False) [.ref (ar 0), .int x1, .int x2, .int x3] D tc h0 sa H0 post (fun (_ : Int32) (H1 : Heap) => H1 = H0) (fun u : Int32 => some (.int u)) xpost := by
  have hA0 : ∀ q : Nat, (fun _ : Nat => False) q → h0 ≤ q := fun _ h => h.elim
  refine MX.of RX8 [(0, .ref (ar 0)), (1, .int x1), (2, .int x2), (3, .int x3)] (by decide +kernel) rfl (Nat.le_of_ble_eq_true rfl) rfl ?_
  intro p e s m below meth c ls X hr hnt hT hH hS hl
  subst hH
  have hx := X.1
  have hb := X.2.1
  have hown := X.2.2.2.1
  have hU := X.2.2.2.2.1.1
  unfold wp_X8_sentAt at hw
  refine lv_aload_n hx hb dX8_sentAt_0 rfl (lv_at hl 0 rfl) ?_
  refine lv_iload_n hx hb dX8_sentAt_1 rfl (lv_at hl 1 rfl) ?_
  refine g_afterX (st0 := .int x1 :: .ref (ar 0) :: []) (rest := []) (g_VX X m_X8_234 (c_X8_probeAt l D tc h0 sa x1 _ hBr hBps hlf hw) (hBr.recv X 0 rfl (q := (RX8, TX8, 9)) rfl) hT hS hA0 dX8_sentAt_2 hl.1 rfl rfl ⟨Nat.le_of_ble_eq_true rfl, Nat.le_of_ble_eq_true rfl⟩ (Nat.le_of_ble_eq_true rfl) ⟨Nat.le_of_ble_eq_true rfl, Nat.le_of_ble_eq_true rfl⟩) hS (fun _ h => h.elim) (fun u => .ref (pd u 0) :: []) (fun _ => rfl) (fun k ce q9 H1 locs1 hx9 hz9 ho9 hS9 hce hcv hcl => ?_) (fun u H9 locs hw hP9 hz9 hk9 hS => ?_)
  · exact e_x X hnt ⟨hz9, ho9⟩ hce hcv hcl hx9 hS9 ⟨Nat.le_of_ble_eq_true rfl, Nat.le_of_ble_eq_true rfl⟩
  obtain ⟨e9, c9, rfl⟩ := hP9
  rw [e9] at hS ⊢
  have c2 : x1.toNatClampNeg < np := c9
  have hBp1 := hBps _ c2
  try dsimp only at hw
  refine lv_astore (lv' := [(4, .ref ((pd x1.toNatClampNeg) 0)), (0, .ref (ar 0)), (1, .int x1), (2, .int x2), (3, .int x3)]) hx hb dX8_sentAt_5 hl (by decide) rfl (fun ls hl => ?_)
  refine lv_iload_n hx hb dX8_sentAt_7 rfl (lv_at hl 4 rfl) ?_
  refine lv_bipush (v := 108) hx hb dX8_sentAt_8 (by decide) ?_
  refine lv_icmp_eq (tgt := 35) hx hb dX8_sentAt_10 (by decide) (fun c3 => ?_) (fun c3 => ?_)
  · have hw := hw.1 c3
    refine lv_iload_n hx hb dX8_sentAt_35 rfl (lv_at hl 3 rfl) ?_
    refine lv_if_lt (tgt := 54) hx hb dX8_sentAt_36 (by decide) (fun c4 => ?_) (fun c4 => ?_)
    · have hw := hw.1 c4
      exact g_throw X hlf tk4 (text := "there is no such record") (by decide) hT hnt hA0 hS hl.1 dX8_sentAt_54 dX8_sentAt_57 dX8_sentAt_58 dX8_sentAt_60 dX8_sentAt_63 ⟨Nat.le_of_ble_eq_true rfl, Nat.le_of_ble_eq_true rfl, Nat.le_of_ble_eq_true rfl, Nat.le_of_ble_eq_true rfl, Nat.le_of_ble_eq_true rfl, Nat.le_of_ble_eq_true rfl⟩ hw
    · have hw := hw.2 c4
      refine lv_iload_n hx hb dX8_sentAt_39 rfl (lv_at hl 3 rfl) ?_
      refine lv_aload hx hb dX8_sentAt_40 (lv_at hl 0 rfl) ?_
      refine g_get X dX8_sentAt_42 f_X8_250 hBp1 0 (v := .int ((pw x1.toNatClampNeg) 0 13)) rfl rfl ?_
      refine lv_icmp_ge (tgt := 54) hx hb dX8_sentAt_45 (by decide) (fun c5 => ?_) (fun c5 => ?_)
      · have hw := hw.1 c5
        exact g_throw X hlf tk4 (text := "there is no such record") (by decide) hT hnt hA0 hS hl.1 dX8_sentAt_54 dX8_sentAt_57 dX8_sentAt_58 dX8_sentAt_60 dX8_sentAt_63 ⟨Nat.le_of_ble_eq_true rfl, Nat.le_of_ble_eq_true rfl, Nat.le_of_ble_eq_true rfl, Nat.le_of_ble_eq_true rfl, Nat.le_of_ble_eq_true rfl, Nat.le_of_ble_eq_true rfl⟩ hw
      · have hw := hw.2 c5
        refine lv_iload_n hx hb dX8_sentAt_48 rfl (lv_at hl 3 rfl) ?_
        refine lv_bipush (v := 19) hx hb dX8_sentAt_49 (by decide) ?_
        refine lv_icmp_lt (tgt := 64) hx hb dX8_sentAt_51 (by decide) (fun c6 => ?_) (fun c6 => ?_)
        · have hw := hw.1 c6
          refine lv_aload hx hb dX8_sentAt_64 (lv_at hl 0 rfl) ?_
          refine g_get X dX8_sentAt_66 f_X8_257 hBp1 0 (v := .ref ((pd x1.toNatClampNeg) 5)) rfl rfl ?_
          refine lv_iload_n hx hb dX8_sentAt_69 rfl (lv_at hl 3 rfl) ?_
          obtain ⟨o7, hw⟩ := hw
          refine g_iald X dX8_sentAt_70 hBp1 5 rfl o7 rfl ?_
          refine lv_topi (fun v8 ev8 => ?_)
          have hw := hw v8 ev8
          refine lv_istore (lv' := [(5, .int v8), (4, .ref ((pd x1.toNatClampNeg) 0)), (0, .ref (ar 0)), (1, .int x1), (2, .int x2), (3, .int x3)]) hx hb dX8_sentAt_71 hl (by decide) rfl (fun ls hl => ?_)
          refine lv_iload hx hb dX8_sentAt_73 (lv_at hl 0 rfl) ?_
          refine lv_if_lt (tgt := 85) hx hb dX8_sentAt_75 (by decide) (fun c9 => ?_) (fun c9 => ?_)
          · have hw := hw.1 c9
            exact g_throw X hlf tk4 (text := "there is no such record") (by decide) hT hnt hA0 hS hl.1 dX8_sentAt_85 dX8_sentAt_88 dX8_sentAt_89 dX8_sentAt_91 dX8_sentAt_94 ⟨Nat.le_of_ble_eq_true rfl, Nat.le_of_ble_eq_true rfl, Nat.le_of_ble_eq_true rfl, Nat.le_of_ble_eq_true rfl, Nat.le_of_ble_eq_true rfl, Nat.le_of_ble_eq_true rfl⟩ hw
          · have hw := hw.2 c9
            refine lv_iload hx hb dX8_sentAt_78 (lv_at hl 0 rfl) ?_
            refine lv_bipush (v := 19) hx hb dX8_sentAt_80 (by decide) ?_
            refine lv_icmp_lt (tgt := 95) hx hb dX8_sentAt_82 (by decide) (fun c10 => ?_) (fun c10 => ?_)
            · have hw := hw.1 c10
              refine lv_iload_n hx hb dX8_sentAt_95 rfl (lv_at hl 5 rfl) ?_
              refine lv_bipush (v := 108) hx hb dX8_sentAt_96 (by decide) ?_
              refine lv_icmp_ne (tgt := 110) hx hb dX8_sentAt_98 (by decide) (fun c11 => ?_) (fun c11 => ?_)
              · have hw := hw.1 c11
                refine lv_iload_n hx hb dX8_sentAt_110 rfl (lv_at hl 5 rfl) ?_
                refine lv_bipush (v := 116) hx hb dX8_sentAt_111 (by decide) ?_
                refine lv_icmp_ne (tgt := 127) hx hb dX8_sentAt_113 (by decide) (fun c12 => ?_) (fun c12 => ?_)
                · have hw := hw.1 c12
                  refine lv_aload hx hb dX8_sentAt_127 (lv_at hl 1 rfl) ?_
                  refine g_get X dX8_sentAt_129 f_X8_264 hBp1 0 (v := .ref ((pd x1.toNatClampNeg) 3)) rfl rfl ?_
                  refine lv_iload hx hb dX8_sentAt_132 (lv_at hl 0 rfl) ?_
                  obtain ⟨o13, hw⟩ := hw
                  refine g_iald X dX8_sentAt_134 hBp1 3 rfl o13 rfl ?_
                  refine W.widen (k := rm_X8_sentAt.cells) (n := rm_X8_sentAt.slots) (Nat.le_of_ble_eq_true rfl) (Nat.le_of_ble_eq_true rfl) ?_
                  exact vx_ret (e_i X hr dX8_sentAt_135 hS (((pw x1.toNatClampNeg) 3 v8.toNatClampNeg)) rfl hw rfl ⟨Nat.le_refl _, Nat.le_refl _⟩)
                · have hw := hw.2 c12
                  refine lv_aload hx hb dX8_sentAt_116 (lv_at hl 1 rfl) ?_
                  refine g_get X dX8_sentAt_118 f_X8_263 hBp1 0 (v := .ref ((pd x1.toNatClampNeg) 2)) rfl rfl ?_
                  refine lv_iload hx hb dX8_sentAt_121 (lv_at hl 0 rfl) ?_
                  obtain ⟨o14, hw⟩ := hw
                  refine g_iald X dX8_sentAt_123 hBp1 2 rfl o14 rfl ?_
                  refine lv_goto (tgt := 135) hx hb dX8_sentAt_124 (by decide) ?_
                  refine W.widen (k := rm_X8_sentAt.cells) (n := rm_X8_sentAt.slots) (Nat.le_of_ble_eq_true rfl) (Nat.le_of_ble_eq_true rfl) ?_
                  exact vx_ret (e_i X hr dX8_sentAt_135 hS (((pw x1.toNatClampNeg) 2 v8.toNatClampNeg)) rfl hw rfl ⟨Nat.le_refl _, Nat.le_refl _⟩)
              · have hw := hw.2 c11
                refine lv_aload hx hb dX8_sentAt_101 (lv_at hl 1 rfl) ?_
                refine g_get X dX8_sentAt_103 f_X8_260 hBp1 0 (v := .ref ((pd x1.toNatClampNeg) 1)) rfl rfl ?_
                refine lv_iload hx hb dX8_sentAt_106 (lv_at hl 0 rfl) ?_
                obtain ⟨o15, hw⟩ := hw
                refine g_iald X dX8_sentAt_108 hBp1 1 rfl o15 rfl ?_
                refine W.widen (k := rm_X8_sentAt.cells) (n := rm_X8_sentAt.slots) (Nat.le_of_ble_eq_true rfl) (Nat.le_of_ble_eq_true rfl) ?_
                exact vx_ret (e_i X hr dX8_sentAt_109 hS (((pw x1.toNatClampNeg) 1 v8.toNatClampNeg)) rfl hw rfl ⟨Nat.le_refl _, Nat.le_refl _⟩)
            · have hw := hw.2 c10
              exact g_throw X hlf tk4 (text := "there is no such record") (by decide) hT hnt hA0 hS hl.1 dX8_sentAt_85 dX8_sentAt_88 dX8_sentAt_89 dX8_sentAt_91 dX8_sentAt_94 ⟨Nat.le_of_ble_eq_true rfl, Nat.le_of_ble_eq_true rfl, Nat.le_of_ble_eq_true rfl, Nat.le_of_ble_eq_true rfl, Nat.le_of_ble_eq_true rfl, Nat.le_of_ble_eq_true rfl⟩ hw
        · have hw := hw.2 c6
          exact g_throw X hlf tk4 (text := "there is no such record") (by decide) hT hnt hA0 hS hl.1 dX8_sentAt_54 dX8_sentAt_57 dX8_sentAt_58 dX8_sentAt_60 dX8_sentAt_63 ⟨Nat.le_of_ble_eq_true rfl, Nat.le_of_ble_eq_true rfl, Nat.le_of_ble_eq_true rfl, Nat.le_of_ble_eq_true rfl, Nat.le_of_ble_eq_true rfl, Nat.le_of_ble_eq_true rfl⟩ hw
  · have hw := hw.2 c3
    refine lv_iload_n hx hb dX8_sentAt_13 rfl (lv_at hl 4 rfl) ?_
    refine lv_bipush (v := 116) hx hb dX8_sentAt_14 (by decide) ?_
    refine lv_icmp_eq (tgt := 35) hx hb dX8_sentAt_16 (by decide) (fun c16 => ?_) (fun c16 => ?_)
    · have hw := hw.1 c16
      refine lv_iload_n hx hb dX8_sentAt_35 rfl (lv_at hl 3 rfl) ?_
      refine lv_if_lt (tgt := 54) hx hb dX8_sentAt_36 (by decide) (fun c17 => ?_) (fun c17 => ?_)
      · have hw := hw.1 c17
        exact g_throw X hlf tk4 (text := "there is no such record") (by decide) hT hnt hA0 hS hl.1 dX8_sentAt_54 dX8_sentAt_57 dX8_sentAt_58 dX8_sentAt_60 dX8_sentAt_63 ⟨Nat.le_of_ble_eq_true rfl, Nat.le_of_ble_eq_true rfl, Nat.le_of_ble_eq_true rfl, Nat.le_of_ble_eq_true rfl, Nat.le_of_ble_eq_true rfl, Nat.le_of_ble_eq_true rfl⟩ hw
      · have hw := hw.2 c17
        refine lv_iload_n hx hb dX8_sentAt_39 rfl (lv_at hl 3 rfl) ?_
        refine lv_aload hx hb dX8_sentAt_40 (lv_at hl 0 rfl) ?_
        refine g_get X dX8_sentAt_42 f_X8_250 hBp1 0 (v := .int ((pw x1.toNatClampNeg) 0 13)) rfl rfl ?_
        refine lv_icmp_ge (tgt := 54) hx hb dX8_sentAt_45 (by decide) (fun c18 => ?_) (fun c18 => ?_)
        · have hw := hw.1 c18
          exact g_throw X hlf tk4 (text := "there is no such record") (by decide) hT hnt hA0 hS hl.1 dX8_sentAt_54 dX8_sentAt_57 dX8_sentAt_58 dX8_sentAt_60 dX8_sentAt_63 ⟨Nat.le_of_ble_eq_true rfl, Nat.le_of_ble_eq_true rfl, Nat.le_of_ble_eq_true rfl, Nat.le_of_ble_eq_true rfl, Nat.le_of_ble_eq_true rfl, Nat.le_of_ble_eq_true rfl⟩ hw
        · have hw := hw.2 c18
          refine lv_iload_n hx hb dX8_sentAt_48 rfl (lv_at hl 3 rfl) ?_
          refine lv_bipush (v := 19) hx hb dX8_sentAt_49 (by decide) ?_
          refine lv_icmp_lt (tgt := 64) hx hb dX8_sentAt_51 (by decide) (fun c19 => ?_) (fun c19 => ?_)
          · have hw := hw.1 c19
            refine lv_aload hx hb dX8_sentAt_64 (lv_at hl 0 rfl) ?_
            refine g_get X dX8_sentAt_66 f_X8_257 hBp1 0 (v := .ref ((pd x1.toNatClampNeg) 5)) rfl rfl ?_
            refine lv_iload_n hx hb dX8_sentAt_69 rfl (lv_at hl 3 rfl) ?_
            obtain ⟨o20, hw⟩ := hw
            refine g_iald X dX8_sentAt_70 hBp1 5 rfl o20 rfl ?_
            refine lv_topi (fun v21 ev21 => ?_)
            have hw := hw v21 ev21
            refine lv_istore (lv' := [(5, .int v21), (4, .ref ((pd x1.toNatClampNeg) 0)), (0, .ref (ar 0)), (1, .int x1), (2, .int x2), (3, .int x3)]) hx hb dX8_sentAt_71 hl (by decide) rfl (fun ls hl => ?_)
            refine lv_iload hx hb dX8_sentAt_73 (lv_at hl 0 rfl) ?_
            refine lv_if_lt (tgt := 85) hx hb dX8_sentAt_75 (by decide) (fun c22 => ?_) (fun c22 => ?_)
            · have hw := hw.1 c22
              exact g_throw X hlf tk4 (text := "there is no such record") (by decide) hT hnt hA0 hS hl.1 dX8_sentAt_85 dX8_sentAt_88 dX8_sentAt_89 dX8_sentAt_91 dX8_sentAt_94 ⟨Nat.le_of_ble_eq_true rfl, Nat.le_of_ble_eq_true rfl, Nat.le_of_ble_eq_true rfl, Nat.le_of_ble_eq_true rfl, Nat.le_of_ble_eq_true rfl, Nat.le_of_ble_eq_true rfl⟩ hw
            · have hw := hw.2 c22
              refine lv_iload hx hb dX8_sentAt_78 (lv_at hl 0 rfl) ?_
              refine lv_bipush (v := 19) hx hb dX8_sentAt_80 (by decide) ?_
              refine lv_icmp_lt (tgt := 95) hx hb dX8_sentAt_82 (by decide) (fun c23 => ?_) (fun c23 => ?_)
              · have hw := hw.1 c23
                refine lv_iload_n hx hb dX8_sentAt_95 rfl (lv_at hl 5 rfl) ?_
                refine lv_bipush (v := 108) hx hb dX8_sentAt_96 (by decide) ?_
                refine lv_icmp_ne (tgt := 110) hx hb dX8_sentAt_98 (by decide) (fun c24 => ?_) (fun c24 => ?_)
                · have hw := hw.1 c24
                  refine lv_iload_n hx hb dX8_sentAt_110 rfl (lv_at hl 5 rfl) ?_
                  refine lv_bipush (v := 116) hx hb dX8_sentAt_111 (by decide) ?_
                  refine lv_icmp_ne (tgt := 127) hx hb dX8_sentAt_113 (by decide) (fun c25 => ?_) (fun c25 => ?_)
                  · have hw := hw.1 c25
                    refine lv_aload hx hb dX8_sentAt_127 (lv_at hl 1 rfl) ?_
                    refine g_get X dX8_sentAt_129 f_X8_264 hBp1 0 (v := .ref ((pd x1.toNatClampNeg) 3)) rfl rfl ?_
                    refine lv_iload hx hb dX8_sentAt_132 (lv_at hl 0 rfl) ?_
                    obtain ⟨o26, hw⟩ := hw
                    refine g_iald X dX8_sentAt_134 hBp1 3 rfl o26 rfl ?_
                    refine W.widen (k := rm_X8_sentAt.cells) (n := rm_X8_sentAt.slots) (Nat.le_of_ble_eq_true rfl) (Nat.le_of_ble_eq_true rfl) ?_
                    exact vx_ret (e_i X hr dX8_sentAt_135 hS (((pw x1.toNatClampNeg) 3 v21.toNatClampNeg)) rfl hw rfl ⟨Nat.le_refl _, Nat.le_refl _⟩)
                  · have hw := hw.2 c25
                    refine lv_aload hx hb dX8_sentAt_116 (lv_at hl 1 rfl) ?_
                    refine g_get X dX8_sentAt_118 f_X8_263 hBp1 0 (v := .ref ((pd x1.toNatClampNeg) 2)) rfl rfl ?_
                    refine lv_iload hx hb dX8_sentAt_121 (lv_at hl 0 rfl) ?_
                    obtain ⟨o27, hw⟩ := hw
                    refine g_iald X dX8_sentAt_123 hBp1 2 rfl o27 rfl ?_
                    refine lv_goto (tgt := 135) hx hb dX8_sentAt_124 (by decide) ?_
                    refine W.widen (k := rm_X8_sentAt.cells) (n := rm_X8_sentAt.slots) (Nat.le_of_ble_eq_true rfl) (Nat.le_of_ble_eq_true rfl) ?_
                    exact vx_ret (e_i X hr dX8_sentAt_135 hS (((pw x1.toNatClampNeg) 2 v21.toNatClampNeg)) rfl hw rfl ⟨Nat.le_refl _, Nat.le_refl _⟩)
                · have hw := hw.2 c24
                  refine lv_aload hx hb dX8_sentAt_101 (lv_at hl 1 rfl) ?_
                  refine g_get X dX8_sentAt_103 f_X8_260 hBp1 0 (v := .ref ((pd x1.toNatClampNeg) 1)) rfl rfl ?_
                  refine lv_iload hx hb dX8_sentAt_106 (lv_at hl 0 rfl) ?_
                  obtain ⟨o28, hw⟩ := hw
                  refine g_iald X dX8_sentAt_108 hBp1 1 rfl o28 rfl ?_
                  refine W.widen (k := rm_X8_sentAt.cells) (n := rm_X8_sentAt.slots) (Nat.le_of_ble_eq_true rfl) (Nat.le_of_ble_eq_true rfl) ?_
                  exact vx_ret (e_i X hr dX8_sentAt_109 hS (((pw x1.toNatClampNeg) 1 v21.toNatClampNeg)) rfl hw rfl ⟨Nat.le_refl _, Nat.le_refl _⟩)
              · have hw := hw.2 c23
                exact g_throw X hlf tk4 (text := "there is no such record") (by decide) hT hnt hA0 hS hl.1 dX8_sentAt_85 dX8_sentAt_88 dX8_sentAt_89 dX8_sentAt_91 dX8_sentAt_94 ⟨Nat.le_of_ble_eq_true rfl, Nat.le_of_ble_eq_true rfl, Nat.le_of_ble_eq_true rfl, Nat.le_of_ble_eq_true rfl, Nat.le_of_ble_eq_true rfl, Nat.le_of_ble_eq_true rfl⟩ hw
          · have hw := hw.2 c19
            exact g_throw X hlf tk4 (text := "there is no such record") (by decide) hT hnt hA0 hS hl.1 dX8_sentAt_54 dX8_sentAt_57 dX8_sentAt_58 dX8_sentAt_60 dX8_sentAt_63 ⟨Nat.le_of_ble_eq_true rfl, Nat.le_of_ble_eq_true rfl, Nat.le_of_ble_eq_true rfl, Nat.le_of_ble_eq_true rfl, Nat.le_of_ble_eq_true rfl, Nat.le_of_ble_eq_true rfl⟩ hw
    · have hw := hw.2 c16
      refine lv_iload_n hx hb dX8_sentAt_19 rfl (lv_at hl 4 rfl) ?_
      refine lv_bipush (v := 105) hx hb dX8_sentAt_20 (by decide) ?_
      refine lv_icmp_eq (tgt := 35) hx hb dX8_sentAt_22 (by decide) (fun c29 => ?_) (fun c29 => ?_)
      · have hw := hw.1 c29
        refine lv_iload_n hx hb dX8_sentAt_35 rfl (lv_at hl 3 rfl) ?_
        refine lv_if_lt (tgt := 54) hx hb dX8_sentAt_36 (by decide) (fun c30 => ?_) (fun c30 => ?_)
        · have hw := hw.1 c30
          exact g_throw X hlf tk4 (text := "there is no such record") (by decide) hT hnt hA0 hS hl.1 dX8_sentAt_54 dX8_sentAt_57 dX8_sentAt_58 dX8_sentAt_60 dX8_sentAt_63 ⟨Nat.le_of_ble_eq_true rfl, Nat.le_of_ble_eq_true rfl, Nat.le_of_ble_eq_true rfl, Nat.le_of_ble_eq_true rfl, Nat.le_of_ble_eq_true rfl, Nat.le_of_ble_eq_true rfl⟩ hw
        · have hw := hw.2 c30
          refine lv_iload_n hx hb dX8_sentAt_39 rfl (lv_at hl 3 rfl) ?_
          refine lv_aload hx hb dX8_sentAt_40 (lv_at hl 0 rfl) ?_
          refine g_get X dX8_sentAt_42 f_X8_250 hBp1 0 (v := .int ((pw x1.toNatClampNeg) 0 13)) rfl rfl ?_
          refine lv_icmp_ge (tgt := 54) hx hb dX8_sentAt_45 (by decide) (fun c31 => ?_) (fun c31 => ?_)
          · have hw := hw.1 c31
            exact g_throw X hlf tk4 (text := "there is no such record") (by decide) hT hnt hA0 hS hl.1 dX8_sentAt_54 dX8_sentAt_57 dX8_sentAt_58 dX8_sentAt_60 dX8_sentAt_63 ⟨Nat.le_of_ble_eq_true rfl, Nat.le_of_ble_eq_true rfl, Nat.le_of_ble_eq_true rfl, Nat.le_of_ble_eq_true rfl, Nat.le_of_ble_eq_true rfl, Nat.le_of_ble_eq_true rfl⟩ hw
          · have hw := hw.2 c31
            refine lv_iload_n hx hb dX8_sentAt_48 rfl (lv_at hl 3 rfl) ?_
            refine lv_bipush (v := 19) hx hb dX8_sentAt_49 (by decide) ?_
            refine lv_icmp_lt (tgt := 64) hx hb dX8_sentAt_51 (by decide) (fun c32 => ?_) (fun c32 => ?_)
            · have hw := hw.1 c32
              refine lv_aload hx hb dX8_sentAt_64 (lv_at hl 0 rfl) ?_
              refine g_get X dX8_sentAt_66 f_X8_257 hBp1 0 (v := .ref ((pd x1.toNatClampNeg) 5)) rfl rfl ?_
              refine lv_iload_n hx hb dX8_sentAt_69 rfl (lv_at hl 3 rfl) ?_
              obtain ⟨o33, hw⟩ := hw
              refine g_iald X dX8_sentAt_70 hBp1 5 rfl o33 rfl ?_
              refine lv_topi (fun v34 ev34 => ?_)
              have hw := hw v34 ev34
              refine lv_istore (lv' := [(5, .int v34), (4, .ref ((pd x1.toNatClampNeg) 0)), (0, .ref (ar 0)), (1, .int x1), (2, .int x2), (3, .int x3)]) hx hb dX8_sentAt_71 hl (by decide) rfl (fun ls hl => ?_)
              refine lv_iload hx hb dX8_sentAt_73 (lv_at hl 0 rfl) ?_
              refine lv_if_lt (tgt := 85) hx hb dX8_sentAt_75 (by decide) (fun c35 => ?_) (fun c35 => ?_)
              · have hw := hw.1 c35
                exact g_throw X hlf tk4 (text := "there is no such record") (by decide) hT hnt hA0 hS hl.1 dX8_sentAt_85 dX8_sentAt_88 dX8_sentAt_89 dX8_sentAt_91 dX8_sentAt_94 ⟨Nat.le_of_ble_eq_true rfl, Nat.le_of_ble_eq_true rfl, Nat.le_of_ble_eq_true rfl, Nat.le_of_ble_eq_true rfl, Nat.le_of_ble_eq_true rfl, Nat.le_of_ble_eq_true rfl⟩ hw
              · have hw := hw.2 c35
                refine lv_iload hx hb dX8_sentAt_78 (lv_at hl 0 rfl) ?_
                refine lv_bipush (v := 19) hx hb dX8_sentAt_80 (by decide) ?_
                refine lv_icmp_lt (tgt := 95) hx hb dX8_sentAt_82 (by decide) (fun c36 => ?_) (fun c36 => ?_)
                · have hw := hw.1 c36
                  refine lv_iload_n hx hb dX8_sentAt_95 rfl (lv_at hl 5 rfl) ?_
                  refine lv_bipush (v := 108) hx hb dX8_sentAt_96 (by decide) ?_
                  refine lv_icmp_ne (tgt := 110) hx hb dX8_sentAt_98 (by decide) (fun c37 => ?_) (fun c37 => ?_)
                  · have hw := hw.1 c37
                    refine lv_iload_n hx hb dX8_sentAt_110 rfl (lv_at hl 5 rfl) ?_
                    refine lv_bipush (v := 116) hx hb dX8_sentAt_111 (by decide) ?_
                    refine lv_icmp_ne (tgt := 127) hx hb dX8_sentAt_113 (by decide) (fun c38 => ?_) (fun c38 => ?_)
                    · have hw := hw.1 c38
                      refine lv_aload hx hb dX8_sentAt_127 (lv_at hl 1 rfl) ?_
                      refine g_get X dX8_sentAt_129 f_X8_264 hBp1 0 (v := .ref ((pd x1.toNatClampNeg) 3)) rfl rfl ?_
                      refine lv_iload hx hb dX8_sentAt_132 (lv_at hl 0 rfl) ?_
                      obtain ⟨o39, hw⟩ := hw
                      refine g_iald X dX8_sentAt_134 hBp1 3 rfl o39 rfl ?_
                      refine W.widen (k := rm_X8_sentAt.cells) (n := rm_X8_sentAt.slots) (Nat.le_of_ble_eq_true rfl) (Nat.le_of_ble_eq_true rfl) ?_
                      exact vx_ret (e_i X hr dX8_sentAt_135 hS (((pw x1.toNatClampNeg) 3 v34.toNatClampNeg)) rfl hw rfl ⟨Nat.le_refl _, Nat.le_refl _⟩)
                    · have hw := hw.2 c38
                      refine lv_aload hx hb dX8_sentAt_116 (lv_at hl 1 rfl) ?_
                      refine g_get X dX8_sentAt_118 f_X8_263 hBp1 0 (v := .ref ((pd x1.toNatClampNeg) 2)) rfl rfl ?_
                      refine lv_iload hx hb dX8_sentAt_121 (lv_at hl 0 rfl) ?_
                      obtain ⟨o40, hw⟩ := hw
                      refine g_iald X dX8_sentAt_123 hBp1 2 rfl o40 rfl ?_
                      refine lv_goto (tgt := 135) hx hb dX8_sentAt_124 (by decide) ?_
                      refine W.widen (k := rm_X8_sentAt.cells) (n := rm_X8_sentAt.slots) (Nat.le_of_ble_eq_true rfl) (Nat.le_of_ble_eq_true rfl) ?_
                      exact vx_ret (e_i X hr dX8_sentAt_135 hS (((pw x1.toNatClampNeg) 2 v34.toNatClampNeg)) rfl hw rfl ⟨Nat.le_refl _, Nat.le_refl _⟩)
                  · have hw := hw.2 c37
                    refine lv_aload hx hb dX8_sentAt_101 (lv_at hl 1 rfl) ?_
                    refine g_get X dX8_sentAt_103 f_X8_260 hBp1 0 (v := .ref ((pd x1.toNatClampNeg) 1)) rfl rfl ?_
                    refine lv_iload hx hb dX8_sentAt_106 (lv_at hl 0 rfl) ?_
                    obtain ⟨o41, hw⟩ := hw
                    refine g_iald X dX8_sentAt_108 hBp1 1 rfl o41 rfl ?_
                    refine W.widen (k := rm_X8_sentAt.cells) (n := rm_X8_sentAt.slots) (Nat.le_of_ble_eq_true rfl) (Nat.le_of_ble_eq_true rfl) ?_
                    exact vx_ret (e_i X hr dX8_sentAt_109 hS (((pw x1.toNatClampNeg) 1 v34.toNatClampNeg)) rfl hw rfl ⟨Nat.le_refl _, Nat.le_refl _⟩)
                · have hw := hw.2 c36
                  exact g_throw X hlf tk4 (text := "there is no such record") (by decide) hT hnt hA0 hS hl.1 dX8_sentAt_85 dX8_sentAt_88 dX8_sentAt_89 dX8_sentAt_91 dX8_sentAt_94 ⟨Nat.le_of_ble_eq_true rfl, Nat.le_of_ble_eq_true rfl, Nat.le_of_ble_eq_true rfl, Nat.le_of_ble_eq_true rfl, Nat.le_of_ble_eq_true rfl, Nat.le_of_ble_eq_true rfl⟩ hw
            · have hw := hw.2 c32
              exact g_throw X hlf tk4 (text := "there is no such record") (by decide) hT hnt hA0 hS hl.1 dX8_sentAt_54 dX8_sentAt_57 dX8_sentAt_58 dX8_sentAt_60 dX8_sentAt_63 ⟨Nat.le_of_ble_eq_true rfl, Nat.le_of_ble_eq_true rfl, Nat.le_of_ble_eq_true rfl, Nat.le_of_ble_eq_true rfl, Nat.le_of_ble_eq_true rfl, Nat.le_of_ble_eq_true rfl⟩ hw
      · have hw := hw.2 c29
        exact g_throw X hlf tk1 (text := "a record has no such thing") (by decide) hT hnt hA0 hS hl.1 dX8_sentAt_25 dX8_sentAt_28 dX8_sentAt_29 dX8_sentAt_31 dX8_sentAt_34 ⟨Nat.le_of_ble_eq_true rfl, Nat.le_of_ble_eq_true rfl, Nat.le_of_ble_eq_true rfl, Nat.le_of_ble_eq_true rfl, Nat.le_of_ble_eq_true rfl, Nat.le_of_ble_eq_true rfl⟩ hw
abbrev rm_X8_countSeen : Room := { frames := 8, cells := 2, slots := 12, locals := 133 }
def wp_X8_countSeen (post : Int32 → Prop) (xpost : Nat → Prop) (r : Dt) (nf : Nat) (fw : Nat → Dt) (x1 : Int32) : Prop := wp_X8_frameAt (fun r1 => post ((fw x1.toNatClampNeg) 0 1)) xpost r nf fw x1
set_option maxHeartbeats 4000000 in
set_option maxRecDepth 100000 in
theorem c_X8_countSeen (l : Launch) (D : va_G) (tc : Nat → ClassId) (h0 : Nat) (sa : Nat → Nat) (x1 : Int32) (H0 : Heap) {ar : Nat → Nat} {Ar : Nat → Prop} {sp : Option Nat} {ns : Nat} {np : Nat} {sd : Nat → Nat → Nat} {pd : Nat → Nat → Nat} {fd : Nat → Nat → Nat} {sums : Nat → Int64} {ad : Nat → Nat} {Af : Nat → Nat → Prop} {r : Dt} {nf : Nat} {fw : Nat → Dt} (hBr : Blk D tc Ar (shR (ad 0) sp ns np nf sd pd fd sums ar) ar r H0) (hBfs : ∀ k : Nat, k < nf → Blk D tc (Af k) (shFr (fd k)) (fd k) (fw k) H0) (hlf : l.stackTraces = false) {post : Int32 → Prop} {xpost : Nat → Prop} (hw : wp_X8_countSeen post xpost r nf fw x1) : MX l yX8_countSeen cX8_countSeen 2 (Option.some FieldType.int) rm_X8_countSeen (fun _ => False) [.ref (ar 0), .int x1] D tc h0 sa H0 post (fun (_ : Int32) (H1 : Heap) => H1 = H0) (fun u : Int32 => some (.int u)) xpost := by
  have hA0 : ∀ q : Nat, (fun _ : Nat => False) q → h0 ≤ q := fun _ h => h.elim
  refine MX.of RX8 [(0, .ref (ar 0)), (1, .int x1)] (by decide +kernel) rfl (Nat.le_of_ble_eq_true rfl) rfl ?_
  intro p e s m below meth c ls X hr hnt hT hH hS hl
  subst hH
  have hx := X.1
  have hb := X.2.1
  have hown := X.2.2.2.1
  have hU := X.2.2.2.2.1.1
  unfold wp_X8_countSeen at hw
  refine lv_aload_n hx hb dX8_countSeen_0 rfl (lv_at hl 0 rfl) ?_
  refine lv_iload_n hx hb dX8_countSeen_1 rfl (lv_at hl 1 rfl) ?_
  refine g_afterX (st0 := .int x1 :: .ref (ar 0) :: []) (rest := []) (g_VX X m_X8_278 (c_X8_frameAt l D tc h0 sa x1 _ hBr hBfs hlf hw) (hBr.recv X 0 rfl (q := (RX8, TX8, 9)) rfl) hT hS hA0 dX8_countSeen_2 hl.1 rfl rfl ⟨Nat.le_of_ble_eq_true rfl, Nat.le_of_ble_eq_true rfl⟩ (Nat.le_of_ble_eq_true rfl) ⟨Nat.le_of_ble_eq_true rfl, Nat.le_of_ble_eq_true rfl⟩) hS (fun _ h => h.elim) (fun u => .ref (fd u 0) :: []) (fun _ => rfl) (fun k ce q9 H1 locs1 hx9 hz9 ho9 hS9 hce hcv hcl => ?_) (fun u H9 locs hw hP9 hz9 hk9 hS => ?_)
  · exact e_x X hnt ⟨hz9, ho9⟩ hce hcv hcl hx9 hS9 ⟨Nat.le_of_ble_eq_true rfl, Nat.le_of_ble_eq_true rfl⟩
  obtain ⟨e9, c9, rfl⟩ := hP9
  rw [e9] at hS ⊢
  have c2 : x1.toNatClampNeg < nf := c9
  have hBf1 := hBfs _ c2
  try dsimp only at hw
  refine g_get X dX8_countSeen_5 f_X8_282 hBf1 0 (v := .int ((fw x1.toNatClampNeg) 0 1)) rfl rfl ?_
  refine W.widen (k := rm_X8_countSeen.cells) (n := rm_X8_countSeen.slots) (Nat.le_of_ble_eq_true rfl) (Nat.le_of_ble_eq_true rfl) ?_
  exact vx_ret (e_i X hr dX8_countSeen_8 hS (((fw x1.toNatClampNeg) 0 1)) rfl hw rfl ⟨Nat.le_refl _, Nat.le_refl _⟩)
abbrev rm_X8_placeIn : Room := { frames := 8, cells := 4, slots := 24, locals := 133 }
def wp_X8_placeIn (post : Int32 → Prop) (xpost : Nat → Prop) (r : Dt) (nf : Nat) (fw : Nat → Dt) (x1 : Int32) (x2 : Int32) : Prop := wp_X8_frameAt (fun r1 => wp_X8_checkName (fun _u => wp_X2_placeOf (fun r3 => (0 ≤ r3 → post r3) ∧ (¬ 0 ≤ r3 → xpost 4)) (fw x1.toNatClampNeg) x2) xpost x2) xpost r nf fw x1
set_option maxHeartbeats 4000000 in
set_option maxRecDepth 100000 in
theorem c_X8_placeIn (l : Launch) (D : va_G) (tc : Nat → ClassId) (h0 : Nat) (sa : Nat → Nat) (x1 : Int32) (x2 : Int32) (H0 : Heap) {ar : Nat → Nat} {Ar : Nat → Prop} {sp : Option Nat} {ns : Nat} {np : Nat} {sd : Nat → Nat → Nat} {pd : Nat → Nat → Nat} {fd : Nat → Nat → Nat} {sums : Nat → Int64} {ad : Nat → Nat} {Af : Nat → Nat → Prop} {r : Dt} {nf : Nat} {fw : Nat → Dt} (hBr : Blk D tc Ar (shR (ad 0) sp ns np nf sd pd fd sums ar) ar r H0) (hBfs : ∀ k : Nat, k < nf → Blk D tc (Af k) (shFr (fd k)) (fd k) (fw k) H0) (hlf : l.stackTraces = false) {post : Int32 → Prop} {xpost : Nat → Prop} (hw : wp_X8_placeIn post xpost r nf fw x1 x2) : MX l yX8_placeIn cX8_placeIn 5 (Option.some FieldType.int) rm_X8_placeIn (fun _ => False) [.ref (ar 0), .int x1, .int x2] D tc h0 sa H0 post (fun (_ : Int32) (H1 : Heap) => H1 = H0) (fun u : Int32 => some (.int u)) xpost := by
  have hA0 : ∀ q : Nat, (fun _ : Nat => False) q → h0 ≤ q := fun _ h => h.elim
  refine MX.of RX8 [(0, .ref (ar 0)), (1, .int x1), (2, .int x2)] (by decide +kernel) rfl (Nat.le_of_ble_eq_true rfl) rfl ?_
  intro p e s m below meth c ls X hr hnt hT hH hS hl
  subst hH
  have hx := X.1
  have hb := X.2.1
  have hown := X.2.2.2.1
  have hU := X.2.2.2.2.1.1
  unfold wp_X8_placeIn at hw
  refine lv_aload_n hx hb dX8_placeIn_0 rfl (lv_at hl 0 rfl) ?_
  refine lv_iload_n hx hb dX8_placeIn_1 rfl (lv_at hl 1 rfl) ?_
  refine g_afterX (st0 := .int x1 :: .ref (ar 0) :: []) (rest := []) (g_VX X m_X8_278 (c_X8_frameAt l D tc h0 sa x1 _ hBr hBfs hlf hw) (hBr.recv X 0 rfl (q := (RX8, TX8, 9)) rfl) hT hS hA0 dX8_placeIn_2 hl.1 rfl rfl ⟨Nat.le_of_ble_eq_true rfl, Nat.le_of_ble_eq_true rfl⟩ (Nat.le_of_ble_eq_true rfl) ⟨Nat.le_of_ble_eq_true rfl, Nat.le_of_ble_eq_true rfl⟩) hS (fun _ h => h.elim) (fun u => .ref (fd u 0) :: []) (fun _ => rfl) (fun k ce q9 H1 locs1 hx9 hz9 ho9 hS9 hce hcv hcl => ?_) (fun u H9 locs hw hP9 hz9 hk9 hS => ?_)
  · exact e_x X hnt ⟨hz9, ho9⟩ hce hcv hcl hx9 hS9 ⟨Nat.le_of_ble_eq_true rfl, Nat.le_of_ble_eq_true rfl⟩
  obtain ⟨e9, c9, rfl⟩ := hP9
  rw [e9] at hS ⊢
  have c2 : x1.toNatClampNeg < nf := c9
  have hBf1 := hBfs _ c2
  try dsimp only at hw
  refine lv_astore_n (lv' := [(3, .ref ((fd x1.toNatClampNeg) 0)), (0, .ref (ar 0)), (1, .int x1), (2, .int x2)]) hx hb dX8_placeIn_5 rfl hl (by decide) rfl (fun ls hl => ?_)
  refine lv_iload_n hx hb dX8_placeIn_6 rfl (lv_at hl 3 rfl) ?_
  refine g_afterX (st0 := .int x2 :: []) (rest := []) (g_SX X m_X8_144 (c_X8_checkName l D tc h0 sa x2 _ hlf hw) hT hS hA0 dX8_placeIn_7 hl.1 rfl rfl ⟨Nat.le_of_ble_eq_true rfl, Nat.le_of_ble_eq_true rfl⟩ (Nat.le_of_ble_eq_true rfl) ⟨Nat.le_of_ble_eq_true rfl, Nat.le_of_ble_eq_true rfl⟩) hS (fun _ h => h.elim) (fun u => []) (fun _ => rfl) (fun k ce q9 H1 locs1 hx9 hz9 ho9 hS9 hce hcv hcl => ?_) (fun u H9 locs hw hP9 hz9 hk9 hS => ?_)
  · exact e_x X hnt ⟨hz9, ho9⟩ hce hcv hcl hx9 hS9 ⟨Nat.le_of_ble_eq_true rfl, Nat.le_of_ble_eq_true rfl⟩
  have e9 : H9 = _ := hP9
  rw [e9] at hS ⊢
  try dsimp only at hw
  refine lv_aload_n hx hb dX8_placeIn_10 rfl (lv_at hl 0 rfl) ?_
  refine lv_iload_n hx hb dX8_placeIn_11 rfl (lv_at hl 3 rfl) ?_
  refine g_after (st0 := .int x2 :: .ref ((fd x1.toNatClampNeg) 0) :: []) (rest := []) (g_V X m_X8_283 (c_X2_placeOf l D tc h0 sa x2 _ hBf1 hw) (hBf1.recv X 0 rfl (q := (RX2, TX2, 4)) rfl) hT hS hA0 dX8_placeIn_12 hl.1 rfl rfl ⟨Nat.le_of_ble_eq_true rfl, Nat.le_of_ble_eq_true rfl⟩ (Nat.le_of_ble_eq_true rfl) ⟨Nat.le_of_ble_eq_true rfl, Nat.le_of_ble_eq_true rfl⟩) hS (fun _ h => h.elim) (fun u => .int u :: []) (fun _ => rfl) (fun u H9 locs hw hP9 hz9 hk9 hS => ?_)
  have e9 : H9 = _ := hP9
  rw [e9] at hS ⊢
  obtain ⟨r3, rfl⟩ : ∃ z, z = u := ⟨_, rfl⟩
  try dsimp only at hw
  refine lv_istore (lv' := [(4, .int r3), (3, .ref ((fd x1.toNatClampNeg) 0)), (0, .ref (ar 0)), (1, .int x1), (2, .int x2)]) hx hb dX8_placeIn_15 hl (by decide) rfl (fun ls hl => ?_)
  refine lv_iload hx hb dX8_placeIn_17 (lv_at hl 0 rfl) ?_
  refine lv_if_ge (tgt := 33) hx hb dX8_placeIn_19 (by decide) (fun c4 => ?_) (fun c4 => ?_)
  · have hw := hw.1 c4
    refine lv_iload hx hb dX8_placeIn_33 (lv_at hl 0 rfl) ?_
    refine W.widen (k := rm_X8_placeIn.cells) (n := rm_X8_placeIn.slots) (Nat.le_of_ble_eq_true rfl) (Nat.le_of_ble_eq_true rfl) ?_
    exact vx_ret (e_i X hr dX8_placeIn_35 hS (r3) rfl hw rfl ⟨Nat.le_refl _, Nat.le_refl _⟩)
  · have hw := hw.2 c4
    exact g_throwW X hlf tk4 (text := "the frame does not have the name") (by decide) hT hnt hA0 hS hl.1 dX8_placeIn_22 dX8_placeIn_25 dX8_placeIn_26 dX8_placeIn_29 dX8_placeIn_32 ⟨Nat.le_of_ble_eq_true rfl, Nat.le_of_ble_eq_true rfl, Nat.le_of_ble_eq_true rfl, Nat.le_of_ble_eq_true rfl, Nat.le_of_ble_eq_true rfl, Nat.le_of_ble_eq_true rfl⟩ hw
abbrev rm_X8_drift : Room := { frames := 8, cells := 6, slots := 36, locals := 133 }
def wp_X8_drift (post : UInt32 → Prop) (xpost : Nat → Prop) (r : Dt) (nf : Nat) (fw : Nat → Dt) (x1 : Int32) (x2 : Int32) (x3 : Int32) : Prop := wp_X8_frameAt (fun r1 => wp_X8_frameAt (fun r3 => wp_X8_checkName (fun _u => (((fw x3.toNatClampNeg) 0 0) < ((fw x2.toNatClampNeg) 0 0) → (((fw x3.toNatClampNeg) 0 0) < ((fw x2.toNatClampNeg) 0 0) → wp_X2_placeOf (fun r7 => wp_X2_placeOf (fun r8 => ∀ v9 : Int32, v9 = (((fw x2.toNatClampNeg) 0 0) - ((fw x3.toNatClampNeg) 0 0)) → ((r7 < 0 → xpost 4) ∧ (¬ r7 < 0 → (r8 < 0 → xpost 4) ∧ (¬ r8 < 0 → (1 ≤ v9 → wp_J9_floorMod_7cf53 (fun r13 => vf_n32 (FP.fdiv (FP.i2f (r13 - 1800)) (FP.i2f v9)) ∧ (post (FP.fdiv (FP.i2f (r13 - 1800)) (FP.i2f v9)))) ((r8 - r7) + 1800) 3600) ∧ (¬ 1 ≤ v9 → xpost 4))))) (fw x2.toNatClampNeg) x1) (fw x3.toNatClampNeg) x1) ∧ (¬ ((fw x3.toNatClampNeg) 0 0) < ((fw x2.toNatClampNeg) 0 0) → wp_X2_placeOf (fun r15 => wp_X2_placeOf (fun r16 => ∀ v17 : Int32, v17 = (((fw x3.toNatClampNeg) 0 0) - ((fw x3.toNatClampNeg) 0 0)) → ((r15 < 0 → xpost 4) ∧ (¬ r15 < 0 → (r16 < 0 → xpost 4) ∧ (¬ r16 < 0 → (1 ≤ v17 → wp_J9_floorMod_7cf53 (fun r21 => vf_n32 (FP.fdiv (FP.i2f (r21 - 1800)) (FP.i2f v17)) ∧ (post (FP.fdiv (FP.i2f (r21 - 1800)) (FP.i2f v17)))) ((r16 - r15) + 1800) 3600) ∧ (¬ 1 ≤ v17 → xpost 4))))) (fw x3.toNatClampNeg) x1) (fw x3.toNatClampNeg) x1)) ∧ (¬ ((fw x3.toNatClampNeg) 0 0) < ((fw x2.toNatClampNeg) 0 0) → (((fw x3.toNatClampNeg) 0 0) < ((fw x2.toNatClampNeg) 0 0) → wp_X2_placeOf (fun r24 => wp_X2_placeOf (fun r25 => ∀ v26 : Int32, v26 = (((fw x2.toNatClampNeg) 0 0) - ((fw x2.toNatClampNeg) 0 0)) → ((r24 < 0 → xpost 4) ∧ (¬ r24 < 0 → (r25 < 0 → xpost 4) ∧ (¬ r25 < 0 → (1 ≤ v26 → wp_J9_floorMod_7cf53 (fun r30 => vf_n32 (FP.fdiv (FP.i2f (r30 - 1800)) (FP.i2f v26)) ∧ (post (FP.fdiv (FP.i2f (r30 - 1800)) (FP.i2f v26)))) ((r25 - r24) + 1800) 3600) ∧ (¬ 1 ≤ v26 → xpost 4))))) (fw x2.toNatClampNeg) x1) (fw x2.toNatClampNeg) x1) ∧ (¬ ((fw x3.toNatClampNeg) 0 0) < ((fw x2.toNatClampNeg) 0 0) → wp_X2_placeOf (fun r32 => wp_X2_placeOf (fun r33 => ∀ v34 : Int32, v34 = (((fw x3.toNatClampNeg) 0 0) - ((fw x2.toNatClampNeg) 0 0)) → ((r32 < 0 → xpost 4) ∧ (¬ r32 < 0 → (r33 < 0 → xpost 4) ∧ (¬ r33 < 0 → (1 ≤ v34 → wp_J9_floorMod_7cf53 (fun r38 => vf_n32 (FP.fdiv (FP.i2f (r38 - 1800)) (FP.i2f v34)) ∧ (post (FP.fdiv (FP.i2f (r38 - 1800)) (FP.i2f v34)))) ((r33 - r32) + 1800) 3600) ∧ (¬ 1 ≤ v34 → xpost 4))))) (fw x3.toNatClampNeg) x1) (fw x2.toNatClampNeg) x1))) xpost x1) xpost r nf fw x3) xpost r nf fw x2
set_option maxHeartbeats 4000000 in
set_option maxRecDepth 100000 in
theorem c_X8_drift (l : Launch) (D : va_G) (tc : Nat → ClassId) (h0 : Nat) (sa : Nat → Nat) (x1 : Int32) (x2 : Int32) (x3 : Int32) (H0 : Heap) {ar : Nat → Nat} {Ar : Nat → Prop} {sp : Option Nat} {ns : Nat} {np : Nat} {sd : Nat → Nat → Nat} {pd : Nat → Nat → Nat} {fd : Nat → Nat → Nat} {sums : Nat → Int64} {ad : Nat → Nat} {Af : Nat → Nat → Prop} {r : Dt} {nf : Nat} {fw : Nat → Dt} (hBr : Blk D tc Ar (shR (ad 0) sp ns np nf sd pd fd sums ar) ar r H0) (hBfs : ∀ k : Nat, k < nf → Blk D tc (Af k) (shFr (fd k)) (fd k) (fw k) H0) (hlf : l.stackTraces = false) {post : UInt32 → Prop} {xpost : Nat → Prop} (hw : wp_X8_drift post xpost r nf fw x1 x2 x3) : MX l yX8_drift cX8_drift 12 (Option.some FieldType.float) rm_X8_drift (fun _ => False) [.ref (ar 0), .int x1, .int x2, .int x3] D tc h0 sa H0 post (fun (_ : UInt32) (H1 : Heap) => H1 = H0) (fun u : UInt32 => some (.float u)) xpost := by
  have hA0 : ∀ q : Nat, (fun _ : Nat => False) q → h0 ≤ q := fun _ h => h.elim
  refine MX.of RX8 [(0, .ref (ar 0)), (1, .int x1), (2, .int x2), (3, .int x3)] (by decide +kernel) rfl (Nat.le_of_ble_eq_true rfl) rfl ?_
  intro p e s m below meth c ls X hr hnt hT hH hS hl
  subst hH
  have hx := X.1
  have hb := X.2.1
  have hown := X.2.2.2.1
  have hU := X.2.2.2.2.1.1
  unfold wp_X8_drift at hw
  refine lv_aload_n hx hb dX8_drift_0 rfl (lv_at hl 0 rfl) ?_
  refine lv_iload_n hx hb dX8_drift_1 rfl (lv_at hl 2 rfl) ?_
  refine g_afterX (st0 := .int x2 :: .ref (ar 0) :: []) (rest := []) (g_VX X m_X8_278 (c_X8_frameAt l D tc h0 sa x2 _ hBr hBfs hlf hw) (hBr.recv X 0 rfl (q := (RX8, TX8, 9)) rfl) hT hS hA0 dX8_drift_2 hl.1 rfl rfl ⟨Nat.le_of_ble_eq_true rfl, Nat.le_of_ble_eq_true rfl⟩ (Nat.le_of_ble_eq_true rfl) ⟨Nat.le_of_ble_eq_true rfl, Nat.le_of_ble_eq_true rfl⟩) hS (fun _ h => h.elim) (fun u => .ref (fd u 0) :: []) (fun _ => rfl) (fun k ce q9 H1 locs1 hx9 hz9 ho9 hS9 hce hcv hcl => ?_) (fun u H9 locs hw hP9 hz9 hk9 hS => ?_)
  · exact e_x X hnt ⟨hz9, ho9⟩ hce hcv hcl hx9 hS9 ⟨Nat.le_of_ble_eq_true rfl, Nat.le_of_ble_eq_true rfl⟩
  obtain ⟨e9, c9, rfl⟩ := hP9
  rw [e9] at hS ⊢
  have c2 : x2.toNatClampNeg < nf := c9
  have hBf1 := hBfs _ c2
  try dsimp only at hw
  refine lv_astore (lv' := [(4, .ref ((fd x2.toNatClampNeg) 0)), (0, .ref (ar 0)), (1, .int x1), (2, .int x2), (3, .int x3)]) hx hb dX8_drift_5 hl (by decide) rfl (fun ls hl => ?_)
  refine lv_aload_n hx hb dX8_drift_7 rfl (lv_at hl 1 rfl) ?_
  refine lv_iload_n hx hb dX8_drift_8 rfl (lv_at hl 4 rfl) ?_
  refine g_afterX (st0 := .int x3 :: .ref (ar 0) :: []) (rest := []) (g_VX X m_X8_278 (c_X8_frameAt l D tc h0 sa x3 _ hBr hBfs hlf hw) (hBr.recv X 0 rfl (q := (RX8, TX8, 9)) rfl) hT hS hA0 dX8_drift_9 hl.1 rfl rfl ⟨Nat.le_of_ble_eq_true rfl, Nat.le_of_ble_eq_true rfl⟩ (Nat.le_of_ble_eq_true rfl) ⟨Nat.le_of_ble_eq_true rfl, Nat.le_of_ble_eq_true rfl⟩) hS (fun _ h => h.elim) (fun u => .ref (fd u 0) :: []) (fun _ => rfl) (fun k ce q9 H1 locs1 hx9 hz9 ho9 hS9 hce hcv hcl => ?_) (fun u H9 locs hw hP9 hz9 hk9 hS => ?_)
  · exact e_x X hnt ⟨hz9, ho9⟩ hce hcv hcl hx9 hS9 ⟨Nat.le_of_ble_eq_true rfl, Nat.le_of_ble_eq_true rfl⟩
  obtain ⟨e9, c9, rfl⟩ := hP9
  rw [e9] at hS ⊢
  have c4 : x3.toNatClampNeg < nf := c9
  have hBf2 := hBfs _ c4
  try dsimp only at hw
  refine lv_astore (lv' := [(5, .ref ((fd x3.toNatClampNeg) 0)), (4, .ref ((fd x2.toNatClampNeg) 0)), (0, .ref (ar 0)), (1, .int x1), (2, .int x2), (3, .int x3)]) hx hb dX8_drift_12 hl (by decide) rfl (fun ls hl => ?_)
  refine lv_iload_n hx hb dX8_drift_14 rfl (lv_at hl 3 rfl) ?_
  refine g_afterX (st0 := .int x1 :: []) (rest := []) (g_SX X m_X8_144 (c_X8_checkName l D tc h0 sa x1 _ hlf hw) hT hS hA0 dX8_drift_15 hl.1 rfl rfl ⟨Nat.le_of_ble_eq_true rfl, Nat.le_of_ble_eq_true rfl⟩ (Nat.le_of_ble_eq_true rfl) ⟨Nat.le_of_ble_eq_true rfl, Nat.le_of_ble_eq_true rfl⟩) hS (fun _ h => h.elim) (fun u => []) (fun _ => rfl) (fun k ce q9 H1 locs1 hx9 hz9 ho9 hS9 hce hcv hcl => ?_) (fun u H9 locs hw hP9 hz9 hk9 hS => ?_)
  · exact e_x X hnt ⟨hz9, ho9⟩ hce hcv hcl hx9 hS9 ⟨Nat.le_of_ble_eq_true rfl, Nat.le_of_ble_eq_true rfl⟩
  have e9 : H9 = _ := hP9
  rw [e9] at hS ⊢
  try dsimp only at hw
  refine lv_aload hx hb dX8_drift_18 (lv_at hl 1 rfl) ?_
  refine g_get X dX8_drift_20 f_X8_288 hBf1 0 (v := .int ((fw x2.toNatClampNeg) 0 0)) rfl rfl ?_
  refine lv_aload hx hb dX8_drift_23 (lv_at hl 0 rfl) ?_
  refine g_get X dX8_drift_25 f_X8_288 hBf2 0 (v := .int ((fw x3.toNatClampNeg) 0 0)) rfl rfl ?_
  refine lv_icmp_gt (tgt := 36) hx hb dX8_drift_28 (by decide) (fun c5 => ?_) (fun c5 => ?_)
  · have hw := hw.1 c5
    refine lv_aload hx hb dX8_drift_36 (lv_at hl 0 rfl) ?_
    refine lv_astore (lv' := [(6, .ref ((fd x3.toNatClampNeg) 0)), (5, .ref ((fd x3.toNatClampNeg) 0)), (4, .ref ((fd x2.toNatClampNeg) 0)), (0, .ref (ar 0)), (1, .int x1), (2, .int x2), (3, .int x3)]) hx hb dX8_drift_38 hl (by decide) rfl (fun ls hl => ?_)
    refine lv_aload hx hb dX8_drift_40 (lv_at hl 2 rfl) ?_
    refine g_get X dX8_drift_42 f_X8_288 hBf1 0 (v := .int ((fw x2.toNatClampNeg) 0 0)) rfl rfl ?_
    refine lv_aload hx hb dX8_drift_45 (lv_at hl 1 rfl) ?_
    refine g_get X dX8_drift_47 f_X8_288 hBf2 0 (v := .int ((fw x3.toNatClampNeg) 0 0)) rfl rfl ?_
    refine lv_icmp_gt (tgt := 58) hx hb dX8_drift_50 (by decide) (fun c6 => ?_) (fun c6 => ?_)
    · have hw := hw.1 c6
      refine lv_aload hx hb dX8_drift_58 (lv_at hl 2 rfl) ?_
      refine lv_astore (lv' := [(7, .ref ((fd x2.toNatClampNeg) 0)), (6, .ref ((fd x3.toNatClampNeg) 0)), (5, .ref ((fd x3.toNatClampNeg) 0)), (4, .ref ((fd x2.toNatClampNeg) 0)), (0, .ref (ar 0)), (1, .int x1), (2, .int x2), (3, .int x3)]) hx hb dX8_drift_60 hl (by decide) rfl (fun ls hl => ?_)
      refine lv_aload hx hb dX8_drift_62 (lv_at hl 1 rfl) ?_
      refine lv_iload_n hx hb dX8_drift_64 rfl (lv_at hl 5 rfl) ?_
      refine g_after (st0 := .int x1 :: .ref ((fd x3.toNatClampNeg) 0) :: []) (rest := []) (g_V X m_X8_283 (c_X2_placeOf l D tc h0 sa x1 _ hBf2 hw) (hBf2.recv X 0 rfl (q := (RX2, TX2, 4)) rfl) hT hS hA0 dX8_drift_65 hl.1 rfl rfl ⟨Nat.le_of_ble_eq_true rfl, Nat.le_of_ble_eq_true rfl⟩ (Nat.le_of_ble_eq_true rfl) ⟨Nat.le_of_ble_eq_true rfl, Nat.le_of_ble_eq_true rfl⟩) hS (fun _ h => h.elim) (fun u => .int u :: []) (fun _ => rfl) (fun u H9 locs hw hP9 hz9 hk9 hS => ?_)
      have e9 : H9 = _ := hP9
      rw [e9] at hS ⊢
      obtain ⟨r7, rfl⟩ : ∃ z, z = u := ⟨_, rfl⟩
      try dsimp only at hw
      refine lv_istore (lv' := [(8, .int r7), (7, .ref ((fd x2.toNatClampNeg) 0)), (6, .ref ((fd x3.toNatClampNeg) 0)), (5, .ref ((fd x3.toNatClampNeg) 0)), (4, .ref ((fd x2.toNatClampNeg) 0)), (0, .ref (ar 0)), (1, .int x1), (2, .int x2), (3, .int x3)]) hx hb dX8_drift_68 hl (by decide) rfl (fun ls hl => ?_)
      refine lv_aload hx hb dX8_drift_70 (lv_at hl 1 rfl) ?_
      refine lv_iload_n hx hb dX8_drift_72 rfl (lv_at hl 6 rfl) ?_
      refine g_after (st0 := .int x1 :: .ref ((fd x2.toNatClampNeg) 0) :: []) (rest := []) (g_V X m_X8_283 (c_X2_placeOf l D tc h0 sa x1 _ hBf1 hw) (hBf1.recv X 0 rfl (q := (RX2, TX2, 4)) rfl) hT hS hA0 dX8_drift_73 hl.1 rfl rfl ⟨Nat.le_of_ble_eq_true rfl, Nat.le_of_ble_eq_true rfl⟩ (Nat.le_of_ble_eq_true rfl) ⟨Nat.le_of_ble_eq_true rfl, Nat.le_of_ble_eq_true rfl⟩) hS (fun _ h => h.elim) (fun u => .int u :: []) (fun _ => rfl) (fun u H9 locs hw hP9 hz9 hk9 hS => ?_)
      have e9 : H9 = _ := hP9
      rw [e9] at hS ⊢
      obtain ⟨r8, rfl⟩ : ∃ z, z = u := ⟨_, rfl⟩
      try dsimp only at hw
      refine lv_istore (lv' := [(9, .int r8), (8, .int r7), (7, .ref ((fd x2.toNatClampNeg) 0)), (6, .ref ((fd x3.toNatClampNeg) 0)), (5, .ref ((fd x3.toNatClampNeg) 0)), (4, .ref ((fd x2.toNatClampNeg) 0)), (0, .ref (ar 0)), (1, .int x1), (2, .int x2), (3, .int x3)]) hx hb dX8_drift_76 hl (by decide) rfl (fun ls hl => ?_)
      refine lv_aload hx hb dX8_drift_78 (lv_at hl 2 rfl) ?_
      refine g_get X dX8_drift_80 f_X8_288 hBf1 0 (v := .int ((fw x2.toNatClampNeg) 0 0)) rfl rfl ?_
      refine lv_aload hx hb dX8_drift_83 (lv_at hl 3 rfl) ?_
      refine g_get X dX8_drift_85 f_X8_288 hBf2 0 (v := .int ((fw x3.toNatClampNeg) 0 0)) rfl rfl ?_
      refine lv_isub hx hb dX8_drift_88 ?_
      refine lv_topi (fun v9 ev9 => ?_)
      have hw := hw v9 ev9
      refine lv_istore (lv' := [(10, .int v9), (9, .int r8), (8, .int r7), (7, .ref ((fd x2.toNatClampNeg) 0)), (6, .ref ((fd x3.toNatClampNeg) 0)), (5, .ref ((fd x3.toNatClampNeg) 0)), (4, .ref ((fd x2.toNatClampNeg) 0)), (0, .ref (ar 0)), (1, .int x1), (2, .int x2), (3, .int x3)]) hx hb dX8_drift_89 hl (by decide) rfl (fun ls hl => ?_)
      refine lv_iload hx hb dX8_drift_91 (lv_at hl 2 rfl) ?_
      refine lv_if_lt (tgt := 107) hx hb dX8_drift_93 (by decide) (fun c10 => ?_) (fun c10 => ?_)
      · have hw := hw.1 c10
        exact g_throwW X hlf tk4 (text := "a frame does not have the name, or no turn is between") (by decide) hT hnt hA0 hS hl.1 dX8_drift_107 dX8_drift_110 dX8_drift_111 dX8_drift_114 dX8_drift_117 ⟨Nat.le_of_ble_eq_true rfl, Nat.le_of_ble_eq_true rfl, Nat.le_of_ble_eq_true rfl, Nat.le_of_ble_eq_true rfl, Nat.le_of_ble_eq_true rfl, Nat.le_of_ble_eq_true rfl⟩ hw
      · have hw := hw.2 c10
        refine lv_iload hx hb dX8_drift_96 (lv_at hl 1 rfl) ?_
        refine lv_if_lt (tgt := 107) hx hb dX8_drift_98 (by decide) (fun c11 => ?_) (fun c11 => ?_)
        · have hw := hw.1 c11
          exact g_throwW X hlf tk4 (text := "a frame does not have the name, or no turn is between") (by decide) hT hnt hA0 hS hl.1 dX8_drift_107 dX8_drift_110 dX8_drift_111 dX8_drift_114 dX8_drift_117 ⟨Nat.le_of_ble_eq_true rfl, Nat.le_of_ble_eq_true rfl, Nat.le_of_ble_eq_true rfl, Nat.le_of_ble_eq_true rfl, Nat.le_of_ble_eq_true rfl, Nat.le_of_ble_eq_true rfl⟩ hw
        · have hw := hw.2 c11
          refine lv_iload hx hb dX8_drift_101 (lv_at hl 0 rfl) ?_
          refine lv_iconst (v := 1) hx hb dX8_drift_103 (by decide) ?_
          refine lv_icmp_ge (tgt := 118) hx hb dX8_drift_104 (by decide) (fun c12 => ?_) (fun c12 => ?_)
          · have hw := hw.1 c12
            refine lv_iload hx hb dX8_drift_118 (lv_at hl 1 rfl) ?_
            refine lv_iload hx hb dX8_drift_120 (lv_at hl 2 rfl) ?_
            refine lv_isub hx hb dX8_drift_122 ?_
            refine lv_sipush (v := 1800) hx hb dX8_drift_123 (by decide) ?_
            refine lv_iadd hx hb dX8_drift_126 ?_
            refine lv_sipush (v := 3600) hx hb dX8_drift_127 (by decide) ?_
            refine g_after (st0 := .int 3600 :: .int ((r8 - r7) + 1800) :: []) (rest := []) (g_S X m_X8_293 (c_J9_floorMod_7cf53 l D tc h0 sa ((r8 - r7) + 1800) 3600 _  hw) hT hS hA0 dX8_drift_130 hl.1 rfl rfl ⟨Nat.le_of_ble_eq_true rfl, Nat.le_of_ble_eq_true rfl⟩ (Nat.le_of_ble_eq_true rfl) ⟨Nat.le_of_ble_eq_true rfl, Nat.le_of_ble_eq_true rfl⟩) hS (fun _ h => h.elim) (fun u => .int u :: []) (fun _ => rfl) (fun u H9 locs hw hP9 hz9 hk9 hS => ?_)
            have e9 : H9 = _ := hP9
            rw [e9] at hS ⊢
            obtain ⟨r13, rfl⟩ : ∃ z, z = u := ⟨_, rfl⟩
            try dsimp only at hw
            refine lv_sipush (v := 1800) hx hb dX8_drift_133 (by decide) ?_
            refine lv_isub hx hb dX8_drift_136 ?_
            refine lv_istore (lv' := [(11, .int (r13 - 1800)), (10, .int v9), (9, .int r8), (8, .int r7), (7, .ref ((fd x2.toNatClampNeg) 0)), (6, .ref ((fd x3.toNatClampNeg) 0)), (5, .ref ((fd x3.toNatClampNeg) 0)), (4, .ref ((fd x2.toNatClampNeg) 0)), (0, .ref (ar 0)), (1, .int x1), (2, .int x2), (3, .int x3)]) hx hb dX8_drift_137 hl (by decide) rfl (fun ls hl => ?_)
            refine lv_iload hx hb dX8_drift_139 (lv_at hl 0 rfl) ?_
            refine lv_i2f hx hb dX8_drift_141 ?_
            refine lv_iload hx hb dX8_drift_142 (lv_at hl 1 rfl) ?_
            refine lv_i2f hx hb dX8_drift_144 ?_
            obtain ⟨o14, hw⟩ := hw
            refine lv_fdiv hx hb dX8_drift_145 o14 ?_
            refine W.widen (k := rm_X8_drift.cells) (n := rm_X8_drift.slots) (Nat.le_of_ble_eq_true rfl) (Nat.le_of_ble_eq_true rfl) ?_
            exact vx_ret (e_f X hr dX8_drift_146 hS ((FP.fdiv (FP.i2f (r13 - 1800)) (FP.i2f v9))) rfl hw rfl ⟨Nat.le_refl _, Nat.le_refl _⟩)
          · have hw := hw.2 c12
            exact g_throwW X hlf tk4 (text := "a frame does not have the name, or no turn is between") (by decide) hT hnt hA0 hS hl.1 dX8_drift_107 dX8_drift_110 dX8_drift_111 dX8_drift_114 dX8_drift_117 ⟨Nat.le_of_ble_eq_true rfl, Nat.le_of_ble_eq_true rfl, Nat.le_of_ble_eq_true rfl, Nat.le_of_ble_eq_true rfl, Nat.le_of_ble_eq_true rfl, Nat.le_of_ble_eq_true rfl⟩ hw
    · have hw := hw.2 c6
      refine lv_aload hx hb dX8_drift_53 (lv_at hl 1 rfl) ?_
      refine lv_goto (tgt := 60) hx hb dX8_drift_55 (by decide) ?_
      refine lv_astore (lv' := [(7, .ref ((fd x3.toNatClampNeg) 0)), (6, .ref ((fd x3.toNatClampNeg) 0)), (5, .ref ((fd x3.toNatClampNeg) 0)), (4, .ref ((fd x2.toNatClampNeg) 0)), (0, .ref (ar 0)), (1, .int x1), (2, .int x2), (3, .int x3)]) hx hb dX8_drift_60 hl (by decide) rfl (fun ls hl => ?_)
      refine lv_aload hx hb dX8_drift_62 (lv_at hl 1 rfl) ?_
      refine lv_iload_n hx hb dX8_drift_64 rfl (lv_at hl 5 rfl) ?_
      refine g_after (st0 := .int x1 :: .ref ((fd x3.toNatClampNeg) 0) :: []) (rest := []) (g_V X m_X8_283 (c_X2_placeOf l D tc h0 sa x1 _ hBf2 hw) (hBf2.recv X 0 rfl (q := (RX2, TX2, 4)) rfl) hT hS hA0 dX8_drift_65 hl.1 rfl rfl ⟨Nat.le_of_ble_eq_true rfl, Nat.le_of_ble_eq_true rfl⟩ (Nat.le_of_ble_eq_true rfl) ⟨Nat.le_of_ble_eq_true rfl, Nat.le_of_ble_eq_true rfl⟩) hS (fun _ h => h.elim) (fun u => .int u :: []) (fun _ => rfl) (fun u H9 locs hw hP9 hz9 hk9 hS => ?_)
      have e9 : H9 = _ := hP9
      rw [e9] at hS ⊢
      obtain ⟨r15, rfl⟩ : ∃ z, z = u := ⟨_, rfl⟩
      try dsimp only at hw
      refine lv_istore (lv' := [(8, .int r15), (7, .ref ((fd x3.toNatClampNeg) 0)), (6, .ref ((fd x3.toNatClampNeg) 0)), (5, .ref ((fd x3.toNatClampNeg) 0)), (4, .ref ((fd x2.toNatClampNeg) 0)), (0, .ref (ar 0)), (1, .int x1), (2, .int x2), (3, .int x3)]) hx hb dX8_drift_68 hl (by decide) rfl (fun ls hl => ?_)
      refine lv_aload hx hb dX8_drift_70 (lv_at hl 1 rfl) ?_
      refine lv_iload_n hx hb dX8_drift_72 rfl (lv_at hl 6 rfl) ?_
      refine g_after (st0 := .int x1 :: .ref ((fd x3.toNatClampNeg) 0) :: []) (rest := []) (g_V X m_X8_283 (c_X2_placeOf l D tc h0 sa x1 _ hBf2 hw) (hBf2.recv X 0 rfl (q := (RX2, TX2, 4)) rfl) hT hS hA0 dX8_drift_73 hl.1 rfl rfl ⟨Nat.le_of_ble_eq_true rfl, Nat.le_of_ble_eq_true rfl⟩ (Nat.le_of_ble_eq_true rfl) ⟨Nat.le_of_ble_eq_true rfl, Nat.le_of_ble_eq_true rfl⟩) hS (fun _ h => h.elim) (fun u => .int u :: []) (fun _ => rfl) (fun u H9 locs hw hP9 hz9 hk9 hS => ?_)
      have e9 : H9 = _ := hP9
      rw [e9] at hS ⊢
      obtain ⟨r16, rfl⟩ : ∃ z, z = u := ⟨_, rfl⟩
      try dsimp only at hw
      refine lv_istore (lv' := [(9, .int r16), (8, .int r15), (7, .ref ((fd x3.toNatClampNeg) 0)), (6, .ref ((fd x3.toNatClampNeg) 0)), (5, .ref ((fd x3.toNatClampNeg) 0)), (4, .ref ((fd x2.toNatClampNeg) 0)), (0, .ref (ar 0)), (1, .int x1), (2, .int x2), (3, .int x3)]) hx hb dX8_drift_76 hl (by decide) rfl (fun ls hl => ?_)
      refine lv_aload hx hb dX8_drift_78 (lv_at hl 2 rfl) ?_
      refine g_get X dX8_drift_80 f_X8_288 hBf2 0 (v := .int ((fw x3.toNatClampNeg) 0 0)) rfl rfl ?_
      refine lv_aload hx hb dX8_drift_83 (lv_at hl 3 rfl) ?_
      refine g_get X dX8_drift_85 f_X8_288 hBf2 0 (v := .int ((fw x3.toNatClampNeg) 0 0)) rfl rfl ?_
      refine lv_isub hx hb dX8_drift_88 ?_
      refine lv_topi (fun v17 ev17 => ?_)
      have hw := hw v17 ev17
      refine lv_istore (lv' := [(10, .int v17), (9, .int r16), (8, .int r15), (7, .ref ((fd x3.toNatClampNeg) 0)), (6, .ref ((fd x3.toNatClampNeg) 0)), (5, .ref ((fd x3.toNatClampNeg) 0)), (4, .ref ((fd x2.toNatClampNeg) 0)), (0, .ref (ar 0)), (1, .int x1), (2, .int x2), (3, .int x3)]) hx hb dX8_drift_89 hl (by decide) rfl (fun ls hl => ?_)
      refine lv_iload hx hb dX8_drift_91 (lv_at hl 2 rfl) ?_
      refine lv_if_lt (tgt := 107) hx hb dX8_drift_93 (by decide) (fun c18 => ?_) (fun c18 => ?_)
      · have hw := hw.1 c18
        exact g_throwW X hlf tk4 (text := "a frame does not have the name, or no turn is between") (by decide) hT hnt hA0 hS hl.1 dX8_drift_107 dX8_drift_110 dX8_drift_111 dX8_drift_114 dX8_drift_117 ⟨Nat.le_of_ble_eq_true rfl, Nat.le_of_ble_eq_true rfl, Nat.le_of_ble_eq_true rfl, Nat.le_of_ble_eq_true rfl, Nat.le_of_ble_eq_true rfl, Nat.le_of_ble_eq_true rfl⟩ hw
      · have hw := hw.2 c18
        refine lv_iload hx hb dX8_drift_96 (lv_at hl 1 rfl) ?_
        refine lv_if_lt (tgt := 107) hx hb dX8_drift_98 (by decide) (fun c19 => ?_) (fun c19 => ?_)
        · have hw := hw.1 c19
          exact g_throwW X hlf tk4 (text := "a frame does not have the name, or no turn is between") (by decide) hT hnt hA0 hS hl.1 dX8_drift_107 dX8_drift_110 dX8_drift_111 dX8_drift_114 dX8_drift_117 ⟨Nat.le_of_ble_eq_true rfl, Nat.le_of_ble_eq_true rfl, Nat.le_of_ble_eq_true rfl, Nat.le_of_ble_eq_true rfl, Nat.le_of_ble_eq_true rfl, Nat.le_of_ble_eq_true rfl⟩ hw
        · have hw := hw.2 c19
          refine lv_iload hx hb dX8_drift_101 (lv_at hl 0 rfl) ?_
          refine lv_iconst (v := 1) hx hb dX8_drift_103 (by decide) ?_
          refine lv_icmp_ge (tgt := 118) hx hb dX8_drift_104 (by decide) (fun c20 => ?_) (fun c20 => ?_)
          · have hw := hw.1 c20
            refine lv_iload hx hb dX8_drift_118 (lv_at hl 1 rfl) ?_
            refine lv_iload hx hb dX8_drift_120 (lv_at hl 2 rfl) ?_
            refine lv_isub hx hb dX8_drift_122 ?_
            refine lv_sipush (v := 1800) hx hb dX8_drift_123 (by decide) ?_
            refine lv_iadd hx hb dX8_drift_126 ?_
            refine lv_sipush (v := 3600) hx hb dX8_drift_127 (by decide) ?_
            refine g_after (st0 := .int 3600 :: .int ((r16 - r15) + 1800) :: []) (rest := []) (g_S X m_X8_293 (c_J9_floorMod_7cf53 l D tc h0 sa ((r16 - r15) + 1800) 3600 _  hw) hT hS hA0 dX8_drift_130 hl.1 rfl rfl ⟨Nat.le_of_ble_eq_true rfl, Nat.le_of_ble_eq_true rfl⟩ (Nat.le_of_ble_eq_true rfl) ⟨Nat.le_of_ble_eq_true rfl, Nat.le_of_ble_eq_true rfl⟩) hS (fun _ h => h.elim) (fun u => .int u :: []) (fun _ => rfl) (fun u H9 locs hw hP9 hz9 hk9 hS => ?_)
            have e9 : H9 = _ := hP9
            rw [e9] at hS ⊢
            obtain ⟨r21, rfl⟩ : ∃ z, z = u := ⟨_, rfl⟩
            try dsimp only at hw
            refine lv_sipush (v := 1800) hx hb dX8_drift_133 (by decide) ?_
            refine lv_isub hx hb dX8_drift_136 ?_
            refine lv_istore (lv' := [(11, .int (r21 - 1800)), (10, .int v17), (9, .int r16), (8, .int r15), (7, .ref ((fd x3.toNatClampNeg) 0)), (6, .ref ((fd x3.toNatClampNeg) 0)), (5, .ref ((fd x3.toNatClampNeg) 0)), (4, .ref ((fd x2.toNatClampNeg) 0)), (0, .ref (ar 0)), (1, .int x1), (2, .int x2), (3, .int x3)]) hx hb dX8_drift_137 hl (by decide) rfl (fun ls hl => ?_)
            refine lv_iload hx hb dX8_drift_139 (lv_at hl 0 rfl) ?_
            refine lv_i2f hx hb dX8_drift_141 ?_
            refine lv_iload hx hb dX8_drift_142 (lv_at hl 1 rfl) ?_
            refine lv_i2f hx hb dX8_drift_144 ?_
            obtain ⟨o22, hw⟩ := hw
            refine lv_fdiv hx hb dX8_drift_145 o22 ?_
            refine W.widen (k := rm_X8_drift.cells) (n := rm_X8_drift.slots) (Nat.le_of_ble_eq_true rfl) (Nat.le_of_ble_eq_true rfl) ?_
            exact vx_ret (e_f X hr dX8_drift_146 hS ((FP.fdiv (FP.i2f (r21 - 1800)) (FP.i2f v17))) rfl hw rfl ⟨Nat.le_refl _, Nat.le_refl _⟩)
          · have hw := hw.2 c20
            exact g_throwW X hlf tk4 (text := "a frame does not have the name, or no turn is between") (by decide) hT hnt hA0 hS hl.1 dX8_drift_107 dX8_drift_110 dX8_drift_111 dX8_drift_114 dX8_drift_117 ⟨Nat.le_of_ble_eq_true rfl, Nat.le_of_ble_eq_true rfl, Nat.le_of_ble_eq_true rfl, Nat.le_of_ble_eq_true rfl, Nat.le_of_ble_eq_true rfl, Nat.le_of_ble_eq_true rfl⟩ hw
  · have hw := hw.2 c5
    refine lv_aload hx hb dX8_drift_31 (lv_at hl 1 rfl) ?_
    refine lv_goto (tgt := 38) hx hb dX8_drift_33 (by decide) ?_
    refine lv_astore (lv' := [(6, .ref ((fd x2.toNatClampNeg) 0)), (5, .ref ((fd x3.toNatClampNeg) 0)), (4, .ref ((fd x2.toNatClampNeg) 0)), (0, .ref (ar 0)), (1, .int x1), (2, .int x2), (3, .int x3)]) hx hb dX8_drift_38 hl (by decide) rfl (fun ls hl => ?_)
    refine lv_aload hx hb dX8_drift_40 (lv_at hl 2 rfl) ?_
    refine g_get X dX8_drift_42 f_X8_288 hBf1 0 (v := .int ((fw x2.toNatClampNeg) 0 0)) rfl rfl ?_
    refine lv_aload hx hb dX8_drift_45 (lv_at hl 1 rfl) ?_
    refine g_get X dX8_drift_47 f_X8_288 hBf2 0 (v := .int ((fw x3.toNatClampNeg) 0 0)) rfl rfl ?_
    refine lv_icmp_gt (tgt := 58) hx hb dX8_drift_50 (by decide) (fun c23 => ?_) (fun c23 => ?_)
    · have hw := hw.1 c23
      refine lv_aload hx hb dX8_drift_58 (lv_at hl 2 rfl) ?_
      refine lv_astore (lv' := [(7, .ref ((fd x2.toNatClampNeg) 0)), (6, .ref ((fd x2.toNatClampNeg) 0)), (5, .ref ((fd x3.toNatClampNeg) 0)), (4, .ref ((fd x2.toNatClampNeg) 0)), (0, .ref (ar 0)), (1, .int x1), (2, .int x2), (3, .int x3)]) hx hb dX8_drift_60 hl (by decide) rfl (fun ls hl => ?_)
      refine lv_aload hx hb dX8_drift_62 (lv_at hl 1 rfl) ?_
      refine lv_iload_n hx hb dX8_drift_64 rfl (lv_at hl 5 rfl) ?_
      refine g_after (st0 := .int x1 :: .ref ((fd x2.toNatClampNeg) 0) :: []) (rest := []) (g_V X m_X8_283 (c_X2_placeOf l D tc h0 sa x1 _ hBf1 hw) (hBf1.recv X 0 rfl (q := (RX2, TX2, 4)) rfl) hT hS hA0 dX8_drift_65 hl.1 rfl rfl ⟨Nat.le_of_ble_eq_true rfl, Nat.le_of_ble_eq_true rfl⟩ (Nat.le_of_ble_eq_true rfl) ⟨Nat.le_of_ble_eq_true rfl, Nat.le_of_ble_eq_true rfl⟩) hS (fun _ h => h.elim) (fun u => .int u :: []) (fun _ => rfl) (fun u H9 locs hw hP9 hz9 hk9 hS => ?_)
      have e9 : H9 = _ := hP9
      rw [e9] at hS ⊢
      obtain ⟨r24, rfl⟩ : ∃ z, z = u := ⟨_, rfl⟩
      try dsimp only at hw
      refine lv_istore (lv' := [(8, .int r24), (7, .ref ((fd x2.toNatClampNeg) 0)), (6, .ref ((fd x2.toNatClampNeg) 0)), (5, .ref ((fd x3.toNatClampNeg) 0)), (4, .ref ((fd x2.toNatClampNeg) 0)), (0, .ref (ar 0)), (1, .int x1), (2, .int x2), (3, .int x3)]) hx hb dX8_drift_68 hl (by decide) rfl (fun ls hl => ?_)
      refine lv_aload hx hb dX8_drift_70 (lv_at hl 1 rfl) ?_
      refine lv_iload_n hx hb dX8_drift_72 rfl (lv_at hl 6 rfl) ?_
      refine g_after (st0 := .int x1 :: .ref ((fd x2.toNatClampNeg) 0) :: []) (rest := []) (g_V X m_X8_283 (c_X2_placeOf l D tc h0 sa x1 _ hBf1 hw) (hBf1.recv X 0 rfl (q := (RX2, TX2, 4)) rfl) hT hS hA0 dX8_drift_73 hl.1 rfl rfl ⟨Nat.le_of_ble_eq_true rfl, Nat.le_of_ble_eq_true rfl⟩ (Nat.le_of_ble_eq_true rfl) ⟨Nat.le_of_ble_eq_true rfl, Nat.le_of_ble_eq_true rfl⟩) hS (fun _ h => h.elim) (fun u => .int u :: []) (fun _ => rfl) (fun u H9 locs hw hP9 hz9 hk9 hS => ?_)
      have e9 : H9 = _ := hP9
      rw [e9] at hS ⊢
      obtain ⟨r25, rfl⟩ : ∃ z, z = u := ⟨_, rfl⟩
      try dsimp only at hw
      refine lv_istore (lv' := [(9, .int r25), (8, .int r24), (7, .ref ((fd x2.toNatClampNeg) 0)), (6, .ref ((fd x2.toNatClampNeg) 0)), (5, .ref ((fd x3.toNatClampNeg) 0)), (4, .ref ((fd x2.toNatClampNeg) 0)), (0, .ref (ar 0)), (1, .int x1), (2, .int x2), (3, .int x3)]) hx hb dX8_drift_76 hl (by decide) rfl (fun ls hl => ?_)
      refine lv_aload hx hb dX8_drift_78 (lv_at hl 2 rfl) ?_
      refine g_get X dX8_drift_80 f_X8_288 hBf1 0 (v := .int ((fw x2.toNatClampNeg) 0 0)) rfl rfl ?_
      refine lv_aload hx hb dX8_drift_83 (lv_at hl 3 rfl) ?_
      refine g_get X dX8_drift_85 f_X8_288 hBf1 0 (v := .int ((fw x2.toNatClampNeg) 0 0)) rfl rfl ?_
      refine lv_isub hx hb dX8_drift_88 ?_
      refine lv_topi (fun v26 ev26 => ?_)
      have hw := hw v26 ev26
      refine lv_istore (lv' := [(10, .int v26), (9, .int r25), (8, .int r24), (7, .ref ((fd x2.toNatClampNeg) 0)), (6, .ref ((fd x2.toNatClampNeg) 0)), (5, .ref ((fd x3.toNatClampNeg) 0)), (4, .ref ((fd x2.toNatClampNeg) 0)), (0, .ref (ar 0)), (1, .int x1), (2, .int x2), (3, .int x3)]) hx hb dX8_drift_89 hl (by decide) rfl (fun ls hl => ?_)
      refine lv_iload hx hb dX8_drift_91 (lv_at hl 2 rfl) ?_
      refine lv_if_lt (tgt := 107) hx hb dX8_drift_93 (by decide) (fun c27 => ?_) (fun c27 => ?_)
      · have hw := hw.1 c27
        exact g_throwW X hlf tk4 (text := "a frame does not have the name, or no turn is between") (by decide) hT hnt hA0 hS hl.1 dX8_drift_107 dX8_drift_110 dX8_drift_111 dX8_drift_114 dX8_drift_117 ⟨Nat.le_of_ble_eq_true rfl, Nat.le_of_ble_eq_true rfl, Nat.le_of_ble_eq_true rfl, Nat.le_of_ble_eq_true rfl, Nat.le_of_ble_eq_true rfl, Nat.le_of_ble_eq_true rfl⟩ hw
      · have hw := hw.2 c27
        refine lv_iload hx hb dX8_drift_96 (lv_at hl 1 rfl) ?_
        refine lv_if_lt (tgt := 107) hx hb dX8_drift_98 (by decide) (fun c28 => ?_) (fun c28 => ?_)
        · have hw := hw.1 c28
          exact g_throwW X hlf tk4 (text := "a frame does not have the name, or no turn is between") (by decide) hT hnt hA0 hS hl.1 dX8_drift_107 dX8_drift_110 dX8_drift_111 dX8_drift_114 dX8_drift_117 ⟨Nat.le_of_ble_eq_true rfl, Nat.le_of_ble_eq_true rfl, Nat.le_of_ble_eq_true rfl, Nat.le_of_ble_eq_true rfl, Nat.le_of_ble_eq_true rfl, Nat.le_of_ble_eq_true rfl⟩ hw
        · have hw := hw.2 c28
          refine lv_iload hx hb dX8_drift_101 (lv_at hl 0 rfl) ?_
          refine lv_iconst (v := 1) hx hb dX8_drift_103 (by decide) ?_
          refine lv_icmp_ge (tgt := 118) hx hb dX8_drift_104 (by decide) (fun c29 => ?_) (fun c29 => ?_)
          · have hw := hw.1 c29
            refine lv_iload hx hb dX8_drift_118 (lv_at hl 1 rfl) ?_
            refine lv_iload hx hb dX8_drift_120 (lv_at hl 2 rfl) ?_
            refine lv_isub hx hb dX8_drift_122 ?_
            refine lv_sipush (v := 1800) hx hb dX8_drift_123 (by decide) ?_
            refine lv_iadd hx hb dX8_drift_126 ?_
            refine lv_sipush (v := 3600) hx hb dX8_drift_127 (by decide) ?_
            refine g_after (st0 := .int 3600 :: .int ((r25 - r24) + 1800) :: []) (rest := []) (g_S X m_X8_293 (c_J9_floorMod_7cf53 l D tc h0 sa ((r25 - r24) + 1800) 3600 _  hw) hT hS hA0 dX8_drift_130 hl.1 rfl rfl ⟨Nat.le_of_ble_eq_true rfl, Nat.le_of_ble_eq_true rfl⟩ (Nat.le_of_ble_eq_true rfl) ⟨Nat.le_of_ble_eq_true rfl, Nat.le_of_ble_eq_true rfl⟩) hS (fun _ h => h.elim) (fun u => .int u :: []) (fun _ => rfl) (fun u H9 locs hw hP9 hz9 hk9 hS => ?_)
            have e9 : H9 = _ := hP9
            rw [e9] at hS ⊢
            obtain ⟨r30, rfl⟩ : ∃ z, z = u := ⟨_, rfl⟩
            try dsimp only at hw
            refine lv_sipush (v := 1800) hx hb dX8_drift_133 (by decide) ?_
            refine lv_isub hx hb dX8_drift_136 ?_
            refine lv_istore (lv' := [(11, .int (r30 - 1800)), (10, .int v26), (9, .int r25), (8, .int r24), (7, .ref ((fd x2.toNatClampNeg) 0)), (6, .ref ((fd x2.toNatClampNeg) 0)), (5, .ref ((fd x3.toNatClampNeg) 0)), (4, .ref ((fd x2.toNatClampNeg) 0)), (0, .ref (ar 0)), (1, .int x1), (2, .int x2), (3, .int x3)]) hx hb dX8_drift_137 hl (by decide) rfl (fun ls hl => ?_)
            refine lv_iload hx hb dX8_drift_139 (lv_at hl 0 rfl) ?_
            refine lv_i2f hx hb dX8_drift_141 ?_
            refine lv_iload hx hb dX8_drift_142 (lv_at hl 1 rfl) ?_
            refine lv_i2f hx hb dX8_drift_144 ?_
            obtain ⟨o31, hw⟩ := hw
            refine lv_fdiv hx hb dX8_drift_145 o31 ?_
            refine W.widen (k := rm_X8_drift.cells) (n := rm_X8_drift.slots) (Nat.le_of_ble_eq_true rfl) (Nat.le_of_ble_eq_true rfl) ?_
            exact vx_ret (e_f X hr dX8_drift_146 hS ((FP.fdiv (FP.i2f (r30 - 1800)) (FP.i2f v26))) rfl hw rfl ⟨Nat.le_refl _, Nat.le_refl _⟩)
          · have hw := hw.2 c29
            exact g_throwW X hlf tk4 (text := "a frame does not have the name, or no turn is between") (by decide) hT hnt hA0 hS hl.1 dX8_drift_107 dX8_drift_110 dX8_drift_111 dX8_drift_114 dX8_drift_117 ⟨Nat.le_of_ble_eq_true rfl, Nat.le_of_ble_eq_true rfl, Nat.le_of_ble_eq_true rfl, Nat.le_of_ble_eq_true rfl, Nat.le_of_ble_eq_true rfl, Nat.le_of_ble_eq_true rfl⟩ hw
    · have hw := hw.2 c23
      refine lv_aload hx hb dX8_drift_53 (lv_at hl 1 rfl) ?_
      refine lv_goto (tgt := 60) hx hb dX8_drift_55 (by decide) ?_
      refine lv_astore (lv' := [(7, .ref ((fd x3.toNatClampNeg) 0)), (6, .ref ((fd x2.toNatClampNeg) 0)), (5, .ref ((fd x3.toNatClampNeg) 0)), (4, .ref ((fd x2.toNatClampNeg) 0)), (0, .ref (ar 0)), (1, .int x1), (2, .int x2), (3, .int x3)]) hx hb dX8_drift_60 hl (by decide) rfl (fun ls hl => ?_)
      refine lv_aload hx hb dX8_drift_62 (lv_at hl 1 rfl) ?_
      refine lv_iload_n hx hb dX8_drift_64 rfl (lv_at hl 5 rfl) ?_
      refine g_after (st0 := .int x1 :: .ref ((fd x2.toNatClampNeg) 0) :: []) (rest := []) (g_V X m_X8_283 (c_X2_placeOf l D tc h0 sa x1 _ hBf1 hw) (hBf1.recv X 0 rfl (q := (RX2, TX2, 4)) rfl) hT hS hA0 dX8_drift_65 hl.1 rfl rfl ⟨Nat.le_of_ble_eq_true rfl, Nat.le_of_ble_eq_true rfl⟩ (Nat.le_of_ble_eq_true rfl) ⟨Nat.le_of_ble_eq_true rfl, Nat.le_of_ble_eq_true rfl⟩) hS (fun _ h => h.elim) (fun u => .int u :: []) (fun _ => rfl) (fun u H9 locs hw hP9 hz9 hk9 hS => ?_)
      have e9 : H9 = _ := hP9
      rw [e9] at hS ⊢
      obtain ⟨r32, rfl⟩ : ∃ z, z = u := ⟨_, rfl⟩
      try dsimp only at hw
      refine lv_istore (lv' := [(8, .int r32), (7, .ref ((fd x3.toNatClampNeg) 0)), (6, .ref ((fd x2.toNatClampNeg) 0)), (5, .ref ((fd x3.toNatClampNeg) 0)), (4, .ref ((fd x2.toNatClampNeg) 0)), (0, .ref (ar 0)), (1, .int x1), (2, .int x2), (3, .int x3)]) hx hb dX8_drift_68 hl (by decide) rfl (fun ls hl => ?_)
      refine lv_aload hx hb dX8_drift_70 (lv_at hl 1 rfl) ?_
      refine lv_iload_n hx hb dX8_drift_72 rfl (lv_at hl 6 rfl) ?_
      refine g_after (st0 := .int x1 :: .ref ((fd x3.toNatClampNeg) 0) :: []) (rest := []) (g_V X m_X8_283 (c_X2_placeOf l D tc h0 sa x1 _ hBf2 hw) (hBf2.recv X 0 rfl (q := (RX2, TX2, 4)) rfl) hT hS hA0 dX8_drift_73 hl.1 rfl rfl ⟨Nat.le_of_ble_eq_true rfl, Nat.le_of_ble_eq_true rfl⟩ (Nat.le_of_ble_eq_true rfl) ⟨Nat.le_of_ble_eq_true rfl, Nat.le_of_ble_eq_true rfl⟩) hS (fun _ h => h.elim) (fun u => .int u :: []) (fun _ => rfl) (fun u H9 locs hw hP9 hz9 hk9 hS => ?_)
      have e9 : H9 = _ := hP9
      rw [e9] at hS ⊢
      obtain ⟨r33, rfl⟩ : ∃ z, z = u := ⟨_, rfl⟩
      try dsimp only at hw
      refine lv_istore (lv' := [(9, .int r33), (8, .int r32), (7, .ref ((fd x3.toNatClampNeg) 0)), (6, .ref ((fd x2.toNatClampNeg) 0)), (5, .ref ((fd x3.toNatClampNeg) 0)), (4, .ref ((fd x2.toNatClampNeg) 0)), (0, .ref (ar 0)), (1, .int x1), (2, .int x2), (3, .int x3)]) hx hb dX8_drift_76 hl (by decide) rfl (fun ls hl => ?_)
      refine lv_aload hx hb dX8_drift_78 (lv_at hl 2 rfl) ?_
      refine g_get X dX8_drift_80 f_X8_288 hBf2 0 (v := .int ((fw x3.toNatClampNeg) 0 0)) rfl rfl ?_
      refine lv_aload hx hb dX8_drift_83 (lv_at hl 3 rfl) ?_
      refine g_get X dX8_drift_85 f_X8_288 hBf1 0 (v := .int ((fw x2.toNatClampNeg) 0 0)) rfl rfl ?_
      refine lv_isub hx hb dX8_drift_88 ?_
      refine lv_topi (fun v34 ev34 => ?_)
      have hw := hw v34 ev34
      refine lv_istore (lv' := [(10, .int v34), (9, .int r33), (8, .int r32), (7, .ref ((fd x3.toNatClampNeg) 0)), (6, .ref ((fd x2.toNatClampNeg) 0)), (5, .ref ((fd x3.toNatClampNeg) 0)), (4, .ref ((fd x2.toNatClampNeg) 0)), (0, .ref (ar 0)), (1, .int x1), (2, .int x2), (3, .int x3)]) hx hb dX8_drift_89 hl (by decide) rfl (fun ls hl => ?_)
      refine lv_iload hx hb dX8_drift_91 (lv_at hl 2 rfl) ?_
      refine lv_if_lt (tgt := 107) hx hb dX8_drift_93 (by decide) (fun c35 => ?_) (fun c35 => ?_)
      · have hw := hw.1 c35
        exact g_throwW X hlf tk4 (text := "a frame does not have the name, or no turn is between") (by decide) hT hnt hA0 hS hl.1 dX8_drift_107 dX8_drift_110 dX8_drift_111 dX8_drift_114 dX8_drift_117 ⟨Nat.le_of_ble_eq_true rfl, Nat.le_of_ble_eq_true rfl, Nat.le_of_ble_eq_true rfl, Nat.le_of_ble_eq_true rfl, Nat.le_of_ble_eq_true rfl, Nat.le_of_ble_eq_true rfl⟩ hw
      · have hw := hw.2 c35
        refine lv_iload hx hb dX8_drift_96 (lv_at hl 1 rfl) ?_
        refine lv_if_lt (tgt := 107) hx hb dX8_drift_98 (by decide) (fun c36 => ?_) (fun c36 => ?_)
        · have hw := hw.1 c36
          exact g_throwW X hlf tk4 (text := "a frame does not have the name, or no turn is between") (by decide) hT hnt hA0 hS hl.1 dX8_drift_107 dX8_drift_110 dX8_drift_111 dX8_drift_114 dX8_drift_117 ⟨Nat.le_of_ble_eq_true rfl, Nat.le_of_ble_eq_true rfl, Nat.le_of_ble_eq_true rfl, Nat.le_of_ble_eq_true rfl, Nat.le_of_ble_eq_true rfl, Nat.le_of_ble_eq_true rfl⟩ hw
        · have hw := hw.2 c36
          refine lv_iload hx hb dX8_drift_101 (lv_at hl 0 rfl) ?_
          refine lv_iconst (v := 1) hx hb dX8_drift_103 (by decide) ?_
          refine lv_icmp_ge (tgt := 118) hx hb dX8_drift_104 (by decide) (fun c37 => ?_) (fun c37 => ?_)
          · have hw := hw.1 c37
            refine lv_iload hx hb dX8_drift_118 (lv_at hl 1 rfl) ?_
            refine lv_iload hx hb dX8_drift_120 (lv_at hl 2 rfl) ?_
            refine lv_isub hx hb dX8_drift_122 ?_
            refine lv_sipush (v := 1800) hx hb dX8_drift_123 (by decide) ?_
            refine lv_iadd hx hb dX8_drift_126 ?_
            refine lv_sipush (v := 3600) hx hb dX8_drift_127 (by decide) ?_
            refine g_after (st0 := .int 3600 :: .int ((r33 - r32) + 1800) :: []) (rest := []) (g_S X m_X8_293 (c_J9_floorMod_7cf53 l D tc h0 sa ((r33 - r32) + 1800) 3600 _  hw) hT hS hA0 dX8_drift_130 hl.1 rfl rfl ⟨Nat.le_of_ble_eq_true rfl, Nat.le_of_ble_eq_true rfl⟩ (Nat.le_of_ble_eq_true rfl) ⟨Nat.le_of_ble_eq_true rfl, Nat.le_of_ble_eq_true rfl⟩) hS (fun _ h => h.elim) (fun u => .int u :: []) (fun _ => rfl) (fun u H9 locs hw hP9 hz9 hk9 hS => ?_)
            have e9 : H9 = _ := hP9
            rw [e9] at hS ⊢
            obtain ⟨r38, rfl⟩ : ∃ z, z = u := ⟨_, rfl⟩
            try dsimp only at hw
            refine lv_sipush (v := 1800) hx hb dX8_drift_133 (by decide) ?_
            refine lv_isub hx hb dX8_drift_136 ?_
            refine lv_istore (lv' := [(11, .int (r38 - 1800)), (10, .int v34), (9, .int r33), (8, .int r32), (7, .ref ((fd x3.toNatClampNeg) 0)), (6, .ref ((fd x2.toNatClampNeg) 0)), (5, .ref ((fd x3.toNatClampNeg) 0)), (4, .ref ((fd x2.toNatClampNeg) 0)), (0, .ref (ar 0)), (1, .int x1), (2, .int x2), (3, .int x3)]) hx hb dX8_drift_137 hl (by decide) rfl (fun ls hl => ?_)
            refine lv_iload hx hb dX8_drift_139 (lv_at hl 0 rfl) ?_
            refine lv_i2f hx hb dX8_drift_141 ?_
            refine lv_iload hx hb dX8_drift_142 (lv_at hl 1 rfl) ?_
            refine lv_i2f hx hb dX8_drift_144 ?_
            obtain ⟨o39, hw⟩ := hw
            refine lv_fdiv hx hb dX8_drift_145 o39 ?_
            refine W.widen (k := rm_X8_drift.cells) (n := rm_X8_drift.slots) (Nat.le_of_ble_eq_true rfl) (Nat.le_of_ble_eq_true rfl) ?_
            exact vx_ret (e_f X hr dX8_drift_146 hS ((FP.fdiv (FP.i2f (r38 - 1800)) (FP.i2f v34))) rfl hw rfl ⟨Nat.le_refl _, Nat.le_refl _⟩)
          · have hw := hw.2 c37
            exact g_throwW X hlf tk4 (text := "a frame does not have the name, or no turn is between") (by decide) hT hnt hA0 hS hl.1 dX8_drift_107 dX8_drift_110 dX8_drift_111 dX8_drift_114 dX8_drift_117 ⟨Nat.le_of_ble_eq_true rfl, Nat.le_of_ble_eq_true rfl, Nat.le_of_ble_eq_true rfl, Nat.le_of_ble_eq_true rfl, Nat.le_of_ble_eq_true rfl, Nat.le_of_ble_eq_true rfl⟩ hw
abbrev rm_X8_tick : Room := { frames := 8, cells := 3, slots := 18, locals := 133 }
def wp_X8_tick (post : Int32 → Dt → Prop) (xpost : Nat → Prop) (r : Dt) (w : Dt) (np : Nat) (pw : Nat → Dt) (x1 : Int32) : Prop := wp_X8_probeAt (fun r1 => (((pw x1.toNatClampNeg) 0 6) = 0 → wp_X4_goOn (fun w4 => ((w4 0 6) = 0 → post (w4 0 4) w4) ∧ (¬ (w4 0 6) = 0 → post (-1) w4)) (pw x1.toNatClampNeg) w) ∧ (¬ ((pw x1.toNatClampNeg) 0 6) = 0 → xpost 3)) xpost r np pw x1
set_option maxHeartbeats 4000000 in
set_option maxRecDepth 100000 in
theorem c_X8_tick (l : Launch) (D : va_G) (tc : Nat → ClassId) (h0 : Nat) (sa : Nat → Nat) (x1 : Int32) (H0 : Heap) {ar : Nat → Nat} {Ar : Nat → Prop} {sp : Option Nat} {ns : Nat} {nf : Nat} {sd : Nat → Nat → Nat} {pd : Nat → Nat → Nat} {fd : Nat → Nat → Nat} {sums : Nat → Int64} {ad : Nat → Nat} {A : Nat → Prop} {Ap : Nat → Nat → Prop} {r : Dt} {w : Dt} {np : Nat} {pw : Nat → Dt} (hBr : Blk D tc Ar (shR (ad 0) sp ns np nf sd pd fd sums ar) ar r H0) (hBw : Blk D tc A (shW ad) ad w H0) (hBps : ∀ k : Nat, k < np → Blk D tc (Ap k) (shPr (pd k)) (pd k) (pw k) H0) (hDr : ∀ q, (Ap x1.toNatClampNeg) q → ¬ Ar q) (hDw : ∀ q, (Ap x1.toNatClampNeg) q → ¬ A q) (hA0 : ∀ q, (Ap x1.toNatClampNeg) q → h0 ≤ q) (hlf : l.stackTraces = false) {post : Int32 → Dt → Prop} {xpost : Nat → Prop} (hw : wp_X8_tick post xpost r w np pw x1) : MX l yX8_tick cX8_tick 3 (Option.some FieldType.int) rm_X8_tick (Ap x1.toNatClampNeg) [.ref (ar 0), .int x1] D tc h0 sa H0 (fun u : Int32 × Dt => post u.1 u.2) (fun (u : Int32 × Dt) (H1 : Heap) => Blk D tc (Ap x1.toNatClampNeg) (shPr (pd x1.toNatClampNeg)) (pd x1.toNatClampNeg) u.2 H1) (fun u : Int32 × Dt => some (.int u.1)) xpost := by
  refine MX.of RX8 [(0, .ref (ar 0)), (1, .int x1)] (by decide +kernel) rfl (Nat.le_of_ble_eq_true rfl) rfl ?_
  intro p e s m below meth c ls X hr hnt hT hH hS hl
  subst hH
  have hx := X.1
  have hb := X.2.1
  have hown := X.2.2.2.1
  have hU := X.2.2.2.2.1.1
  unfold wp_X8_tick at hw
  refine lv_aload_n hx hb dX8_tick_0 rfl (lv_at hl 0 rfl) ?_
  refine lv_iload_n hx hb dX8_tick_1 rfl (lv_at hl 1 rfl) ?_
  refine g_afterX (st0 := .int x1 :: .ref (ar 0) :: []) (rest := []) (g_VX X m_X8_234 (c_X8_probeAt l D tc h0 sa x1 _ hBr hBps hlf hw) (hBr.recv X 0 rfl (q := (RX8, TX8, 9)) rfl) hT hS hA0 dX8_tick_2 hl.1 rfl rfl ⟨Nat.le_of_ble_eq_true rfl, Nat.le_of_ble_eq_true rfl⟩ (Nat.le_of_ble_eq_true rfl) ⟨Nat.le_of_ble_eq_true rfl, Nat.le_of_ble_eq_true rfl⟩) hS (fun _ h => h.elim) (fun u => .ref (pd u 0) :: []) (fun _ => rfl) (fun k ce q9 H1 locs1 hx9 hz9 ho9 hS9 hce hcv hcl => ?_) (fun u H9 locs hw hP9 hz9 hk9 hS => ?_)
  · exact e_x X hnt ⟨hz9, ho9⟩ hce hcv hcl hx9 hS9 ⟨Nat.le_of_ble_eq_true rfl, Nat.le_of_ble_eq_true rfl⟩
  obtain ⟨e9, c9, rfl⟩ := hP9
  rw [e9] at hS ⊢
  have c2 : x1.toNatClampNeg < np := c9
  have hBp2 := hBps _ c2
  try dsimp only at hw
  refine lv_astore_n (lv' := [(2, .ref ((pd x1.toNatClampNeg) 0)), (0, .ref (ar 0)), (1, .int x1)]) hx hb dX8_tick_5 rfl hl (by decide) rfl (fun ls hl => ?_)
  refine lv_aload_n hx hb dX8_tick_6 rfl (lv_at hl 0 rfl) ?_
  refine g_get X dX8_tick_7 f_X8_238 hBp2 0 (v := .int ((pw x1.toNatClampNeg) 0 6)) rfl rfl ?_
  refine lv_if_eq (tgt := 23) hx hb dX8_tick_10 (by decide) (fun c3 => ?_) (fun c3 => ?_)
  · have hw := hw.1 c3
    refine lv_aload_n hx hb dX8_tick_23 rfl (lv_at hl 0 rfl) ?_
    refine lv_aload_n hx hb dX8_tick_24 rfl (lv_at hl 1 rfl) ?_
    refine g_get X dX8_tick_25 f_X8_12 hBr 0 (v := .ref (ad 0)) rfl rfl ?_
    refine g_get X dX8_tick_28 f_X8_44 hBw 0 (v := .ref (ad 1)) rfl rfl ?_
    refine g_after (st0 := .ref (ad 1) :: .ref ((pd x1.toNatClampNeg) 0) :: []) (rest := []) (g_V X m_X8_244 (c_X4_goOn l D tc h0 sa  _ hBp2 hBw hDw hA0 hw) (hBp2.recv X 0 rfl (q := (RX4, TX4, 15)) rfl) hT hS hA0 dX8_tick_31 hl.1 rfl rfl ⟨Nat.le_of_ble_eq_true rfl, Nat.le_of_ble_eq_true rfl⟩ (Nat.le_of_ble_eq_true rfl) ⟨Nat.le_of_ble_eq_true rfl, Nat.le_of_ble_eq_true rfl⟩) hS (fun _ h => h) (fun u => []) (fun _ => rfl) (fun u H9 locs hw hP9 hz9 hk9 hS => ?_)
    obtain ⟨w4, rfl⟩ : ∃ z, z = u := ⟨_, rfl⟩
    have hBp2 : Blk D tc (Ap x1.toNatClampNeg) (shPr (pd x1.toNatClampNeg)) (pd x1.toNatClampNeg) w4 H9 := hP9
    have hBr := hBr.kept (fun q hq hA9 => hk9 q hq (fun z => hDr q z hA9))
    have hBw := hBw.kept (fun q hq hA9 => hk9 q hq (fun z => hDw q z hA9))
    try dsimp only at hw
    refine lv_aload_n hx hb dX8_tick_34 rfl (lv_at hl 0 rfl) ?_
    refine g_get X dX8_tick_35 f_X8_238 hBp2 0 (v := .int (w4 0 6)) rfl rfl ?_
    refine lv_if_eq (tgt := 45) hx hb dX8_tick_38 (by decide) (fun c5 => ?_) (fun c5 => ?_)
    · have hw := hw.1 c5
      refine lv_aload_n hx hb dX8_tick_45 rfl (lv_at hl 0 rfl) ?_
      refine g_get X dX8_tick_46 f_X8_247 hBp2 0 (v := .int (w4 0 4)) rfl rfl ?_
      refine W.widen (k := rm_X8_tick.cells) (n := rm_X8_tick.slots) (Nat.le_of_ble_eq_true rfl) (Nat.le_of_ble_eq_true rfl) ?_
      exact vx_ret (e_i X hr dX8_tick_49 hS ((w4 0 4), w4) rfl hw hBp2 ⟨Nat.le_refl _, Nat.le_refl _⟩)
    · have hw := hw.2 c5
      refine lv_iconst (v := (-1)) hx hb dX8_tick_41 (by decide) ?_
      refine lv_goto (tgt := 49) hx hb dX8_tick_42 (by decide) ?_
      refine W.widen (k := rm_X8_tick.cells) (n := rm_X8_tick.slots) (Nat.le_of_ble_eq_true rfl) (Nat.le_of_ble_eq_true rfl) ?_
      exact vx_ret (e_i X hr dX8_tick_49 hS ((-1), w4) rfl hw hBp2 ⟨Nat.le_refl _, Nat.le_refl _⟩)
  · have hw := hw.2 c3
    exact g_throw X hlf tk3 (text := "the probe is dead") (by decide) hT hnt hA0 hS hl.1 dX8_tick_13 dX8_tick_16 dX8_tick_17 dX8_tick_19 dX8_tick_22 ⟨Nat.le_of_ble_eq_true rfl, Nat.le_of_ble_eq_true rfl, Nat.le_of_ble_eq_true rfl, Nat.le_of_ble_eq_true rfl, Nat.le_of_ble_eq_true rfl, Nat.le_of_ble_eq_true rfl⟩ hw
abbrev rm_X8_load : Room := { frames := 7, cells := 2, slots := 12, locals := 111 }
def wp_X8_load (post : Int64 → Dt → Prop) (xpost : Nat → Prop) (r : Dt) (w : Dt) (ns : Nat) (sw : Nat → Dt) (x1 : Int32) : Prop := wp_X8_checkIndex (fun _u => vp_in x1 3 ∧ ((x1.toNatClampNeg < ns → wp_X7_copyFrom (fun w3 => wp_X7_sumUp (fun r4 => post r4 w3) w3) w (sw x1.toNatClampNeg)) ∧ (¬ x1.toNatClampNeg < ns → xpost 0))) xpost x1 (if 3 < (r 0 3) then 3 else (r 0 3))
set_option maxHeartbeats 4000000 in
set_option maxRecDepth 100000 in
theorem c_X8_load (l : Launch) (D : va_G) (tc : Nat → ClassId) (h0 : Nat) (sa : Nat → Nat) (x1 : Int32) (H0 : Heap) {ar : Nat → Nat} {Ar : Nat → Prop} {sp : Option Nat} {np : Nat} {nf : Nat} {sd : Nat → Nat → Nat} {pd : Nat → Nat → Nat} {fd : Nat → Nat → Nat} {sums : Nat → Int64} {ad : Nat → Nat} {A : Nat → Prop} {As : Nat → Nat → Prop} {r : Dt} {w : Dt} {ns : Nat} {sw : Nat → Dt} (hBr : Blk D tc Ar (shR (ad 0) sp ns np nf sd pd fd sums ar) ar r H0) (hBw : Blk D tc A (shW ad) ad w H0) (hBss : ∀ k : Nat, k < ns → Blk D tc (As k) (shW (sd k)) (sd k) (sw k) H0) (hDr : ∀ q, A q → ¬ Ar q) (hDss : ∀ k : Nat, k < ns → ∀ q, A q → ¬ As k q) (hA0 : ∀ q, A q → h0 ≤ q) (hlf : l.stackTraces = false) {post : Int64 → Dt → Prop} {xpost : Nat → Prop} (hw : wp_X8_load post xpost r w ns sw x1) : MX l yX8_load cX8_load 3 (Option.some FieldType.long) rm_X8_load A [.ref (ar 0), .int x1] D tc h0 sa H0 (fun u : Int64 × Dt => post u.1 u.2) (fun (u : Int64 × Dt) (H1 : Heap) => Blk D tc A (shW ad) ad u.2 H1) (fun u : Int64 × Dt => some (.long u.1)) xpost := by
  refine MX.of RX8 [(0, .ref (ar 0)), (1, .int x1)] (by decide +kernel) rfl (Nat.le_of_ble_eq_true rfl) rfl ?_
  intro p e s m below meth c ls X hr hnt hT hH hS hl
  subst hH
  have hx := X.1
  have hb := X.2.1
  have hown := X.2.2.2.1
  have hU := X.2.2.2.2.1.1
  unfold wp_X8_load at hw
  refine lv_iload_n hx hb dX8_load_0 rfl (lv_at hl 1 rfl) ?_
  refine lv_aload_n hx hb dX8_load_1 rfl (lv_at hl 0 rfl) ?_
  refine g_get X dX8_load_2 f_X8_296 hBr 0 (v := .int (r 0 3)) rfl rfl ?_
  refine lv_iconst (v := 3) hx hb dX8_load_5 (by decide) ?_
  refine g_min X hl.1 dX8_load_6 w_675 w_607 w_21 w_608 ⟨Nat.le_of_ble_eq_true rfl, Nat.le_of_ble_eq_true rfl, Nat.le_of_ble_eq_true rfl, Nat.le_of_ble_eq_true rfl⟩ ?_
  refine g_afterX (st0 := .int (if 3 < (r 0 3) then 3 else (r 0 3)) :: .int x1 :: []) (rest := []) (g_SX X m_X8_36 (c_X8_checkIndex l D tc h0 sa x1 (if 3 < (r 0 3) then 3 else (r 0 3)) _ hlf hw) hT hS hA0 dX8_load_9 hl.1 rfl rfl ⟨Nat.le_of_ble_eq_true rfl, Nat.le_of_ble_eq_true rfl⟩ (Nat.le_of_ble_eq_true rfl) ⟨Nat.le_of_ble_eq_true rfl, Nat.le_of_ble_eq_true rfl⟩) hS (fun _ h => h.elim) (fun u => []) (fun _ => rfl) (fun k ce q9 H1 locs1 hx9 hz9 ho9 hS9 hce hcv hcl => ?_) (fun u H9 locs hw hP9 hz9 hk9 hS => ?_)
  · exact e_x X hnt ⟨hz9, ho9⟩ hce hcv hcl hx9 hS9 ⟨Nat.le_of_ble_eq_true rfl, Nat.le_of_ble_eq_true rfl⟩
  have e9 : H9 = _ := hP9
  rw [e9] at hS ⊢
  try dsimp only at hw
  refine lv_aload_n hx hb dX8_load_12 rfl (lv_at hl 0 rfl) ?_
  refine g_get X dX8_load_13 f_X8_16 hBr 0 (v := .ref (ar 1)) rfl rfl ?_
  refine lv_iload_n hx hb dX8_load_16 rfl (lv_at hl 1 rfl) ?_
  obtain ⟨o1, hw⟩ := hw
  by_cases c2 : x1.toNatClampNeg < ns
  · have hw := hw.1 c2
    refine g_aaldQ X dX8_load_17 hBr 1 rfl rfl o1 (v := .ref (sd x1.toNatClampNeg 0)) (by rw [if_pos c2]; rfl) ?_
    have hBs2 := hBss _ c2
    have hDs2 := hDss _ c2
    refine lv_astore_n (lv' := [(2, .ref ((sd x1.toNatClampNeg) 0)), (0, .ref (ar 0)), (1, .int x1)]) hx hb dX8_load_18 rfl hl (by decide) rfl (fun ls hl => ?_)
    refine lv_aload_n hx hb dX8_load_19 rfl (lv_at hl 0 rfl) ?_
    refine lv_ifnonnull (tgt := 34) hx hb dX8_load_20 (by decide) ?_
    refine lv_aload_n hx hb dX8_load_34 rfl (lv_at hl 1 rfl) ?_
    refine g_get X dX8_load_35 f_X8_12 hBr 0 (v := .ref (ad 0)) rfl rfl ?_
    refine lv_aload_n hx hb dX8_load_38 rfl (lv_at hl 0 rfl) ?_
    refine g_after (st0 := .ref ((sd x1.toNatClampNeg) 0) :: .ref (ad 0) :: []) (rest := []) (g_V X m_X8_299 (c_X7_copyFrom l D tc h0 sa  _ hBw hBs2 hDs2 hA0 hw) (hBw.recv X 0 rfl (q := (RX7, TX7, 6)) rfl) hT hS hA0 dX8_load_39 hl.1 rfl rfl ⟨Nat.le_of_ble_eq_true rfl, Nat.le_of_ble_eq_true rfl⟩ (Nat.le_of_ble_eq_true rfl) ⟨Nat.le_of_ble_eq_true rfl, Nat.le_of_ble_eq_true rfl⟩) hS (fun _ h => h) (fun u => []) (fun _ => rfl) (fun u H9 locs hw hP9 hz9 hk9 hS => ?_)
    obtain ⟨w3, rfl⟩ : ∃ z, z = u := ⟨_, rfl⟩
    have hBw : Blk D tc A (shW ad) ad w3 H9 := hP9
    have hBr := hBr.kept (fun q hq hA9 => hk9 q hq (fun z => hDr q z hA9))
    have hBs2 := hBs2.kept (fun q hq hA9 => hk9 q hq (fun z => hDs2 q z hA9))
    have hBss := fun k hk => (hBss k hk).kept (fun q hq hA9 => hk9 q hq (fun z => hDss k hk q z hA9))
    try dsimp only at hw
    refine lv_aload_n hx hb dX8_load_42 rfl (lv_at hl 1 rfl) ?_
    refine g_get X dX8_load_43 f_X8_12 hBr 0 (v := .ref (ad 0)) rfl rfl ?_
    refine g_after (st0 := .ref (ad 0) :: []) (rest := []) (g_V X m_X8_303 (c_X7_sumUp l D tc h0 sa  _ hBw hw) (hBw.recv X 0 rfl (q := (RX7, TX7, 6)) rfl) hT hS hA0 dX8_load_46 hl.1 rfl rfl ⟨Nat.le_of_ble_eq_true rfl, Nat.le_of_ble_eq_true rfl⟩ (Nat.le_of_ble_eq_true rfl) ⟨Nat.le_of_ble_eq_true rfl, Nat.le_of_ble_eq_true rfl⟩) hS (fun _ h => h.elim) (fun u => .long u :: []) (fun _ => rfl) (fun u H9 locs hw hP9 hz9 hk9 hS => ?_)
    have e9 : H9 = _ := hP9
    rw [e9] at hS ⊢
    obtain ⟨r4, rfl⟩ : ∃ z, z = u := ⟨_, rfl⟩
    try dsimp only at hw
    refine W.widen (k := rm_X8_load.cells) (n := rm_X8_load.slots) (Nat.le_of_ble_eq_true rfl) (Nat.le_of_ble_eq_true rfl) ?_
    exact vx_ret (e_l X hr dX8_load_49 hS (r4, w3) rfl hw hBw ⟨Nat.le_refl _, Nat.le_refl _⟩)
  · have hw := hw.2 c2
    refine g_aaldQ X dX8_load_17 hBr 1 rfl rfl o1 (v := .null) (by rw [if_neg c2]; rfl) ?_
    refine lv_astore_nN (lv' := [(2, .null), (0, .ref (ar 0)), (1, .int x1)]) hx hb dX8_load_18 rfl hl (by decide) rfl (fun ls hl => ?_)
    refine lv_aload_nN hx hb dX8_load_19 rfl (lv_at hl 0 rfl) ?_
    refine lv_ifnonnullN hx hb dX8_load_20 ?_
    exact g_throwW X hlf tk0 (text := "there is no such save") (by decide) hT hnt hA0 hS hl.1 dX8_load_23 dX8_load_26 dX8_load_27 dX8_load_30 dX8_load_33 ⟨Nat.le_of_ble_eq_true rfl, Nat.le_of_ble_eq_true rfl, Nat.le_of_ble_eq_true rfl, Nat.le_of_ble_eq_true rfl, Nat.le_of_ble_eq_true rfl, Nat.le_of_ble_eq_true rfl⟩ hw
