/-! THE CLASS: probes dropped, frames, saves -/
def wp_X8_dropProbe (post : Prop) (xpost : Nat → Prop) (r : Dt) (np : Nat) (x1 x2 x3 x4 : Int32) : Prop := wp_X8_checkRange (fun _ => wp_X8_checkRange (fun _ => wp_X8_checkRange (fun _ => wp_X8_checkRoom (fun _ => r 0 6 = nI np ∧ np < 4 ∧ narrow .boolean (.int x4) = .int x4 ∧ fits .boolean (.int x4) = true ∧ post) xpost (r 0 6) 4) xpost x3 1 3) xpost x2 1 60) xpost x1 1 9
abbrev rm_X8_dropProbe : Room := { frames := 7, cells := 10, slots := 121, locals := 112 }
set_option maxHeartbeats 4000000 in
theorem c_X8_dropProbe (l : Launch) (D : va_G) (tc : Nat → ClassId) (h0 : Nat) (sa : Nat → Nat) (H0 : Heap) (x1 x2 x3 x4 : Int32) {wa : Nat} {sp : Option Nat} {ns np nf : Nat} {sd pd fd : Nat → Nat → Nat} {sums : Nat → Int64} {ar : Nat → Nat} {Ar : Nat → Prop} {r : Dt} (hBr : Blk D tc Ar (shR wa sp ns np nf sd pd fd sums ar) ar r H0) (hA0 : ∀ q, (Ar q ∨ H0.size ≤ q) → h0 ≤ q) (hlf : l.stackTraces = false) {post : Prop} {xpost : Nat → Prop} (hw : wp_X8_dropProbe post xpost r np x1 x2 x3 x4) : MX (S := (Nat → Nat)) l yX8_dropProbe cX8_dropProbe 6 (Option.some FieldType.int) rm_X8_dropProbe (fun x : Nat => Ar x ∨ H0.size ≤ x) [.ref (ar 0), .int x1, .int x2, .int x3, .int x4] D tc h0 sa H0 (fun _ => post) (fun ad H1 => Blk D tc Ar (shR wa sp ns (np + 1) nf sd (va_up pd np ad) fd sums ar) ar (up2 r 0 6 (r 0 6 + 1)) H1 ∧ Blk D tc (fun x => H0.size ≤ x) (shPr ad) ad (prW x1 x2 x3 x4) H1) (fun _ => some (.int (r 0 6))) xpost := by
  refine MX.of RX8 [(0, .ref (ar 0)), (1, .int x1), (2, .int x2), (3, .int x3), (4, .int x4)] (by decide +kernel) rfl (Nat.le_of_ble_eq_true rfl) rfl ?_
  intro p e s m below meth c ls X hr hnt hT hH hS hl
  subst hH
  have hx := X.1
  have hb := X.2.1
  have hown := X.2.2.2.1
  have hU := X.2.2.2.2.1.1
  unfold wp_X8_dropProbe at hw
  have hBr := hBr.mono (B := fun x => Ar x ∧ x < s.heap.size) (fun i c hc hA => ⟨hA, hBr.lt hc⟩)
  have hS0 : s.heap.size ≤ s.heap.size := Nat.le_refl _
  refine lv_iload_n hx hb dX8_dropProbe_0 rfl (lv_at hl 1 rfl) ?_
  refine lv_iconst (v := 1) hx hb dX8_dropProbe_1 (by decide) ?_
  refine lv_bipush (v := 9) hx hb dX8_dropProbe_2 (by decide) ?_
  refine g_afterX (st0 := [.int 9, .int 1, .int x1]) (rest := []) (g_SX X m_X8_40 (c_X8_checkRange l D tc h0 sa x1 1 9 _ hlf hw) hT hS hA0 dX8_dropProbe_4 hl.1 rfl rfl ⟨Nat.le_of_ble_eq_true rfl, Nat.le_of_ble_eq_true rfl⟩ (Nat.le_of_ble_eq_true rfl) ⟨Nat.le_of_ble_eq_true rfl, Nat.le_of_ble_eq_true rfl⟩) hS (fun _ h => h.elim) (fun u => []) (fun _ => rfl) (fun k ce q9 H1 locs1 hx9 hz9 ho9 hS9 hce hcv hcl => ?_) (fun u H9 locs hw hP9 hz9 hk9 hS => ?_)
  · exact e_x X hnt ⟨hz9, ho9⟩ hce hcv hcl hx9 hS9 ⟨Nat.le_of_ble_eq_true rfl, Nat.le_of_ble_eq_true rfl⟩
  have e9 : H9 = _ := hP9
  rw [e9] at hS ⊢
  refine lv_iload_n hx hb dX8_dropProbe_7 rfl (lv_at hl 2 rfl) ?_
  refine lv_iconst (v := 1) hx hb dX8_dropProbe_8 (by decide) ?_
  refine lv_bipush (v := 60) hx hb dX8_dropProbe_9 (by decide) ?_
  refine g_afterX (st0 := [.int 60, .int 1, .int x2]) (rest := []) (g_SX X m_X8_40 (c_X8_checkRange l D tc h0 sa x2 1 60 _ hlf hw) hT hS hA0 dX8_dropProbe_11 hl.1 rfl rfl ⟨Nat.le_of_ble_eq_true rfl, Nat.le_of_ble_eq_true rfl⟩ (Nat.le_of_ble_eq_true rfl) ⟨Nat.le_of_ble_eq_true rfl, Nat.le_of_ble_eq_true rfl⟩) hS (fun _ h => h.elim) (fun u => []) (fun _ => rfl) (fun k ce q9 H1 locs1 hx9 hz9 ho9 hS9 hce hcv hcl => ?_) (fun u H9 locs hw hP9 hz9 hk9 hS => ?_)
  · exact e_x X hnt ⟨hz9, ho9⟩ hce hcv hcl hx9 hS9 ⟨Nat.le_of_ble_eq_true rfl, Nat.le_of_ble_eq_true rfl⟩
  have e9 : H9 = _ := hP9
  rw [e9] at hS ⊢
  refine lv_iload_n hx hb dX8_dropProbe_14 rfl (lv_at hl 3 rfl) ?_
  refine lv_iconst (v := 1) hx hb dX8_dropProbe_15 (by decide) ?_
  refine lv_iconst (v := 3) hx hb dX8_dropProbe_16 (by decide) ?_
  refine g_afterX (st0 := [.int 3, .int 1, .int x3]) (rest := []) (g_SX X m_X8_40 (c_X8_checkRange l D tc h0 sa x3 1 3 _ hlf hw) hT hS hA0 dX8_dropProbe_17 hl.1 rfl rfl ⟨Nat.le_of_ble_eq_true rfl, Nat.le_of_ble_eq_true rfl⟩ (Nat.le_of_ble_eq_true rfl) ⟨Nat.le_of_ble_eq_true rfl, Nat.le_of_ble_eq_true rfl⟩) hS (fun _ h => h.elim) (fun u => []) (fun _ => rfl) (fun k ce q9 H1 locs1 hx9 hz9 ho9 hS9 hce hcv hcl => ?_) (fun u H9 locs hw hP9 hz9 hk9 hS => ?_)
  · exact e_x X hnt ⟨hz9, ho9⟩ hce hcv hcl hx9 hS9 ⟨Nat.le_of_ble_eq_true rfl, Nat.le_of_ble_eq_true rfl⟩
  have e9 : H9 = _ := hP9
  rw [e9] at hS ⊢
  refine lv_aload_n hx hb dX8_dropProbe_20 rfl (lv_at hl 0 rfl) ?_
  refine g_get X dX8_dropProbe_21 f_X8_228 hBr 0 (v := .int (r 0 6)) rfl rfl ?_
  refine lv_iconst (v := 4) hx hb dX8_dropProbe_24 (by decide) ?_
  refine g_afterX (st0 := [.int 4, .int (r 0 6)]) (rest := []) (g_SX X m_X8_135 (c_X8_checkRoom l D tc h0 sa (r 0 6) 4 _ hlf hw) hT hS hA0 dX8_dropProbe_25 hl.1 rfl rfl ⟨Nat.le_of_ble_eq_true rfl, Nat.le_of_ble_eq_true rfl⟩ (Nat.le_of_ble_eq_true rfl) ⟨Nat.le_of_ble_eq_true rfl, Nat.le_of_ble_eq_true rfl⟩) hS (fun _ h => h.elim) (fun u => []) (fun _ => rfl) (fun k ce q9 H1 locs1 hx9 hz9 ho9 hS9 hce hcv hcl => ?_) (fun u H9 locs hw hP9 hz9 hk9 hS => ?_)
  · exact e_x X hnt ⟨hz9, ho9⟩ hce hcv hcl hx9 hS9 ⟨Nat.le_of_ble_eq_true rfl, Nat.le_of_ble_eq_true rfl⟩
  have e9 : H9 = _ := hP9
  rw [e9] at hS ⊢
  obtain ⟨hnp, hn4, hzn, hzf, hw⟩ := hw
  refine lv_aload_n hx hb dX8_dropProbe_28 rfl (lv_at hl 0 rfl) ?_
  refine g_get X dX8_dropProbe_29 f_X8_228 hBr 0 (v := .int (r 0 6)) rfl rfl ?_
  refine lv_istore (lv' := [(5, .int (r 0 6)), (0, .ref (ar 0)), (1, .int x1), (2, .int x2), (3, .int x3), (4, .int x4)]) hx hb dX8_dropProbe_32 hl (by decide) rfl (fun ls hl => ?_)
  refine lv_aload_n hx hb dX8_dropProbe_34 rfl (lv_at hl 1 rfl) ?_
  refine g_get X dX8_dropProbe_35 f_X8_26 hBr 0 (v := .ref (ar 3)) rfl rfl ?_
  refine lv_iload hx hb dX8_dropProbe_38 (lv_at hl 0 rfl) ?_
  refine x_new (A := (fun x : Nat => Ar x ∨ s.heap.size ≤ x)) X nw_X8_24 (fs := [.int 0, .int 0, .int 0, .int 0, .int 0, .int 0, .int 0, .null, .null, .null, .null, .int 0, .null, .int 0, .int 0]) (fun j hj => by rcases (show j = 0 ∨ j = 1 ∨ j = 2 ∨ j = 3 ∨ j = 4 ∨ j = 5 ∨ j = 6 ∨ j = 7 ∨ j = 8 ∨ j = 9 ∨ j = 10 ∨ j = 11 ∨ j = 12 ∨ j = 13 ∨ j = 14 by omega) with e | e | e | e | e | e | e | e | e | e | e | e | e | e | e <;> subst e <;> rfl) hS (fun x h => Or.inr h) ⟨Nat.le_of_ble_eq_true rfl, Nat.le_of_ble_eq_true rfl⟩ dX8_dropProbe_40 (fun q H hq hat hAq hz9 hqz o1 hS => ?_)
  have hBr := hBr.kept (fun x h1 _ => o1 x h1)
  refine lv_dup hx hb dX8_dropProbe_43 rfl ?_
  refine lv_iload_n hx hb dX8_dropProbe_44 rfl (lv_at hl 2 rfl) ?_
  refine lv_iload_n hx hb dX8_dropProbe_45 rfl (lv_at hl 3 rfl) ?_
  refine lv_iload_n hx hb dX8_dropProbe_46 rfl (lv_at hl 4 rfl) ?_
  refine lv_iload hx hb dX8_dropProbe_47 (lv_at hl 5 rfl) ?_
  obtain ⟨zz, hzz⟩ : ∃ z : Nat, z = H.size := ⟨_, rfl⟩
  refine g_after (st0 := [.int x4, .int x3, .int x2, .int x1, .ref q, .ref q, .int (r 0 6), .ref (ar 3)]) (rest := [.ref q, .int (r 0 6), .ref (ar 3)]) (g_I X m_X8_231 (c_k4 l D tc h0 sa _ q x1 x2 x3 x4 hzn hzf hat (hA0 _ hAq) (fun x h => hA0 x (Or.inr (by omega)))) hT hS hA0 dX8_dropProbe_49 hl.1 rfl rfl ⟨Nat.le_of_ble_eq_true rfl, Nat.le_of_ble_eq_true rfl⟩ (Nat.le_of_ble_eq_true rfl) ⟨Nat.le_of_ble_eq_true rfl, Nat.le_of_ble_eq_true rfl⟩) hS (fun x h => h.elim (fun e => e ▸ hAq) (fun h => Or.inr (by omega))) (fun u => [.ref q, .int (r 0 6), .ref (ar 3)]) (fun _ => rfl) (fun u H9 locs hu hP9 hz9 hk9 hS => ?_)
  obtain ⟨ad, had0, hBp⟩ := mkPr hP9
  have hBr := hBr.kept (fun x h1 h2 => hk9 x h1 (fun e => by have := h2.2; omega))
  have har3 := (hBr.in (i := 3) rfl).2
  refine x_astC (k9 := 7) X dX8_dropProbe_52 rfl (hBr.1 3 _ rfl).1 (Or.inl (hBr.in (i := 3) rfl).1) hS (ci := 8) rfl (by have h9 := (hBp.1 0 _ rfl).1; rw [had0] at h9; exact h9) (show vp_in (r 0 6) 4 by rw [hnp]; exact fun z => z.elim (nI_nn (by omega)) (fun z => by rw [nI_cl (by omega)] at z; omega)) (fun H locs hat3 oq hz hS => ?_)
  rw [hnp, nI_cl (by omega), rt_up had0] at hat3
  have hBr := hBr.put (sh' := shR wa sp ns (np + 1) nf sd (va_up pd np ad) fd sums ar) (w' := r) 3 rfl rfl hat3 oq (fun j hj => by
    match j, hj with
    | 0, _ => rfl
    | 1, _ => rfl
    | 2, _ => rfl
    | 3, hj => exact absurd rfl hj
    | 4, _ => rfl
    | _ + 5, _ => rfl) (fun _ _ => rfl)
  have hBp := hBp.kept1 oq (fun h => by omega)
  refine lv_aload_n hx hb dX8_dropProbe_53 rfl (lv_at hl 1 rfl) ?_
  refine lv_dup hx hb dX8_dropProbe_54 rfl ?_
  refine g_get X dX8_dropProbe_55 f_X8_228 hBr 0 (v := .int (r 0 6)) rfl rfl ?_
  refine lv_iconst (v := 1) hx hb dX8_dropProbe_58 (by decide) ?_
  refine lv_iadd hx hb dX8_dropProbe_59 ?_
  refine g_puti X dX8_dropProbe_60 f_X8_228 (hBr.mono (B := (fun x : Nat => Ar x ∨ s.heap.size ≤ x)) (fun _ _ _ h => Or.inl h.1)) hS 0 rfl (x := (r 0 6 + 1)) rfl rfl rfl (fun H locs hb9 oq hS => ?_)
  have har0 := (hBr.in (i := 0) rfl).2
  have hBr := hBr.put 0 rfl rfl (hb9.1 0 _ rfl).1 oq (fun _ _ => rfl) (fun j hj => up2_ne hj)
  have hBp := hBp.kept1 oq (fun h => by omega)
  refine lv_iload hx hb dX8_dropProbe_63 (lv_at hl 0 rfl) ?_
  exact vx_ret (e_i X hr dX8_dropProbe_65 hS ad rfl hw ⟨hBr.mono (fun _ _ _ h => h.1), hBp.mono (fun _ _ _ h => Nat.le_trans hq h)⟩ ⟨Nat.le_of_ble_eq_true rfl, Nat.le_of_ble_eq_true rfl⟩)
def wp_X8_frame (post : Dt → Prop) (xpost : Nat → Prop) (r w : Dt) (nf : Nat) (x1 : Int32) : Prop := wp_X8_checkLongitude (fun _ => wp_X8_checkRoom (fun _ => r 0 8 = nI nf ∧ nf < 6 ∧ wp_X2_see post (frW (w 0 5)) w x1) xpost (r 0 8) 6) xpost x1
abbrev rm_X8_frame : Room := { frames := 8, cells := 5, slots := 40, locals := 132 }
set_option maxHeartbeats 4000000 in
theorem c_X8_frame (l : Launch) (D : va_G) (tc : Nat → ClassId) (h0 : Nat) (sa : Nat → Nat) (H0 : Heap) (x1 : Int32) {ad : Nat → Nat} {A : Nat → Prop} {w : Dt} (hBw : Blk D tc A (shW ad) ad w H0) {sp : Option Nat} {ns np nf : Nat} {sd pd fd : Nat → Nat → Nat} {sums : Nat → Int64} {ar : Nat → Nat} {Ar : Nat → Prop} {r : Dt} (hBr : Blk D tc Ar (shR (ad 0) sp ns np nf sd pd fd sums ar) ar r H0) (hA0 : ∀ q, (Ar q ∨ H0.size ≤ q) → h0 ≤ q) (hlf : l.stackTraces = false) {post : Dt → Prop} {xpost : Nat → Prop} (hw : wp_X8_frame post xpost r w nf x1) : MX (S := ((Nat → Nat) × Dt)) l yX8_frame cX8_frame 4 (Option.some FieldType.int) rm_X8_frame (fun x : Nat => Ar x ∨ H0.size ≤ x) [.ref (ar 0), .int x1] D tc h0 sa H0 (fun u => post u.2) (fun u H1 => Blk D tc Ar (shR (ad 0) sp ns np (nf + 1) sd pd (va_up fd nf u.1) sums ar) ar (up2 r 0 8 (r 0 8 + 1)) H1 ∧ Blk D tc (fun x => H0.size ≤ x) (shFr u.1) u.1 u.2 H1) (fun _ => some (.int (r 0 8))) xpost := by
  refine MX.of RX8 [(0, .ref (ar 0)), (1, .int x1)] (by decide +kernel) rfl (Nat.le_of_ble_eq_true rfl) rfl ?_
  intro p e s m below meth c ls X hr hnt hT hH hS hl
  subst hH
  have hx := X.1
  have hb := X.2.1
  have hown := X.2.2.2.1
  have hU := X.2.2.2.2.1.1
  unfold wp_X8_frame at hw
  have hBr := hBr.mono (B := fun x => Ar x ∧ x < s.heap.size) (fun i c hc hA => ⟨hA, hBr.lt hc⟩)
  have hS0 : s.heap.size ≤ s.heap.size := Nat.le_refl _
  have hBw := hBw.mono (B := fun x => A x ∧ x < s.heap.size) (fun i c hc hA => ⟨hA, hBw.lt hc⟩)
  refine lv_iload_n hx hb dX8_frame_0 rfl (lv_at hl 1 rfl) ?_
  refine g_afterX (st0 := [.int x1]) (rest := []) (g_SX X m_X8_122 (c_X8_checkLongitude l D tc h0 sa x1 _ hlf hw) hT hS hA0 dX8_frame_1 hl.1 rfl rfl ⟨Nat.le_of_ble_eq_true rfl, Nat.le_of_ble_eq_true rfl⟩ (Nat.le_of_ble_eq_true rfl) ⟨Nat.le_of_ble_eq_true rfl, Nat.le_of_ble_eq_true rfl⟩) hS (fun _ h => h.elim) (fun u => []) (fun _ => rfl) (fun k ce q9 H1 locs1 hx9 hz9 ho9 hS9 hce hcv hcl => ?_) (fun u H9 locs hw hP9 hz9 hk9 hS => ?_)
  · exact e_x X hnt ⟨hz9, ho9⟩ hce hcv hcl hx9 hS9 ⟨Nat.le_of_ble_eq_true rfl, Nat.le_of_ble_eq_true rfl⟩
  have e9 : H9 = _ := hP9
  rw [e9] at hS ⊢
  refine lv_aload_n hx hb dX8_frame_4 rfl (lv_at hl 0 rfl) ?_
  refine g_get X dX8_frame_5 f_X8_269 hBr 0 (v := .int (r 0 8)) rfl rfl ?_
  refine lv_bipush (v := 6) hx hb dX8_frame_8 (by decide) ?_
  refine g_afterX (st0 := [.int 6, .int (r 0 8)]) (rest := []) (g_SX X m_X8_135 (c_X8_checkRoom l D tc h0 sa (r 0 8) 6 _ hlf hw) hT hS hA0 dX8_frame_10 hl.1 rfl rfl ⟨Nat.le_of_ble_eq_true rfl, Nat.le_of_ble_eq_true rfl⟩ (Nat.le_of_ble_eq_true rfl) ⟨Nat.le_of_ble_eq_true rfl, Nat.le_of_ble_eq_true rfl⟩) hS (fun _ h => h.elim) (fun u => []) (fun _ => rfl) (fun k ce q9 H1 locs1 hx9 hz9 ho9 hS9 hce hcv hcl => ?_) (fun u H9 locs hw hP9 hz9 hk9 hS => ?_)
  · exact e_x X hnt ⟨hz9, ho9⟩ hce hcv hcl hx9 hS9 ⟨Nat.le_of_ble_eq_true rfl, Nat.le_of_ble_eq_true rfl⟩
  have e9 : H9 = _ := hP9
  rw [e9] at hS ⊢
  obtain ⟨hnf, hn6, hw⟩ := hw
  refine lv_aload_n hx hb dX8_frame_13 rfl (lv_at hl 0 rfl) ?_
  refine g_get X dX8_frame_14 f_X8_269 hBr 0 (v := .int (r 0 8)) rfl rfl ?_
  refine lv_istore_n (lv' := [(2, .int (r 0 8)), (0, .ref (ar 0)), (1, .int x1)]) hx hb dX8_frame_17 rfl hl (by decide) rfl (fun ls hl => ?_)
  refine x_new (A := (fun x : Nat => Ar x ∨ s.heap.size ≤ x)) X nw_X8_30 (fs := [.int 0, .int 0, .null, .null]) (fun j hj => by rcases (show j = 0 ∨ j = 1 ∨ j = 2 ∨ j = 3 by omega) with e | e | e | e <;> subst e <;> rfl) hS (fun x h => Or.inr h) ⟨Nat.le_of_ble_eq_true rfl, Nat.le_of_ble_eq_true rfl⟩ dX8_frame_18 (fun q H hq hat hAq hz9 hqz o1 hS => ?_)
  have hBr := hBr.kept (fun x h1 _ => o1 x h1)
  have hBw := hBw.kept (fun x h1 _ => o1 x h1)
  refine lv_dup hx hb dX8_frame_21 rfl ?_
  refine lv_aload_n hx hb dX8_frame_22 rfl (lv_at hl 1 rfl) ?_
  refine g_get X dX8_frame_23 f_X8_12 hBr 0 (v := .ref (ad 0)) rfl rfl ?_
  refine g_get X dX8_frame_26 f_X8_225 hBw 0 (v := .int (w 0 5)) rfl rfl ?_
  refine g_after (st0 := [.int (w 0 5), .ref q, .ref q]) (rest := [.ref q]) (g_I X m_X8_272 (c_k2 l D tc h0 sa _ q (w 0 5) hat (hA0 _ hAq) (fun x h => hA0 x (Or.inr (by omega)))) hT hS hA0 dX8_frame_29 hl.1 rfl rfl ⟨Nat.le_of_ble_eq_true rfl, Nat.le_of_ble_eq_true rfl⟩ (Nat.le_of_ble_eq_true rfl) ⟨Nat.le_of_ble_eq_true rfl, Nat.le_of_ble_eq_true rfl⟩) hS (fun x h => h.elim (fun e => e ▸ hAq) (fun h => Or.inr (by omega))) (fun u => [.ref q]) (fun _ => rfl) (fun u H9 locs hu hP9 hz9 hk9 hS => ?_)
  obtain ⟨bd, hbd0, hBf⟩ := mkFr hP9
  have hBr := hBr.kept (fun x h1 h2 => hk9 x h1 (fun e => by have := h2.2; omega))
  have hBw := hBw.kept (fun x h1 h2 => hk9 x h1 (fun e => by have := h2.2; omega))
  refine lv_astore_n (lv' := [(3, .ref q), (2, .int (r 0 8)), (0, .ref (ar 0)), (1, .int x1)]) hx hb dX8_frame_32 rfl hl (by decide) rfl (fun ls hl => ?_)
  refine lv_aload_n hx hb dX8_frame_33 rfl (lv_at hl 0 rfl) ?_
  refine lv_aload_n hx hb dX8_frame_34 rfl (lv_at hl 2 rfl) ?_
  refine g_get X dX8_frame_35 f_X8_12 hBr 0 (v := .ref (ad 0)) rfl rfl ?_
  refine g_get X dX8_frame_38 f_X8_126 hBw 0 (v := .ref (ad 7)) rfl rfl ?_
  refine lv_iload_n hx hb dX8_frame_41 rfl (lv_at hl 3 rfl) ?_
  refine W.eq (g2 := F0 m 42 ls [.int x1, .ref (ad 7), .ref (bd 0)]) (by rw [hbd0]) ?_
  refine g_after (st0 := [.int x1, .ref (ad 7), .ref (bd 0)]) (rest := []) (g_V X m_X8_274 (c_X2_see l D tc h0 sa x1 _ hBf hBw (fun x h1 h2 => by have := h2.2; have : q ≤ x := h1; omega) (fun x h => hA0 x (Or.inr (Nat.le_trans hq h))) hw) (hBf.recv X 0 rfl (q := (RX2, TX2, 4)) rfl) hT hS hA0 dX8_frame_42 hl.1 rfl rfl ⟨Nat.le_of_ble_eq_true rfl, Nat.le_of_ble_eq_true rfl⟩ (Nat.le_of_ble_eq_true rfl) ⟨Nat.le_of_ble_eq_true rfl, Nat.le_of_ble_eq_true rfl⟩) hS (fun x h => Or.inr (Nat.le_trans hq h)) (fun u => []) (fun _ => rfl) (fun fw H9 locs hw hP9 hz9 hk9 hS => ?_)
  have hBf : Blk D tc (fun x => q ≤ x) (shFr bd) bd fw H9 := hP9
  have hBr := hBr.kept (fun x h1 h2 => hk9 x h1 (fun e => by have := h2.2; have : q ≤ x := e; omega))
  refine lv_aload_n hx hb dX8_frame_45 rfl (lv_at hl 2 rfl) ?_
  refine g_get X dX8_frame_46 f_X8_32 hBr 0 (v := .ref (ar 4)) rfl rfl ?_
  refine lv_iload_n hx hb dX8_frame_49 rfl (lv_at hl 1 rfl) ?_
  refine lv_aload_n hx hb dX8_frame_50 rfl (lv_at hl 0 rfl) ?_
  have har4 := (hBr.in (i := 4) rfl).2
  refine x_astC (k9 := 8) X dX8_frame_51 rfl (hBr.1 4 _ rfl).1 (Or.inl (hBr.in (i := 4) rfl).1) hS (ci := 6) rfl (by have h9 := (hBf.1 0 _ rfl).1; rw [hbd0] at h9; exact h9) (show vp_in (r 0 8) 6 by rw [hnf]; exact fun z => z.elim (nI_nn (by omega)) (fun z => by rw [nI_cl (by omega)] at z; omega)) (fun H locs hat4 oq hz hS => ?_)
  rw [hnf, nI_cl (by omega), rt_up hbd0] at hat4
  have hBr := hBr.put (sh' := shR (ad 0) sp ns np (nf + 1) sd pd (va_up fd nf bd) sums ar) (w' := r) 4 rfl rfl hat4 oq (fun j hj => by
    match j, hj with
    | 0, _ => rfl
    | 1, _ => rfl
    | 2, _ => rfl
    | 3, _ => rfl
    | 4, hj => exact absurd rfl hj
    | _ + 5, _ => rfl) (fun _ _ => rfl)
  have hBf := hBf.kept1 oq (fun h => by have : q ≤ ar 4 := h; omega)
  refine lv_aload_n hx hb dX8_frame_52 rfl (lv_at hl 2 rfl) ?_
  refine lv_dup hx hb dX8_frame_53 rfl ?_
  refine g_get X dX8_frame_54 f_X8_269 hBr 0 (v := .int (r 0 8)) rfl rfl ?_
  refine lv_iconst (v := 1) hx hb dX8_frame_57 (by decide) ?_
  refine lv_iadd hx hb dX8_frame_58 ?_
  refine g_puti X dX8_frame_59 f_X8_269 (hBr.mono (B := (fun x : Nat => Ar x ∨ s.heap.size ≤ x)) (fun _ _ _ h => Or.inl h.1)) hS 0 rfl (x := (r 0 8 + 1)) rfl rfl rfl (fun H locs hb9 oq hS => ?_)
  have har0 := (hBr.in (i := 0) rfl).2
  have hBr := hBr.put 0 rfl rfl (hb9.1 0 _ rfl).1 oq (fun _ _ => rfl) (fun j hj => up2_ne hj)
  have hBf := hBf.kept1 oq (fun h => by have : q ≤ ar 0 := h; omega)
  refine lv_iload_n hx hb dX8_frame_62 rfl (lv_at hl 1 rfl) ?_
  exact vx_ret (e_i X hr dX8_frame_63 hS (bd, fw) rfl hw ⟨hBr.mono (fun _ _ _ h => h.1), hBf.mono (fun _ _ _ h => Nat.le_trans hq h)⟩ ⟨Nat.le_of_ble_eq_true rfl, Nat.le_of_ble_eq_true rfl⟩)
def wp_X8_save (post : Dt → Int64 → Prop) (xpost : Nat → Prop) (r w : Dt) (ns : Nat) : Prop := wp_X8_checkRoom (fun _ => r 0 3 = nI ns ∧ ns < 3 ∧ wp_X7_copyFrom (fun cw => wp_X7_sumUp (fun su => post cw su) w) cw0 w) xpost (r 0 3) 3
abbrev rm_X8_save : Room := { frames := 7, cells := 46, slots := 464, locals := 111 }
set_option maxHeartbeats 4000000 in
theorem c_X8_save (l : Launch) (D : va_G) (tc : Nat → ClassId) (h0 : Nat) (sa : Nat → Nat) (H0 : Heap) {ad : Nat → Nat} {A : Nat → Prop} {w : Dt} (hBw : Blk D tc A (shW ad) ad w H0) {sp : Option Nat} {ns np nf : Nat} {sd pd fd : Nat → Nat → Nat} {sums : Nat → Int64} {ar : Nat → Nat} {Ar : Nat → Prop} {r : Dt} (hBr : Blk D tc Ar (shR (ad 0) sp ns np nf sd pd fd sums ar) ar r H0) (hA0 : ∀ q, (Ar q ∨ H0.size ≤ q) → h0 ≤ q) (hlf : l.stackTraces = false) (hDr : ∀ q, A q → ¬ Ar q) {post : Dt → Int64 → Prop} {xpost : Nat → Prop} (hw : wp_X8_save post xpost r w ns) : MX (S := ((Nat → Nat) × Dt × Int64)) l yX8_save cX8_save 3 (Option.some FieldType.int) rm_X8_save (fun x : Nat => Ar x ∨ H0.size ≤ x) [.ref (ar 0)] D tc h0 sa H0 (fun u => post u.2.1 u.2.2) (fun u H1 => Blk D tc Ar (shR (ad 0) sp (ns + 1) np nf (va_up sd ns u.1) pd fd (va_up sums ns u.2.2) ar) ar (up2 r 0 3 (r 0 3 + 1)) H1 ∧ Blk D tc (fun x => H0.size ≤ x) (shW u.1) u.1 u.2.1 H1) (fun _ => some (.int (r 0 3))) xpost := by
  refine MX.of RX8 [(0, .ref (ar 0))] (by decide +kernel) rfl (Nat.le_of_ble_eq_true rfl) rfl ?_
  intro p e s m below meth c ls X hr hnt hT hH hS hl
  subst hH
  have hx := X.1
  have hb := X.2.1
  have hown := X.2.2.2.1
  have hU := X.2.2.2.2.1.1
  unfold wp_X8_save at hw
  have hBr := hBr.mono (B := fun x => Ar x ∧ x < s.heap.size) (fun i c hc hA => ⟨hA, hBr.lt hc⟩)
  have hS0 : s.heap.size ≤ s.heap.size := Nat.le_refl _
  have hBw := hBw.mono (B := fun x => A x ∧ x < s.heap.size) (fun i c hc hA => ⟨hA, hBw.lt hc⟩)
  refine lv_aload_n hx hb dX8_save_0 rfl (lv_at hl 0 rfl) ?_
  refine g_get X dX8_save_1 f_X8_296 hBr 0 (v := .int (r 0 3)) rfl rfl ?_
  refine lv_iconst (v := 3) hx hb dX8_save_4 (by decide) ?_
  refine g_afterX (st0 := [.int 3, .int (r 0 3)]) (rest := []) (g_SX X m_X8_135 (c_X8_checkRoom l D tc h0 sa (r 0 3) 3 _ hlf hw) hT hS hA0 dX8_save_5 hl.1 rfl rfl ⟨Nat.le_of_ble_eq_true rfl, Nat.le_of_ble_eq_true rfl⟩ (Nat.le_of_ble_eq_true rfl) ⟨Nat.le_of_ble_eq_true rfl, Nat.le_of_ble_eq_true rfl⟩) hS (fun _ h => h.elim) (fun u => []) (fun _ => rfl) (fun k ce q9 H1 locs1 hx9 hz9 ho9 hS9 hce hcv hcl => ?_) (fun u H9 locs hw hP9 hz9 hk9 hS => ?_)
  · exact e_x X hnt ⟨hz9, ho9⟩ hce hcv hcl hx9 hS9 ⟨Nat.le_of_ble_eq_true rfl, Nat.le_of_ble_eq_true rfl⟩
  have e9 : H9 = _ := hP9
  rw [e9] at hS ⊢
  obtain ⟨hns, hn3, hw⟩ := hw
  refine lv_aload_n hx hb dX8_save_8 rfl (lv_at hl 0 rfl) ?_
  refine g_get X dX8_save_9 f_X8_296 hBr 0 (v := .int (r 0 3)) rfl rfl ?_
  refine lv_istore_n (lv' := [(1, .int (r 0 3)), (0, .ref (ar 0))]) hx hb dX8_save_12 rfl hl (by decide) rfl (fun ls hl => ?_)
  refine x_new (A := (fun x : Nat => Ar x ∨ s.heap.size ≤ x)) X nw_X8_9 (fs := [.null, .null, .null, .null, .null, .int 0]) (fun j hj => by rcases (show j = 0 ∨ j = 1 ∨ j = 2 ∨ j = 3 ∨ j = 4 ∨ j = 5 by omega) with e | e | e | e | e | e <;> subst e <;> rfl) hS (fun x h => Or.inr h) ⟨Nat.le_of_ble_eq_true rfl, Nat.le_of_ble_eq_true rfl⟩ dX8_save_13 (fun qw H hqqw rw9 hAq hz9 hqz o1 hS => ?_)
  have hBr := hBr.kept (fun x h1 _ => o1 x h1)
  have hBw := hBw.kept (fun x h1 _ => o1 x h1)
  obtain ⟨zz, hzz⟩ : ∃ z : Nat, z = H.size := ⟨_, rfl⟩
  refine lv_dup hx hb dX8_save_16 rfl ?_
  refine g_after (st0 := .ref qw :: [.ref qw]) (rest := [.ref qw]) (g_IN X m_X8_11 (c_k7 l D tc h0 sa _ qw rw9 (hA0 _ hAq) (fun x h => hA0 x (Or.inr (by omega)))) hT hS hA0 dX8_save_17 hl.1 rfl rfl ⟨Nat.le_of_ble_eq_true rfl, Nat.le_of_ble_eq_true rfl⟩ (Nat.le_of_ble_eq_true rfl) ⟨Nat.le_of_ble_eq_true rfl, Nat.le_of_ble_eq_true rfl⟩) hS (fun x h => h.elim (fun e => e ▸ hAq) (fun h => Or.inr (by omega))) (fun u => [.ref qw]) (fun _ => rfl) (fun bd H locs hu hP9 hz8 hk9 hS => ?_)
  obtain ⟨hbd0, hBn⟩ := hP9
  have hBr := hBr.kept (fun x h1 h2 => hk9 x h1 (fun e => by have := h2.2; omega))
  have hBw := hBw.kept (fun x h1 h2 => hk9 x h1 (fun e => by have := h2.2; omega))
  have hBn := hBn.mono (B := fun x => s.heap.size ≤ x) (fun i c hc hA => (show bd i = qw ∨ zz ≤ bd i by rw [hzz]; exact hA).elim (fun e => by omega) (fun e => by omega))
  refine lv_astore_n (lv' := [(2, .ref qw), (1, .int (r 0 3)), (0, .ref (ar 0))]) hx hb dX8_save_20 rfl hl (by decide) rfl (fun ls hl => ?_)
  refine lv_aload_n hx hb dX8_save_21 rfl (lv_at hl 0 rfl) ?_
  refine lv_aload_n hx hb dX8_save_22 rfl (lv_at hl 2 rfl) ?_
  refine g_get X dX8_save_23 f_X8_12 hBr 0 (v := .ref (ad 0)) rfl rfl ?_
  refine W.eq (g2 := F0 m 26 ls [.ref (ad 0), .ref (bd 0)]) (by rw [hbd0]) ?_
  refine g_after (st0 := [.ref (ad 0), .ref (bd 0)]) (rest := []) (g_V X m_X8_299 (c_X7_copyFrom l D tc h0 sa _ hBn hBw (fun x h1 h2 => by have := h2.2; omega) (fun x h => hA0 x (Or.inr h)) hw) (hBn.recv X 0 rfl (q := (RX7, TX7, 6)) rfl) hT hS hA0 dX8_save_26 hl.1 rfl rfl ⟨Nat.le_of_ble_eq_true rfl, Nat.le_of_ble_eq_true rfl⟩ (Nat.le_of_ble_eq_true rfl) ⟨Nat.le_of_ble_eq_true rfl, Nat.le_of_ble_eq_true rfl⟩) hS (fun x h => Or.inr h) (fun u => []) (fun _ => rfl) (fun cw H9 locs hw hP9 hz9 hk9 hS => ?_)
  have hBn : Blk D tc (fun x => s.heap.size ≤ x) (shW bd) bd cw H9 := hP9
  have hBr := hBr.kept (fun x h1 h2 => hk9 x h1 (fun e => by have := h2.2; omega))
  have hBw := hBw.kept (fun x h1 h2 => hk9 x h1 (fun e => by have := h2.2; omega))
  refine lv_aload_n hx hb dX8_save_29 rfl (lv_at hl 2 rfl) ?_
  refine g_get X dX8_save_30 f_X8_16 hBr 0 (v := .ref (ar 1)) rfl rfl ?_
  refine lv_iload_n hx hb dX8_save_33 rfl (lv_at hl 1 rfl) ?_
  refine lv_aload_n hx hb dX8_save_34 rfl (lv_at hl 0 rfl) ?_
  have har1 := (hBr.in (i := 1) rfl).2
  refine x_astC (k9 := 6) X dX8_save_35 rfl (hBr.1 1 _ rfl).1 (Or.inl (hBr.in (i := 1) rfl).1) hS (ci := 11) rfl (by have h9 := (hBn.1 0 _ rfl).1; rw [hbd0] at h9; exact h9) (show vp_in (r 0 3) 3 by rw [hns]; exact fun z => z.elim (nI_nn (by omega)) (fun z => by rw [nI_cl (by omega)] at z; omega)) (fun H locs hat1 oq hz hS => ?_)
  rw [hns, nI_cl (by omega), rt_up hbd0] at hat1
  have hBr := hBr.put (sh' := shR (ad 0) sp (ns + 1) np nf (va_up sd ns bd) pd fd sums ar) (w' := r) 1 rfl rfl hat1 oq (fun j hj => by
    match j, hj with
    | 0, _ => rfl
    | 1, hj => exact absurd rfl hj
    | 2, _ => rfl
    | 3, _ => rfl
    | 4, _ => rfl
    | _ + 5, _ => rfl) (fun _ _ => rfl)
  have hBn := hBn.kept1 oq (fun h => by omega)
  have hBw := hBw.kept1 oq (fun h => hDr _ h.1 (hBr.in (i := 1) rfl).1)
  refine lv_aload_n hx hb dX8_save_36 rfl (lv_at hl 2 rfl) ?_
  refine g_get X dX8_save_37 f_X8_20 hBr 0 (v := .ref (ar 2)) rfl rfl ?_
  refine lv_iload_n hx hb dX8_save_40 rfl (lv_at hl 1 rfl) ?_
  refine lv_aload_n hx hb dX8_save_41 rfl (lv_at hl 2 rfl) ?_
  refine g_get X dX8_save_42 f_X8_12 hBr 0 (v := .ref (ad 0)) rfl rfl ?_
  refine g_after (st0 := [.ref (ad 0), .int (r 0 3), .ref (ar 2)]) (rest := [.int (r 0 3), .ref (ar 2)]) (g_V X m_X8_303 (c_X7_sumUp l D tc h0 sa _ hBw hw) (hBw.recv X 0 rfl (q := (RX7, TX7, 6)) rfl) hT hS hA0 dX8_save_45 hl.1 rfl rfl ⟨Nat.le_of_ble_eq_true rfl, Nat.le_of_ble_eq_true rfl⟩ (Nat.le_of_ble_eq_true rfl) ⟨Nat.le_of_ble_eq_true rfl, Nat.le_of_ble_eq_true rfl⟩) hS (fun _ h => h.elim) (fun u => [.long u, .int (r 0 3), .ref (ar 2)]) (fun _ => rfl) (fun su H9 locs hw hP9 hz9 hk9 hS => ?_)
  have e9 : H9 = _ := hP9
  rw [e9] at hS ⊢
  have har2 := (hBr.in (i := 2) rfl).2
  refine x_last X dX8_save_48 (hBr.1 2 _ rfl).1 (Or.inl (hBr.in (i := 2) rfl).1) hS (show vp_in (r 0 3) 3 by rw [hns]; exact fun z => z.elim (nI_nn (by omega)) (fun z => by rw [nI_cl (by omega)] at z; omega)) (fun H locs hat2 oq hz hS => ?_)
  rw [hns, nI_cl (by omega)] at hat2
  have hBr := hBr.put (sh' := shR (ad 0) sp (ns + 1) np nf (va_up sd ns bd) pd fd (va_up sums ns su) ar) (w' := r) 2 rfl rfl hat2 oq (fun j hj => by
    match j, hj with
    | 0, _ => rfl
    | 1, _ => rfl
    | 2, hj => exact absurd rfl hj
    | 3, _ => rfl
    | 4, _ => rfl
    | _ + 5, _ => rfl) (fun _ _ => rfl)
  have hBn := hBn.kept1 oq (fun h => by omega)
  refine lv_aload_n hx hb dX8_save_49 rfl (lv_at hl 2 rfl) ?_
  refine lv_dup hx hb dX8_save_50 rfl ?_
  refine g_get X dX8_save_51 f_X8_296 hBr 0 (v := .int (r 0 3)) rfl rfl ?_
  refine lv_iconst (v := 1) hx hb dX8_save_54 (by decide) ?_
  refine lv_iadd hx hb dX8_save_55 ?_
  refine g_puti X dX8_save_56 f_X8_296 (hBr.mono (B := (fun x : Nat => Ar x ∨ s.heap.size ≤ x)) (fun _ _ _ h => Or.inl h.1)) hS 0 rfl (x := (r 0 3 + 1)) rfl rfl rfl (fun H locs hb9 oq hS => ?_)
  have har0 := (hBr.in (i := 0) rfl).2
  have hBr := hBr.put 0 rfl rfl (hb9.1 0 _ rfl).1 oq (fun _ _ => rfl) (fun j hj => up2_ne hj)
  have hBn := hBn.kept1 oq (fun h => by omega)
  refine lv_iload_n hx hb dX8_save_59 rfl (lv_at hl 1 rfl) ?_
  exact vx_ret (e_i X hr dX8_save_60 hS (bd, cw, su) rfl hw ⟨hBr.mono (fun _ _ _ h => h.1), hBn⟩ ⟨Nat.le_of_ble_eq_true rfl, Nat.le_of_ble_eq_true rfl⟩)
