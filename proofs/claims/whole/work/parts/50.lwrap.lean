/-! THE LAW'S WRAPPERS -/
abbrev rm_L_setTemperature : Room := { frames := 8, cells := 2, slots := 12, locals := 134 }
set_option maxHeartbeats 4000000 in
theorem k_L_setTemperature (l : Launch) (D : va_G) (tc : Nat → ClassId) (h0 : Nat) (sa : Nat → Nat) (H0 : Heap) (ob : Nat) (x1 : Int32) (x2 : Int32) {S : Type} {A1 : Nat → Prop} {post : S → Prop} {POST : S → Heap → Prop} {rv : S → Option Value} {xpost : Nat → Prop} {ri : S → Int32} {f : Nat → Int64} {wa : Nat} {ar : Nat → Nat} {Ar : Nat → Prop} {sp : Option Nat} {ns np nf : Nat} {sd pd fd : Nat → Nat → Nat} {sums : Nat → Int64} {r : Dt} (hBr : Blk D tc Ar (shR wa sp ns np nf sd pd fd sums ar) ar r H0) (hM : MX l yX8_setTemperature cX8_setTemperature 3 (Option.some FieldType.int) rm_X8_setTemperature A1 [.ref (ar 0), .int x1, .int x2] D tc h0 sa H0 post POST rv xpost) (hrv : ∀ u, rv u = some (.int (ri u))) (ho : va_at D vwCl (ob, .inl (tc 3, 1, .inr (.inl f))) H0) (hoA : ¬ A1 ob) (hA0 : ∀ q, A1 q ∨ q = ob → h0 ≤ q) (hx : ∀ k, xpost k → k = 0 ∨ k = 1) : ML l yL_setTemperature cL_setTemperature 5 [(0, 10, 13, 13), (0, 10, 17, 15)] rm_L_setTemperature (fun q : Nat => A1 q ∨ q = ob) [.ref (ar 0), .int x1, .int x2, .ref ob] D tc h0 sa H0 (LPo post xpost) (LQo D tc ob f (fun u => (ri u).toInt64) POST H0) (LRo (fun k => xnum [0, 1] k 1)) := by
  refine ML.of RL [(0, .ref (ar 0)), (1, .int x1), (2, .int x2), (3, .ref ob)] (by decide +kernel) rfl (Nat.le_of_ble_eq_true rfl) rfl ?_
  intro p e s m below meth c ls X hN hr htab hT hH hS hl
  subst hH
  have hxx := hx
  have hx := X.1
  have hb := X.2.1
  have hoA2 := ho.lt
  refine lv_aload_n hx hb dL_setTemperature_0 rfl (lv_at hl 3 rfl) ?_
  refine lv_iconst (v := 0) hx hb dL_setTemperature_1 (by decide) ?_
  refine lv_aload_n hx hb dL_setTemperature_2 rfl (lv_at hl 0 rfl) ?_
  refine lv_iload_n hx hb dL_setTemperature_3 rfl (lv_at hl 1 rfl) ?_
  refine lv_iload_n hx hb dL_setTemperature_4 rfl (lv_at hl 2 rfl) ?_
  refine g_afterX (A := fun q : Nat => A1 q ∨ q = ob) (st0 := [.int x2, .int x1, .ref (ar 0), .int 0, .ref ob]) (rest := [.int 0, .ref ob]) (g_VX X m_L_7 hM (hBr.recv X 0 rfl (q := (RX8, TX8, 9)) rfl) hT hS hA0 dL_setTemperature_5 hl.1 rfl rfl ⟨Nat.le_of_ble_eq_true rfl, Nat.le_of_ble_eq_true rfl⟩ (Nat.le_of_ble_eq_true rfl) ⟨Nat.le_of_ble_eq_true rfl, Nat.le_of_ble_eq_true rfl⟩) hS (fun q h => Or.inl h) (fun u => [.int (ri u), .int 0, .ref ob]) (fun u => by rw [hrv u]; rfl) (fun k ce q9 H1 locs1 hx9 hz9 ho9 hS9 hce hcv hcl => ?_) (fun u H1 locs1 hp9 hP9 hz9 hk9 hS9 => ?_)
  · rcases hxx k hx9 with rfl | rfl
    · refine g_catch (k := 0) X htab [] [(0, 10, 17, 15)] (a := 0) (b9 := 10) (hp := 13) (ct := 13) rfl (fun z hz => absurd hz List.not_mem_nil) rfl (by decide) xl_13 xc_0 hce hcv hcl ?_
      refine lv_astore (lv' := [(4, .ref q9), (0, .ref (ar 0)), (1, .int x1), (2, .int x2), (3, .ref ob)]) hx hb dL_setTemperature_13 hl (by decide) rfl (fun ls hl => ?_)
      refine lv_iconst (v := 1) hx hb dL_setTemperature_15 (by decide) ?_
      exact e_i X hr dL_setTemperature_16 hS9 (Sum.inr 0) rfl hx9 ⟨ho.kept (ho9 ob hoA2), ho9⟩ ⟨Nat.le_of_ble_eq_true rfl, Nat.le_of_ble_eq_true rfl⟩
    · refine g_catch (k := 1) X htab [(0, 10, 13, 13)] [] (a := 0) (b9 := 10) (hp := 17) (ct := 15) rfl (List.forall_mem_cons.mpr ⟨⟨by decide, _, xl_13, hN 1 0 (by decide) (by decide) (by decide)⟩, (fun z hz => absurd hz List.not_mem_nil)⟩) rfl (by decide) xl_15 xc_1 hce hcv hcl ?_
      refine lv_astore (lv' := [(4, .ref q9), (0, .ref (ar 0)), (1, .int x1), (2, .int x2), (3, .ref ob)]) hx hb dL_setTemperature_17 hl (by decide) rfl (fun ls hl => ?_)
      refine lv_iconst (v := 2) hx hb dL_setTemperature_19 (by decide) ?_
      exact e_i X hr dL_setTemperature_20 hS9 (Sum.inr 1) rfl hx9 ⟨ho.kept (ho9 ob hoA2), ho9⟩ ⟨Nat.le_of_ble_eq_true rfl, Nat.le_of_ble_eq_true rfl⟩
  have hat9 := ho.kept (hk9 ob hoA2 hoA)
  refine lv_i2l (v := (ri u).toInt64) hx hb dL_setTemperature_8 rfl ?_
  refine x_last (A := fun q : Nat => A1 q ∨ q = ob) X dL_setTemperature_9 hat9 (Or.inr rfl) hS9 in01 (fun H2 locs2 hat2 oq2 hz2 hS2 => ?_)
  refine lv_goto (tgt := 21) hx hb dL_setTemperature_10 (by decide) ?_
  refine lv_iconst (v := 0) hx hb dL_setTemperature_21 (by decide) ?_
  exact e_i X hr dL_setTemperature_22 hS2 (Sum.inl u) rfl hp9 ⟨hat2, H1, hP9, hz2, oq2⟩ ⟨Nat.le_of_ble_eq_true rfl, Nat.le_of_ble_eq_true rfl⟩
abbrev rm_L_getTemperature : Room := { frames := 8, cells := 1, slots := 6, locals := 132 }
set_option maxHeartbeats 4000000 in
theorem k_L_getTemperature (l : Launch) (D : va_G) (tc : Nat → ClassId) (h0 : Nat) (sa : Nat → Nat) (H0 : Heap) (ob : Nat) (x1 : Int32) {S : Type} {A1 : Nat → Prop} {post : S → Prop} {POST : S → Heap → Prop} {rv : S → Option Value} {xpost : Nat → Prop} {ri : S → Int32} {f : Nat → Int64} {wa : Nat} {ar : Nat → Nat} {Ar : Nat → Prop} {sp : Option Nat} {ns np nf : Nat} {sd pd fd : Nat → Nat → Nat} {sums : Nat → Int64} {r : Dt} (hBr : Blk D tc Ar (shR wa sp ns np nf sd pd fd sums ar) ar r H0) (hM : MX l yX8_getTemperature cX8_getTemperature 2 (Option.some FieldType.int) rm_X8_getTemperature A1 [.ref (ar 0), .int x1] D tc h0 sa H0 post POST rv xpost) (hrv : ∀ u, rv u = some (.int (ri u))) (ho : va_at D vwCl (ob, .inl (tc 3, 1, .inr (.inl f))) H0) (hoA : ¬ A1 ob) (hA0 : ∀ q, A1 q ∨ q = ob → h0 ≤ q) (hx : ∀ k, xpost k → k = 0) : ML l yL_getTemperature cL_getTemperature 4 [(0, 9, 12, 13)] rm_L_getTemperature (fun q : Nat => A1 q ∨ q = ob) [.ref (ar 0), .int x1, .ref ob] D tc h0 sa H0 (LPo post xpost) (LQo D tc ob f (fun u => (ri u).toInt64) POST H0) (LRo (fun k => xnum [0] k 1)) := by
  refine ML.of RL [(0, .ref (ar 0)), (1, .int x1), (2, .ref ob)] (by decide +kernel) rfl (Nat.le_of_ble_eq_true rfl) rfl ?_
  intro p e s m below meth c ls X hN hr htab hT hH hS hl
  subst hH
  have hxx := hx
  have hx := X.1
  have hb := X.2.1
  have hoA2 := ho.lt
  refine lv_aload_n hx hb dL_getTemperature_0 rfl (lv_at hl 2 rfl) ?_
  refine lv_iconst (v := 0) hx hb dL_getTemperature_1 (by decide) ?_
  refine lv_aload_n hx hb dL_getTemperature_2 rfl (lv_at hl 0 rfl) ?_
  refine lv_iload_n hx hb dL_getTemperature_3 rfl (lv_at hl 1 rfl) ?_
  refine g_afterX (A := fun q : Nat => A1 q ∨ q = ob) (st0 := [.int x1, .ref (ar 0), .int 0, .ref ob]) (rest := [.int 0, .ref ob]) (g_VX X m_L_17 hM (hBr.recv X 0 rfl (q := (RX8, TX8, 9)) rfl) hT hS hA0 dL_getTemperature_4 hl.1 rfl rfl ⟨Nat.le_of_ble_eq_true rfl, Nat.le_of_ble_eq_true rfl⟩ (Nat.le_of_ble_eq_true rfl) ⟨Nat.le_of_ble_eq_true rfl, Nat.le_of_ble_eq_true rfl⟩) hS (fun q h => Or.inl h) (fun u => [.int (ri u), .int 0, .ref ob]) (fun u => by rw [hrv u]; rfl) (fun k ce q9 H1 locs1 hx9 hz9 ho9 hS9 hce hcv hcl => ?_) (fun u H1 locs1 hp9 hP9 hz9 hk9 hS9 => ?_)
  · have ek := hxx k hx9
    subst ek
    refine g_catch (k := 0) X htab [] [] (a := 0) (b9 := 9) (hp := 12) (ct := 13) rfl (fun z hz => absurd hz List.not_mem_nil) rfl (by decide) xl_13 xc_0 hce hcv hcl ?_
    refine lv_astore_n (lv' := [(3, .ref q9), (0, .ref (ar 0)), (1, .int x1), (2, .ref ob)]) hx hb dL_getTemperature_12 rfl hl (by decide) rfl (fun ls hl => ?_)
    refine lv_iconst (v := 1) hx hb dL_getTemperature_13 (by decide) ?_
    exact e_i X hr dL_getTemperature_14 hS9 (Sum.inr 0) rfl hx9 ⟨ho.kept (ho9 ob hoA2), ho9⟩ ⟨Nat.le_of_ble_eq_true rfl, Nat.le_of_ble_eq_true rfl⟩
  have hat9 := ho.kept (hk9 ob hoA2 hoA)
  refine lv_i2l (v := (ri u).toInt64) hx hb dL_getTemperature_7 rfl ?_
  refine x_last (A := fun q : Nat => A1 q ∨ q = ob) X dL_getTemperature_8 hat9 (Or.inr rfl) hS9 in01 (fun H2 locs2 hat2 oq2 hz2 hS2 => ?_)
  refine lv_goto (tgt := 15) hx hb dL_getTemperature_9 (by decide) ?_
  refine lv_iconst (v := 0) hx hb dL_getTemperature_15 (by decide) ?_
  exact e_i X hr dL_getTemperature_16 hS2 (Sum.inl u) rfl hp9 ⟨hat2, H1, hP9, hz2, oq2⟩ ⟨Nat.le_of_ble_eq_true rfl, Nat.le_of_ble_eq_true rfl⟩
abbrev rm_L_setVapour : Room := { frames := 8, cells := 3, slots := 18, locals := 135 }
set_option maxHeartbeats 4000000 in
theorem k_L_setVapour (l : Launch) (D : va_G) (tc : Nat → ClassId) (h0 : Nat) (sa : Nat → Nat) (H0 : Heap) (ob : Nat) (x1 : Int32) (x2 : Int32) (x3 : Int32) {S : Type} {A1 : Nat → Prop} {post : S → Prop} {POST : S → Heap → Prop} {rv : S → Option Value} {xpost : Nat → Prop} {ri : S → Int32} {f : Nat → Int64} {wa : Nat} {ar : Nat → Nat} {Ar : Nat → Prop} {sp : Option Nat} {ns np nf : Nat} {sd pd fd : Nat → Nat → Nat} {sums : Nat → Int64} {r : Dt} (hBr : Blk D tc Ar (shR wa sp ns np nf sd pd fd sums ar) ar r H0) (hM : MX l yX8_setVapour cX8_setVapour 4 (Option.some FieldType.int) rm_X8_setVapour A1 [.ref (ar 0), .int x1, .int x2, .int x3] D tc h0 sa H0 post POST rv xpost) (hrv : ∀ u, rv u = some (.int (ri u))) (ho : va_at D vwCl (ob, .inl (tc 3, 1, .inr (.inl f))) H0) (hoA : ¬ A1 ob) (hA0 : ∀ q, A1 q ∨ q = ob → h0 ≤ q) (hx : ∀ k, xpost k → k = 0 ∨ k = 1) : ML l yL_setVapour cL_setVapour 6 [(0, 12, 15, 13), (0, 12, 19, 15)] rm_L_setVapour (fun q : Nat => A1 q ∨ q = ob) [.ref (ar 0), .int x1, .int x2, .int x3, .ref ob] D tc h0 sa H0 (LPo post xpost) (LQo D tc ob f (fun u => (ri u).toInt64) POST H0) (LRo (fun k => xnum [0, 1] k 1)) := by
  refine ML.of RL [(0, .ref (ar 0)), (1, .int x1), (2, .int x2), (3, .int x3), (4, .ref ob)] (by decide +kernel) rfl (Nat.le_of_ble_eq_true rfl) rfl ?_
  intro p e s m below meth c ls X hN hr htab hT hH hS hl
  subst hH
  have hxx := hx
  have hx := X.1
  have hb := X.2.1
  have hoA2 := ho.lt
  refine lv_aload hx hb dL_setVapour_0 (lv_at hl 4 rfl) ?_
  refine lv_iconst (v := 0) hx hb dL_setVapour_2 (by decide) ?_
  refine lv_aload_n hx hb dL_setVapour_3 rfl (lv_at hl 0 rfl) ?_
  refine lv_iload_n hx hb dL_setVapour_4 rfl (lv_at hl 1 rfl) ?_
  refine lv_iload_n hx hb dL_setVapour_5 rfl (lv_at hl 2 rfl) ?_
  refine lv_iload_n hx hb dL_setVapour_6 rfl (lv_at hl 3 rfl) ?_
  refine g_afterX (A := fun q : Nat => A1 q ∨ q = ob) (st0 := [.int x3, .int x2, .int x1, .ref (ar 0), .int 0, .ref ob]) (rest := [.int 0, .ref ob]) (g_VX X m_L_21 hM (hBr.recv X 0 rfl (q := (RX8, TX8, 9)) rfl) hT hS hA0 dL_setVapour_7 hl.1 rfl rfl ⟨Nat.le_of_ble_eq_true rfl, Nat.le_of_ble_eq_true rfl⟩ (Nat.le_of_ble_eq_true rfl) ⟨Nat.le_of_ble_eq_true rfl, Nat.le_of_ble_eq_true rfl⟩) hS (fun q h => Or.inl h) (fun u => [.int (ri u), .int 0, .ref ob]) (fun u => by rw [hrv u]; rfl) (fun k ce q9 H1 locs1 hx9 hz9 ho9 hS9 hce hcv hcl => ?_) (fun u H1 locs1 hp9 hP9 hz9 hk9 hS9 => ?_)
  · rcases hxx k hx9 with rfl | rfl
    · refine g_catch (k := 0) X htab [] [(0, 12, 19, 15)] (a := 0) (b9 := 12) (hp := 15) (ct := 13) rfl (fun z hz => absurd hz List.not_mem_nil) rfl (by decide) xl_13 xc_0 hce hcv hcl ?_
      refine lv_astore (lv' := [(5, .ref q9), (0, .ref (ar 0)), (1, .int x1), (2, .int x2), (3, .int x3), (4, .ref ob)]) hx hb dL_setVapour_15 hl (by decide) rfl (fun ls hl => ?_)
      refine lv_iconst (v := 1) hx hb dL_setVapour_17 (by decide) ?_
      exact e_i X hr dL_setVapour_18 hS9 (Sum.inr 0) rfl hx9 ⟨ho.kept (ho9 ob hoA2), ho9⟩ ⟨Nat.le_of_ble_eq_true rfl, Nat.le_of_ble_eq_true rfl⟩
    · refine g_catch (k := 1) X htab [(0, 12, 15, 13)] [] (a := 0) (b9 := 12) (hp := 19) (ct := 15) rfl (List.forall_mem_cons.mpr ⟨⟨by decide, _, xl_13, hN 1 0 (by decide) (by decide) (by decide)⟩, (fun z hz => absurd hz List.not_mem_nil)⟩) rfl (by decide) xl_15 xc_1 hce hcv hcl ?_
      refine lv_astore (lv' := [(5, .ref q9), (0, .ref (ar 0)), (1, .int x1), (2, .int x2), (3, .int x3), (4, .ref ob)]) hx hb dL_setVapour_19 hl (by decide) rfl (fun ls hl => ?_)
      refine lv_iconst (v := 2) hx hb dL_setVapour_21 (by decide) ?_
      exact e_i X hr dL_setVapour_22 hS9 (Sum.inr 1) rfl hx9 ⟨ho.kept (ho9 ob hoA2), ho9⟩ ⟨Nat.le_of_ble_eq_true rfl, Nat.le_of_ble_eq_true rfl⟩
  have hat9 := ho.kept (hk9 ob hoA2 hoA)
  refine lv_i2l (v := (ri u).toInt64) hx hb dL_setVapour_10 rfl ?_
  refine x_last (A := fun q : Nat => A1 q ∨ q = ob) X dL_setVapour_11 hat9 (Or.inr rfl) hS9 in01 (fun H2 locs2 hat2 oq2 hz2 hS2 => ?_)
  refine lv_goto (tgt := 23) hx hb dL_setVapour_12 (by decide) ?_
  refine lv_iconst (v := 0) hx hb dL_setVapour_23 (by decide) ?_
  exact e_i X hr dL_setVapour_24 hS2 (Sum.inl u) rfl hp9 ⟨hat2, H1, hP9, hz2, oq2⟩ ⟨Nat.le_of_ble_eq_true rfl, Nat.le_of_ble_eq_true rfl⟩
abbrev rm_L_getVapour : Room := { frames := 8, cells := 2, slots := 12, locals := 133 }
set_option maxHeartbeats 4000000 in
theorem k_L_getVapour (l : Launch) (D : va_G) (tc : Nat → ClassId) (h0 : Nat) (sa : Nat → Nat) (H0 : Heap) (ob : Nat) (x1 : Int32) (x2 : Int32) {S : Type} {A1 : Nat → Prop} {post : S → Prop} {POST : S → Heap → Prop} {rv : S → Option Value} {xpost : Nat → Prop} {ri : S → Int32} {f : Nat → Int64} {wa : Nat} {ar : Nat → Nat} {Ar : Nat → Prop} {sp : Option Nat} {ns np nf : Nat} {sd pd fd : Nat → Nat → Nat} {sums : Nat → Int64} {r : Dt} (hBr : Blk D tc Ar (shR wa sp ns np nf sd pd fd sums ar) ar r H0) (hM : MX l yX8_getVapour cX8_getVapour 3 (Option.some FieldType.int) rm_X8_getVapour A1 [.ref (ar 0), .int x1, .int x2] D tc h0 sa H0 post POST rv xpost) (hrv : ∀ u, rv u = some (.int (ri u))) (ho : va_at D vwCl (ob, .inl (tc 3, 1, .inr (.inl f))) H0) (hoA : ¬ A1 ob) (hA0 : ∀ q, A1 q ∨ q = ob → h0 ≤ q) (hx : ∀ k, xpost k → k = 0) : ML l yL_getVapour cL_getVapour 5 [(0, 10, 13, 13)] rm_L_getVapour (fun q : Nat => A1 q ∨ q = ob) [.ref (ar 0), .int x1, .int x2, .ref ob] D tc h0 sa H0 (LPo post xpost) (LQo D tc ob f (fun u => (ri u).toInt64) POST H0) (LRo (fun k => xnum [0] k 1)) := by
  refine ML.of RL [(0, .ref (ar 0)), (1, .int x1), (2, .int x2), (3, .ref ob)] (by decide +kernel) rfl (Nat.le_of_ble_eq_true rfl) rfl ?_
  intro p e s m below meth c ls X hN hr htab hT hH hS hl
  subst hH
  have hxx := hx
  have hx := X.1
  have hb := X.2.1
  have hoA2 := ho.lt
  refine lv_aload_n hx hb dL_getVapour_0 rfl (lv_at hl 3 rfl) ?_
  refine lv_iconst (v := 0) hx hb dL_getVapour_1 (by decide) ?_
  refine lv_aload_n hx hb dL_getVapour_2 rfl (lv_at hl 0 rfl) ?_
  refine lv_iload_n hx hb dL_getVapour_3 rfl (lv_at hl 1 rfl) ?_
  refine lv_iload_n hx hb dL_getVapour_4 rfl (lv_at hl 2 rfl) ?_
  refine g_afterX (A := fun q : Nat => A1 q ∨ q = ob) (st0 := [.int x2, .int x1, .ref (ar 0), .int 0, .ref ob]) (rest := [.int 0, .ref ob]) (g_VX X m_L_25 hM (hBr.recv X 0 rfl (q := (RX8, TX8, 9)) rfl) hT hS hA0 dL_getVapour_5 hl.1 rfl rfl ⟨Nat.le_of_ble_eq_true rfl, Nat.le_of_ble_eq_true rfl⟩ (Nat.le_of_ble_eq_true rfl) ⟨Nat.le_of_ble_eq_true rfl, Nat.le_of_ble_eq_true rfl⟩) hS (fun q h => Or.inl h) (fun u => [.int (ri u), .int 0, .ref ob]) (fun u => by rw [hrv u]; rfl) (fun k ce q9 H1 locs1 hx9 hz9 ho9 hS9 hce hcv hcl => ?_) (fun u H1 locs1 hp9 hP9 hz9 hk9 hS9 => ?_)
  · have ek := hxx k hx9
    subst ek
    refine g_catch (k := 0) X htab [] [] (a := 0) (b9 := 10) (hp := 13) (ct := 13) rfl (fun z hz => absurd hz List.not_mem_nil) rfl (by decide) xl_13 xc_0 hce hcv hcl ?_
    refine lv_astore (lv' := [(4, .ref q9), (0, .ref (ar 0)), (1, .int x1), (2, .int x2), (3, .ref ob)]) hx hb dL_getVapour_13 hl (by decide) rfl (fun ls hl => ?_)
    refine lv_iconst (v := 1) hx hb dL_getVapour_15 (by decide) ?_
    exact e_i X hr dL_getVapour_16 hS9 (Sum.inr 0) rfl hx9 ⟨ho.kept (ho9 ob hoA2), ho9⟩ ⟨Nat.le_of_ble_eq_true rfl, Nat.le_of_ble_eq_true rfl⟩
  have hat9 := ho.kept (hk9 ob hoA2 hoA)
  refine lv_i2l (v := (ri u).toInt64) hx hb dL_getVapour_8 rfl ?_
  refine x_last (A := fun q : Nat => A1 q ∨ q = ob) X dL_getVapour_9 hat9 (Or.inr rfl) hS9 in01 (fun H2 locs2 hat2 oq2 hz2 hS2 => ?_)
  refine lv_goto (tgt := 17) hx hb dL_getVapour_10 (by decide) ?_
  refine lv_iconst (v := 0) hx hb dL_getVapour_17 (by decide) ?_
  exact e_i X hr dL_getVapour_18 hS2 (Sum.inl u) rfl hp9 ⟨hat2, H1, hP9, hz2, oq2⟩ ⟨Nat.le_of_ble_eq_true rfl, Nat.le_of_ble_eq_true rfl⟩
abbrev rm_L_getIce : Room := { frames := 8, cells := 2, slots := 12, locals := 133 }
set_option maxHeartbeats 4000000 in
theorem k_L_getIce (l : Launch) (D : va_G) (tc : Nat → ClassId) (h0 : Nat) (sa : Nat → Nat) (H0 : Heap) (ob : Nat) (x1 : Int32) (x2 : Int32) {S : Type} {A1 : Nat → Prop} {post : S → Prop} {POST : S → Heap → Prop} {rv : S → Option Value} {xpost : Nat → Prop} {ri : S → Int32} {f : Nat → Int64} {wa : Nat} {ar : Nat → Nat} {Ar : Nat → Prop} {sp : Option Nat} {ns np nf : Nat} {sd pd fd : Nat → Nat → Nat} {sums : Nat → Int64} {r : Dt} (hBr : Blk D tc Ar (shR wa sp ns np nf sd pd fd sums ar) ar r H0) (hM : MX l yX8_getIce cX8_getIce 3 (Option.some FieldType.int) rm_X8_getIce A1 [.ref (ar 0), .int x1, .int x2] D tc h0 sa H0 post POST rv xpost) (hrv : ∀ u, rv u = some (.int (ri u))) (ho : va_at D vwCl (ob, .inl (tc 3, 1, .inr (.inl f))) H0) (hoA : ¬ A1 ob) (hA0 : ∀ q, A1 q ∨ q = ob → h0 ≤ q) (hx : ∀ k, xpost k → k = 0) : ML l yL_getIce cL_getIce 5 [(0, 10, 13, 13)] rm_L_getIce (fun q : Nat => A1 q ∨ q = ob) [.ref (ar 0), .int x1, .int x2, .ref ob] D tc h0 sa H0 (LPo post xpost) (LQo D tc ob f (fun u => (ri u).toInt64) POST H0) (LRo (fun k => xnum [0] k 1)) := by
  refine ML.of RL [(0, .ref (ar 0)), (1, .int x1), (2, .int x2), (3, .ref ob)] (by decide +kernel) rfl (Nat.le_of_ble_eq_true rfl) rfl ?_
  intro p e s m below meth c ls X hN hr htab hT hH hS hl
  subst hH
  have hxx := hx
  have hx := X.1
  have hb := X.2.1
  have hoA2 := ho.lt
  refine lv_aload_n hx hb dL_getIce_0 rfl (lv_at hl 3 rfl) ?_
  refine lv_iconst (v := 0) hx hb dL_getIce_1 (by decide) ?_
  refine lv_aload_n hx hb dL_getIce_2 rfl (lv_at hl 0 rfl) ?_
  refine lv_iload_n hx hb dL_getIce_3 rfl (lv_at hl 1 rfl) ?_
  refine lv_iload_n hx hb dL_getIce_4 rfl (lv_at hl 2 rfl) ?_
  refine g_afterX (A := fun q : Nat => A1 q ∨ q = ob) (st0 := [.int x2, .int x1, .ref (ar 0), .int 0, .ref ob]) (rest := [.int 0, .ref ob]) (g_VX X m_L_28 hM (hBr.recv X 0 rfl (q := (RX8, TX8, 9)) rfl) hT hS hA0 dL_getIce_5 hl.1 rfl rfl ⟨Nat.le_of_ble_eq_true rfl, Nat.le_of_ble_eq_true rfl⟩ (Nat.le_of_ble_eq_true rfl) ⟨Nat.le_of_ble_eq_true rfl, Nat.le_of_ble_eq_true rfl⟩) hS (fun q h => Or.inl h) (fun u => [.int (ri u), .int 0, .ref ob]) (fun u => by rw [hrv u]; rfl) (fun k ce q9 H1 locs1 hx9 hz9 ho9 hS9 hce hcv hcl => ?_) (fun u H1 locs1 hp9 hP9 hz9 hk9 hS9 => ?_)
  · have ek := hxx k hx9
    subst ek
    refine g_catch (k := 0) X htab [] [] (a := 0) (b9 := 10) (hp := 13) (ct := 13) rfl (fun z hz => absurd hz List.not_mem_nil) rfl (by decide) xl_13 xc_0 hce hcv hcl ?_
    refine lv_astore (lv' := [(4, .ref q9), (0, .ref (ar 0)), (1, .int x1), (2, .int x2), (3, .ref ob)]) hx hb dL_getIce_13 hl (by decide) rfl (fun ls hl => ?_)
    refine lv_iconst (v := 1) hx hb dL_getIce_15 (by decide) ?_
    exact e_i X hr dL_getIce_16 hS9 (Sum.inr 0) rfl hx9 ⟨ho.kept (ho9 ob hoA2), ho9⟩ ⟨Nat.le_of_ble_eq_true rfl, Nat.le_of_ble_eq_true rfl⟩
  have hat9 := ho.kept (hk9 ob hoA2 hoA)
  refine lv_i2l (v := (ri u).toInt64) hx hb dL_getIce_8 rfl ?_
  refine x_last (A := fun q : Nat => A1 q ∨ q = ob) X dL_getIce_9 hat9 (Or.inr rfl) hS9 in01 (fun H2 locs2 hat2 oq2 hz2 hS2 => ?_)
  refine lv_goto (tgt := 17) hx hb dL_getIce_10 (by decide) ?_
  refine lv_iconst (v := 0) hx hb dL_getIce_17 (by decide) ?_
  exact e_i X hr dL_getIce_18 hS2 (Sum.inl u) rfl hp9 ⟨hat2, H1, hP9, hz2, oq2⟩ ⟨Nat.le_of_ble_eq_true rfl, Nat.le_of_ble_eq_true rfl⟩
abbrev rm_L_deck : Room := { frames := 8, cells := 2, slots := 12, locals := 133 }
set_option maxHeartbeats 4000000 in
theorem k_L_deck (l : Launch) (D : va_G) (tc : Nat → ClassId) (h0 : Nat) (sa : Nat → Nat) (H0 : Heap) (ob : Nat) (x1 : Int32) {S : Type} {A1 : Nat → Prop} {post : S → Prop} {POST : S → Heap → Prop} {rv : S → Option Value} {xpost : Nat → Prop} {ri : S → Int32} {f : Nat → Int64} {wa : Nat} {ar : Nat → Nat} {Ar : Nat → Prop} {sp : Option Nat} {ns np nf : Nat} {sd pd fd : Nat → Nat → Nat} {sums : Nat → Int64} {r : Dt} (hBr : Blk D tc Ar (shR wa sp ns np nf sd pd fd sums ar) ar r H0) (hM : MX l yX8_deck cX8_deck 3 (Option.some FieldType.int) rm_X8_deck A1 [.ref (ar 0), .int x1] D tc h0 sa H0 post POST rv xpost) (hrv : ∀ u, rv u = some (.int (ri u))) (ho : va_at D vwCl (ob, .inl (tc 3, 1, .inr (.inl f))) H0) (hoA : ¬ A1 ob) (hA0 : ∀ q, A1 q ∨ q = ob → h0 ≤ q) (hx : ∀ k, xpost k → k = 0 ∨ k = 4) : ML l yL_deck cL_deck 4 [(0, 9, 12, 13), (0, 9, 15, 34)] rm_L_deck (fun q : Nat => A1 q ∨ q = ob) [.ref (ar 0), .int x1, .ref ob] D tc h0 sa H0 (LPo post xpost) (LQo D tc ob f (fun u => (ri u).toInt64) POST H0) (LRo (fun k => xnum [0, 4] k 1)) := by
  refine ML.of RL [(0, .ref (ar 0)), (1, .int x1), (2, .ref ob)] (by decide +kernel) rfl (Nat.le_of_ble_eq_true rfl) rfl ?_
  intro p e s m below meth c ls X hN hr htab hT hH hS hl
  subst hH
  have hxx := hx
  have hx := X.1
  have hb := X.2.1
  have hoA2 := ho.lt
  refine lv_aload_n hx hb dL_deck_0 rfl (lv_at hl 2 rfl) ?_
  refine lv_iconst (v := 0) hx hb dL_deck_1 (by decide) ?_
  refine lv_aload_n hx hb dL_deck_2 rfl (lv_at hl 0 rfl) ?_
  refine lv_iload_n hx hb dL_deck_3 rfl (lv_at hl 1 rfl) ?_
  refine g_afterX (A := fun q : Nat => A1 q ∨ q = ob) (st0 := [.int x1, .ref (ar 0), .int 0, .ref ob]) (rest := [.int 0, .ref ob]) (g_VX X m_L_31 hM (hBr.recv X 0 rfl (q := (RX8, TX8, 9)) rfl) hT hS hA0 dL_deck_4 hl.1 rfl rfl ⟨Nat.le_of_ble_eq_true rfl, Nat.le_of_ble_eq_true rfl⟩ (Nat.le_of_ble_eq_true rfl) ⟨Nat.le_of_ble_eq_true rfl, Nat.le_of_ble_eq_true rfl⟩) hS (fun q h => Or.inl h) (fun u => [.int (ri u), .int 0, .ref ob]) (fun u => by rw [hrv u]; rfl) (fun k ce q9 H1 locs1 hx9 hz9 ho9 hS9 hce hcv hcl => ?_) (fun u H1 locs1 hp9 hP9 hz9 hk9 hS9 => ?_)
  · rcases hxx k hx9 with rfl | rfl
    · refine g_catch (k := 0) X htab [] [(0, 9, 15, 34)] (a := 0) (b9 := 9) (hp := 12) (ct := 13) rfl (fun z hz => absurd hz List.not_mem_nil) rfl (by decide) xl_13 xc_0 hce hcv hcl ?_
      refine lv_astore_n (lv' := [(3, .ref q9), (0, .ref (ar 0)), (1, .int x1), (2, .ref ob)]) hx hb dL_deck_12 rfl hl (by decide) rfl (fun ls hl => ?_)
      refine lv_iconst (v := 1) hx hb dL_deck_13 (by decide) ?_
      exact e_i X hr dL_deck_14 hS9 (Sum.inr 0) rfl hx9 ⟨ho.kept (ho9 ob hoA2), ho9⟩ ⟨Nat.le_of_ble_eq_true rfl, Nat.le_of_ble_eq_true rfl⟩
    · refine g_catch (k := 4) X htab [(0, 9, 12, 13)] [] (a := 0) (b9 := 9) (hp := 15) (ct := 34) rfl (List.forall_mem_cons.mpr ⟨⟨by decide, _, xl_13, hN 4 0 (by decide) (by decide) (by decide)⟩, (fun z hz => absurd hz List.not_mem_nil)⟩) rfl (by decide) xl_34 xc_4 hce hcv hcl ?_
      refine lv_astore_n (lv' := [(3, .ref q9), (0, .ref (ar 0)), (1, .int x1), (2, .ref ob)]) hx hb dL_deck_15 rfl hl (by decide) rfl (fun ls hl => ?_)
      refine lv_iconst (v := 2) hx hb dL_deck_16 (by decide) ?_
      exact e_i X hr dL_deck_17 hS9 (Sum.inr 4) rfl hx9 ⟨ho.kept (ho9 ob hoA2), ho9⟩ ⟨Nat.le_of_ble_eq_true rfl, Nat.le_of_ble_eq_true rfl⟩
  have hat9 := ho.kept (hk9 ob hoA2 hoA)
  refine lv_i2l (v := (ri u).toInt64) hx hb dL_deck_7 rfl ?_
  refine x_last (A := fun q : Nat => A1 q ∨ q = ob) X dL_deck_8 hat9 (Or.inr rfl) hS9 in01 (fun H2 locs2 hat2 oq2 hz2 hS2 => ?_)
  refine lv_goto (tgt := 18) hx hb dL_deck_9 (by decide) ?_
  refine lv_iconst (v := 0) hx hb dL_deck_18 (by decide) ?_
  exact e_i X hr dL_deck_19 hS2 (Sum.inl u) rfl hp9 ⟨hat2, H1, hP9, hz2, oq2⟩ ⟨Nat.le_of_ble_eq_true rfl, Nat.le_of_ble_eq_true rfl⟩
abbrev rm_L_setCore : Room := { frames := 8, cells := 1, slots := 6, locals := 134 }
set_option maxHeartbeats 4000000 in
theorem k_L_setCore (l : Launch) (D : va_G) (tc : Nat → ClassId) (h0 : Nat) (sa : Nat → Nat) (H0 : Heap) (ob : Nat) (x1 : Int32) {S : Type} {A1 : Nat → Prop} {post : S → Prop} {POST : S → Heap → Prop} {rv : S → Option Value} {xpost : Nat → Prop} {ri : S → Int32} {f : Nat → Int64} {wa : Nat} {ar : Nat → Nat} {Ar : Nat → Prop} {sp : Option Nat} {ns np nf : Nat} {sd pd fd : Nat → Nat → Nat} {sums : Nat → Int64} {r : Dt} (hBr : Blk D tc Ar (shR wa sp ns np nf sd pd fd sums ar) ar r H0) (hM : MX l yX8_setCore cX8_setCore 3 (Option.some FieldType.int) rm_X8_setCore A1 [.ref (ar 0), .int x1] D tc h0 sa H0 post POST rv xpost) (hrv : ∀ u, rv u = some (.int (ri u))) (ho : va_at D vwCl (ob, .inl (tc 3, 1, .inr (.inl f))) H0) (hoA : ¬ A1 ob) (hA0 : ∀ q, A1 q ∨ q = ob → h0 ≤ q) (hx : ∀ k, xpost k → k = 1) : ML l yL_setCore cL_setCore 4 [(0, 9, 12, 15)] rm_L_setCore (fun q : Nat => A1 q ∨ q = ob) [.ref (ar 0), .int x1, .ref ob] D tc h0 sa H0 (LPo post xpost) (LQo D tc ob f (fun u => (ri u).toInt64) POST H0) (LRo (fun k => xnum [1] k 1)) := by
  refine ML.of RL [(0, .ref (ar 0)), (1, .int x1), (2, .ref ob)] (by decide +kernel) rfl (Nat.le_of_ble_eq_true rfl) rfl ?_
  intro p e s m below meth c ls X hN hr htab hT hH hS hl
  subst hH
  have hxx := hx
  have hx := X.1
  have hb := X.2.1
  have hoA2 := ho.lt
  refine lv_aload_n hx hb dL_setCore_0 rfl (lv_at hl 2 rfl) ?_
  refine lv_iconst (v := 0) hx hb dL_setCore_1 (by decide) ?_
  refine lv_aload_n hx hb dL_setCore_2 rfl (lv_at hl 0 rfl) ?_
  refine lv_iload_n hx hb dL_setCore_3 rfl (lv_at hl 1 rfl) ?_
  refine g_afterX (A := fun q : Nat => A1 q ∨ q = ob) (st0 := [.int x1, .ref (ar 0), .int 0, .ref ob]) (rest := [.int 0, .ref ob]) (g_VX X m_L_36 hM (hBr.recv X 0 rfl (q := (RX8, TX8, 9)) rfl) hT hS hA0 dL_setCore_4 hl.1 rfl rfl ⟨Nat.le_of_ble_eq_true rfl, Nat.le_of_ble_eq_true rfl⟩ (Nat.le_of_ble_eq_true rfl) ⟨Nat.le_of_ble_eq_true rfl, Nat.le_of_ble_eq_true rfl⟩) hS (fun q h => Or.inl h) (fun u => [.int (ri u), .int 0, .ref ob]) (fun u => by rw [hrv u]; rfl) (fun k ce q9 H1 locs1 hx9 hz9 ho9 hS9 hce hcv hcl => ?_) (fun u H1 locs1 hp9 hP9 hz9 hk9 hS9 => ?_)
  · have ek := hxx k hx9
    subst ek
    refine g_catch (k := 1) X htab [] [] (a := 0) (b9 := 9) (hp := 12) (ct := 15) rfl (fun z hz => absurd hz List.not_mem_nil) rfl (by decide) xl_15 xc_1 hce hcv hcl ?_
    refine lv_astore_n (lv' := [(3, .ref q9), (0, .ref (ar 0)), (1, .int x1), (2, .ref ob)]) hx hb dL_setCore_12 rfl hl (by decide) rfl (fun ls hl => ?_)
    refine lv_iconst (v := 1) hx hb dL_setCore_13 (by decide) ?_
    exact e_i X hr dL_setCore_14 hS9 (Sum.inr 1) rfl hx9 ⟨ho.kept (ho9 ob hoA2), ho9⟩ ⟨Nat.le_of_ble_eq_true rfl, Nat.le_of_ble_eq_true rfl⟩
  have hat9 := ho.kept (hk9 ob hoA2 hoA)
  refine lv_i2l (v := (ri u).toInt64) hx hb dL_setCore_7 rfl ?_
  refine x_last (A := fun q : Nat => A1 q ∨ q = ob) X dL_setCore_8 hat9 (Or.inr rfl) hS9 in01 (fun H2 locs2 hat2 oq2 hz2 hS2 => ?_)
  refine lv_goto (tgt := 15) hx hb dL_setCore_9 (by decide) ?_
  refine lv_iconst (v := 0) hx hb dL_setCore_15 (by decide) ?_
  exact e_i X hr dL_setCore_16 hS2 (Sum.inl u) rfl hp9 ⟨hat2, H1, hP9, hz2, oq2⟩ ⟨Nat.le_of_ble_eq_true rfl, Nat.le_of_ble_eq_true rfl⟩
abbrev rm_L_pressure : Room := { frames := 8, cells := 1, slots := 6, locals := 134 }
set_option maxHeartbeats 4000000 in
theorem k_L_pressure (l : Launch) (D : va_G) (tc : Nat → ClassId) (h0 : Nat) (sa : Nat → Nat) (H0 : Heap) (ob : Nat) (x1 : Int32) {S : Type} {A1 : Nat → Prop} {post : S → Prop} {POST : S → Heap → Prop} {rv : S → Option Value} {xpost : Nat → Prop} {ri : S → UInt32} {f : Nat → UInt64} {wa : Nat} {ar : Nat → Nat} {Ar : Nat → Prop} {sp : Option Nat} {ns np nf : Nat} {sd pd fd : Nat → Nat → Nat} {sums : Nat → Int64} {r : Dt} (hBr : Blk D tc Ar (shR wa sp ns np nf sd pd fd sums ar) ar r H0) (hM : MX l yX8_pressure cX8_pressure 4 (Option.some FieldType.float) rm_X8_pressure A1 [.ref (ar 0), .int x1] D tc h0 sa H0 post POST rv xpost) (hrv : ∀ u, rv u = some (.float (ri u))) (hnn : ∀ u, post u → vf_n64 (FP.f2d (ri u))) (ho : va_at D vwCl (ob, .inl (tc 4, 1, .inr (.inr (.inr (.inl f))))) H0) (hoA : ¬ A1 ob) (hA0 : ∀ q, A1 q ∨ q = ob → h0 ≤ q) (hx : ∀ k, xpost k → k = 0) : ML l yL_pressure cL_pressure 4 [(0, 9, 12, 13)] rm_L_pressure (fun q : Nat => A1 q ∨ q = ob) [.ref (ar 0), .int x1, .ref ob] D tc h0 sa H0 (LPo post xpost) (LQdo D tc ob f (fun u => FP.f2d (ri u)) POST H0) (LRo (fun k => xnum [0] k 1)) := by
  refine ML.of RL [(0, .ref (ar 0)), (1, .int x1), (2, .ref ob)] (by decide +kernel) rfl (Nat.le_of_ble_eq_true rfl) rfl ?_
  intro p e s m below meth c ls X hN hr htab hT hH hS hl
  subst hH
  have hxx := hx
  have hx := X.1
  have hb := X.2.1
  have hoA2 := ho.lt
  refine lv_aload_n hx hb dL_pressure_0 rfl (lv_at hl 2 rfl) ?_
  refine lv_iconst (v := 0) hx hb dL_pressure_1 (by decide) ?_
  refine lv_aload_n hx hb dL_pressure_2 rfl (lv_at hl 0 rfl) ?_
  refine lv_iload_n hx hb dL_pressure_3 rfl (lv_at hl 1 rfl) ?_
  refine g_afterX (A := fun q : Nat => A1 q ∨ q = ob) (st0 := [.int x1, .ref (ar 0), .int 0, .ref ob]) (rest := [.int 0, .ref ob]) (g_VX X m_L_39 hM (hBr.recv X 0 rfl (q := (RX8, TX8, 9)) rfl) hT hS hA0 dL_pressure_4 hl.1 rfl rfl ⟨Nat.le_of_ble_eq_true rfl, Nat.le_of_ble_eq_true rfl⟩ (Nat.le_of_ble_eq_true rfl) ⟨Nat.le_of_ble_eq_true rfl, Nat.le_of_ble_eq_true rfl⟩) hS (fun q h => Or.inl h) (fun u => [.float (ri u), .int 0, .ref ob]) (fun u => by rw [hrv u]; rfl) (fun k ce q9 H1 locs1 hx9 hz9 ho9 hS9 hce hcv hcl => ?_) (fun u H1 locs1 hp9 hP9 hz9 hk9 hS9 => ?_)
  · have ek := hxx k hx9
    subst ek
    refine g_catch (k := 0) X htab [] [] (a := 0) (b9 := 9) (hp := 12) (ct := 13) rfl (fun z hz => absurd hz List.not_mem_nil) rfl (by decide) xl_13 xc_0 hce hcv hcl ?_
    refine lv_astore_n (lv' := [(3, .ref q9), (0, .ref (ar 0)), (1, .int x1), (2, .ref ob)]) hx hb dL_pressure_12 rfl hl (by decide) rfl (fun ls hl => ?_)
    refine lv_iconst (v := 1) hx hb dL_pressure_13 (by decide) ?_
    exact e_i X hr dL_pressure_14 hS9 (Sum.inr 0) rfl hx9 ⟨ho.kept (ho9 ob hoA2), ho9⟩ ⟨Nat.le_of_ble_eq_true rfl, Nat.le_of_ble_eq_true rfl⟩
  have hat9 := ho.kept (hk9 ob hoA2 hoA)
  refine lv_f2d hx hb dL_pressure_7 (hnn u hp9) ?_
  refine x_dast (A := fun q : Nat => A1 q ∨ q = ob) X dL_pressure_8 hat9 (Or.inr rfl) hS9 in01 (fun H2 locs2 hat2 oq2 hz2 hS2 => ?_)
  refine lv_goto (tgt := 15) hx hb dL_pressure_9 (by decide) ?_
  refine lv_iconst (v := 0) hx hb dL_pressure_15 (by decide) ?_
  exact e_i X hr dL_pressure_16 hS2 (Sum.inl u) rfl hp9 ⟨hat2, H1, hP9, hz2, oq2⟩ ⟨Nat.le_of_ble_eq_true rfl, Nat.le_of_ble_eq_true rfl⟩
abbrev rm_L_setTurning : Room := { frames := 8, cells := 2, slots := 12, locals := 134 }
set_option maxHeartbeats 4000000 in
theorem k_L_setTurning (l : Launch) (D : va_G) (tc : Nat → ClassId) (h0 : Nat) (sa : Nat → Nat) (H0 : Heap) (ob : Nat) (x1 : Int32) (x2 : Int32) {S : Type} {A1 : Nat → Prop} {post : S → Prop} {POST : S → Heap → Prop} {rv : S → Option Value} {xpost : Nat → Prop} {ri : S → Int32} {f : Nat → Int64} {wa : Nat} {ar : Nat → Nat} {Ar : Nat → Prop} {sp : Option Nat} {ns np nf : Nat} {sd pd fd : Nat → Nat → Nat} {sums : Nat → Int64} {r : Dt} (hBr : Blk D tc Ar (shR wa sp ns np nf sd pd fd sums ar) ar r H0) (hM : MX l yX8_setTurning cX8_setTurning 3 (Option.some FieldType.int) rm_X8_setTurning A1 [.ref (ar 0), .int x1, .int x2] D tc h0 sa H0 post POST rv xpost) (hrv : ∀ u, rv u = some (.int (ri u))) (ho : va_at D vwCl (ob, .inl (tc 3, 1, .inr (.inl f))) H0) (hoA : ¬ A1 ob) (hA0 : ∀ q, A1 q ∨ q = ob → h0 ≤ q) (hx : ∀ k, xpost k → k = 0 ∨ k = 1) : ML l yL_setTurning cL_setTurning 5 [(0, 10, 13, 13), (0, 10, 17, 15)] rm_L_setTurning (fun q : Nat => A1 q ∨ q = ob) [.ref (ar 0), .int x1, .int x2, .ref ob] D tc h0 sa H0 (LPo post xpost) (LQo D tc ob f (fun u => (ri u).toInt64) POST H0) (LRo (fun k => xnum [0, 1] k 1)) := by
  refine ML.of RL [(0, .ref (ar 0)), (1, .int x1), (2, .int x2), (3, .ref ob)] (by decide +kernel) rfl (Nat.le_of_ble_eq_true rfl) rfl ?_
  intro p e s m below meth c ls X hN hr htab hT hH hS hl
  subst hH
  have hxx := hx
  have hx := X.1
  have hb := X.2.1
  have hoA2 := ho.lt
  refine lv_aload_n hx hb dL_setTurning_0 rfl (lv_at hl 3 rfl) ?_
  refine lv_iconst (v := 0) hx hb dL_setTurning_1 (by decide) ?_
  refine lv_aload_n hx hb dL_setTurning_2 rfl (lv_at hl 0 rfl) ?_
  refine lv_iload_n hx hb dL_setTurning_3 rfl (lv_at hl 1 rfl) ?_
  refine lv_iload_n hx hb dL_setTurning_4 rfl (lv_at hl 2 rfl) ?_
  refine g_afterX (A := fun q : Nat => A1 q ∨ q = ob) (st0 := [.int x2, .int x1, .ref (ar 0), .int 0, .ref ob]) (rest := [.int 0, .ref ob]) (g_VX X m_L_43 hM (hBr.recv X 0 rfl (q := (RX8, TX8, 9)) rfl) hT hS hA0 dL_setTurning_5 hl.1 rfl rfl ⟨Nat.le_of_ble_eq_true rfl, Nat.le_of_ble_eq_true rfl⟩ (Nat.le_of_ble_eq_true rfl) ⟨Nat.le_of_ble_eq_true rfl, Nat.le_of_ble_eq_true rfl⟩) hS (fun q h => Or.inl h) (fun u => [.int (ri u), .int 0, .ref ob]) (fun u => by rw [hrv u]; rfl) (fun k ce q9 H1 locs1 hx9 hz9 ho9 hS9 hce hcv hcl => ?_) (fun u H1 locs1 hp9 hP9 hz9 hk9 hS9 => ?_)
  · rcases hxx k hx9 with rfl | rfl
    · refine g_catch (k := 0) X htab [] [(0, 10, 17, 15)] (a := 0) (b9 := 10) (hp := 13) (ct := 13) rfl (fun z hz => absurd hz List.not_mem_nil) rfl (by decide) xl_13 xc_0 hce hcv hcl ?_
      refine lv_astore (lv' := [(4, .ref q9), (0, .ref (ar 0)), (1, .int x1), (2, .int x2), (3, .ref ob)]) hx hb dL_setTurning_13 hl (by decide) rfl (fun ls hl => ?_)
      refine lv_iconst (v := 1) hx hb dL_setTurning_15 (by decide) ?_
      exact e_i X hr dL_setTurning_16 hS9 (Sum.inr 0) rfl hx9 ⟨ho.kept (ho9 ob hoA2), ho9⟩ ⟨Nat.le_of_ble_eq_true rfl, Nat.le_of_ble_eq_true rfl⟩
    · refine g_catch (k := 1) X htab [(0, 10, 13, 13)] [] (a := 0) (b9 := 10) (hp := 17) (ct := 15) rfl (List.forall_mem_cons.mpr ⟨⟨by decide, _, xl_13, hN 1 0 (by decide) (by decide) (by decide)⟩, (fun z hz => absurd hz List.not_mem_nil)⟩) rfl (by decide) xl_15 xc_1 hce hcv hcl ?_
      refine lv_astore (lv' := [(4, .ref q9), (0, .ref (ar 0)), (1, .int x1), (2, .int x2), (3, .ref ob)]) hx hb dL_setTurning_17 hl (by decide) rfl (fun ls hl => ?_)
      refine lv_iconst (v := 2) hx hb dL_setTurning_19 (by decide) ?_
      exact e_i X hr dL_setTurning_20 hS9 (Sum.inr 1) rfl hx9 ⟨ho.kept (ho9 ob hoA2), ho9⟩ ⟨Nat.le_of_ble_eq_true rfl, Nat.le_of_ble_eq_true rfl⟩
  have hat9 := ho.kept (hk9 ob hoA2 hoA)
  refine lv_i2l (v := (ri u).toInt64) hx hb dL_setTurning_8 rfl ?_
  refine x_last (A := fun q : Nat => A1 q ∨ q = ob) X dL_setTurning_9 hat9 (Or.inr rfl) hS9 in01 (fun H2 locs2 hat2 oq2 hz2 hS2 => ?_)
  refine lv_goto (tgt := 21) hx hb dL_setTurning_10 (by decide) ?_
  refine lv_iconst (v := 0) hx hb dL_setTurning_21 (by decide) ?_
  exact e_i X hr dL_setTurning_22 hS2 (Sum.inl u) rfl hp9 ⟨hat2, H1, hP9, hz2, oq2⟩ ⟨Nat.le_of_ble_eq_true rfl, Nat.le_of_ble_eq_true rfl⟩
abbrev rm_L_getTurning : Room := { frames := 8, cells := 1, slots := 6, locals := 132 }
set_option maxHeartbeats 4000000 in
theorem k_L_getTurning (l : Launch) (D : va_G) (tc : Nat → ClassId) (h0 : Nat) (sa : Nat → Nat) (H0 : Heap) (ob : Nat) (x1 : Int32) {S : Type} {A1 : Nat → Prop} {post : S → Prop} {POST : S → Heap → Prop} {rv : S → Option Value} {xpost : Nat → Prop} {ri : S → Int32} {f : Nat → Int64} {wa : Nat} {ar : Nat → Nat} {Ar : Nat → Prop} {sp : Option Nat} {ns np nf : Nat} {sd pd fd : Nat → Nat → Nat} {sums : Nat → Int64} {r : Dt} (hBr : Blk D tc Ar (shR wa sp ns np nf sd pd fd sums ar) ar r H0) (hM : MX l yX8_getTurning cX8_getTurning 2 (Option.some FieldType.int) rm_X8_getTurning A1 [.ref (ar 0), .int x1] D tc h0 sa H0 post POST rv xpost) (hrv : ∀ u, rv u = some (.int (ri u))) (ho : va_at D vwCl (ob, .inl (tc 3, 1, .inr (.inl f))) H0) (hoA : ¬ A1 ob) (hA0 : ∀ q, A1 q ∨ q = ob → h0 ≤ q) (hx : ∀ k, xpost k → k = 0) : ML l yL_getTurning cL_getTurning 4 [(0, 9, 12, 13)] rm_L_getTurning (fun q : Nat => A1 q ∨ q = ob) [.ref (ar 0), .int x1, .ref ob] D tc h0 sa H0 (LPo post xpost) (LQo D tc ob f (fun u => (ri u).toInt64) POST H0) (LRo (fun k => xnum [0] k 1)) := by
  refine ML.of RL [(0, .ref (ar 0)), (1, .int x1), (2, .ref ob)] (by decide +kernel) rfl (Nat.le_of_ble_eq_true rfl) rfl ?_
  intro p e s m below meth c ls X hN hr htab hT hH hS hl
  subst hH
  have hxx := hx
  have hx := X.1
  have hb := X.2.1
  have hoA2 := ho.lt
  refine lv_aload_n hx hb dL_getTurning_0 rfl (lv_at hl 2 rfl) ?_
  refine lv_iconst (v := 0) hx hb dL_getTurning_1 (by decide) ?_
  refine lv_aload_n hx hb dL_getTurning_2 rfl (lv_at hl 0 rfl) ?_
  refine lv_iload_n hx hb dL_getTurning_3 rfl (lv_at hl 1 rfl) ?_
  refine g_afterX (A := fun q : Nat => A1 q ∨ q = ob) (st0 := [.int x1, .ref (ar 0), .int 0, .ref ob]) (rest := [.int 0, .ref ob]) (g_VX X m_L_46 hM (hBr.recv X 0 rfl (q := (RX8, TX8, 9)) rfl) hT hS hA0 dL_getTurning_4 hl.1 rfl rfl ⟨Nat.le_of_ble_eq_true rfl, Nat.le_of_ble_eq_true rfl⟩ (Nat.le_of_ble_eq_true rfl) ⟨Nat.le_of_ble_eq_true rfl, Nat.le_of_ble_eq_true rfl⟩) hS (fun q h => Or.inl h) (fun u => [.int (ri u), .int 0, .ref ob]) (fun u => by rw [hrv u]; rfl) (fun k ce q9 H1 locs1 hx9 hz9 ho9 hS9 hce hcv hcl => ?_) (fun u H1 locs1 hp9 hP9 hz9 hk9 hS9 => ?_)
  · have ek := hxx k hx9
    subst ek
    refine g_catch (k := 0) X htab [] [] (a := 0) (b9 := 9) (hp := 12) (ct := 13) rfl (fun z hz => absurd hz List.not_mem_nil) rfl (by decide) xl_13 xc_0 hce hcv hcl ?_
    refine lv_astore_n (lv' := [(3, .ref q9), (0, .ref (ar 0)), (1, .int x1), (2, .ref ob)]) hx hb dL_getTurning_12 rfl hl (by decide) rfl (fun ls hl => ?_)
    refine lv_iconst (v := 1) hx hb dL_getTurning_13 (by decide) ?_
    exact e_i X hr dL_getTurning_14 hS9 (Sum.inr 0) rfl hx9 ⟨ho.kept (ho9 ob hoA2), ho9⟩ ⟨Nat.le_of_ble_eq_true rfl, Nat.le_of_ble_eq_true rfl⟩
  have hat9 := ho.kept (hk9 ob hoA2 hoA)
  refine lv_i2l (v := (ri u).toInt64) hx hb dL_getTurning_7 rfl ?_
  refine x_last (A := fun q : Nat => A1 q ∨ q = ob) X dL_getTurning_8 hat9 (Or.inr rfl) hS9 in01 (fun H2 locs2 hat2 oq2 hz2 hS2 => ?_)
  refine lv_goto (tgt := 15) hx hb dL_getTurning_9 (by decide) ?_
  refine lv_iconst (v := 0) hx hb dL_getTurning_15 (by decide) ?_
  exact e_i X hr dL_getTurning_16 hS2 (Sum.inl u) rfl hp9 ⟨hat2, H1, hP9, hz2, oq2⟩ ⟨Nat.le_of_ble_eq_true rfl, Nat.le_of_ble_eq_true rfl⟩
abbrev rm_L_getWind : Room := { frames := 8, cells := 1, slots := 6, locals := 132 }
set_option maxHeartbeats 4000000 in
theorem k_L_getWind (l : Launch) (D : va_G) (tc : Nat → ClassId) (h0 : Nat) (sa : Nat → Nat) (H0 : Heap) (ob : Nat) (x1 : Int32) {S : Type} {A1 : Nat → Prop} {post : S → Prop} {POST : S → Heap → Prop} {rv : S → Option Value} {xpost : Nat → Prop} {ri : S → Int32} {f : Nat → Int64} {wa : Nat} {ar : Nat → Nat} {Ar : Nat → Prop} {sp : Option Nat} {ns np nf : Nat} {sd pd fd : Nat → Nat → Nat} {sums : Nat → Int64} {r : Dt} (hBr : Blk D tc Ar (shR wa sp ns np nf sd pd fd sums ar) ar r H0) (hM : MX l yX8_getWind cX8_getWind 2 (Option.some FieldType.int) rm_X8_getWind A1 [.ref (ar 0), .int x1] D tc h0 sa H0 post POST rv xpost) (hrv : ∀ u, rv u = some (.int (ri u))) (ho : va_at D vwCl (ob, .inl (tc 3, 1, .inr (.inl f))) H0) (hoA : ¬ A1 ob) (hA0 : ∀ q, A1 q ∨ q = ob → h0 ≤ q) (hx : ∀ k, xpost k → k = 0) : ML l yL_getWind cL_getWind 4 [(0, 9, 12, 13)] rm_L_getWind (fun q : Nat => A1 q ∨ q = ob) [.ref (ar 0), .int x1, .ref ob] D tc h0 sa H0 (LPo post xpost) (LQo D tc ob f (fun u => (ri u).toInt64) POST H0) (LRo (fun k => xnum [0] k 1)) := by
  refine ML.of RL [(0, .ref (ar 0)), (1, .int x1), (2, .ref ob)] (by decide +kernel) rfl (Nat.le_of_ble_eq_true rfl) rfl ?_
  intro p e s m below meth c ls X hN hr htab hT hH hS hl
  subst hH
  have hxx := hx
  have hx := X.1
  have hb := X.2.1
  have hoA2 := ho.lt
  refine lv_aload_n hx hb dL_getWind_0 rfl (lv_at hl 2 rfl) ?_
  refine lv_iconst (v := 0) hx hb dL_getWind_1 (by decide) ?_
  refine lv_aload_n hx hb dL_getWind_2 rfl (lv_at hl 0 rfl) ?_
  refine lv_iload_n hx hb dL_getWind_3 rfl (lv_at hl 1 rfl) ?_
  refine g_afterX (A := fun q : Nat => A1 q ∨ q = ob) (st0 := [.int x1, .ref (ar 0), .int 0, .ref ob]) (rest := [.int 0, .ref ob]) (g_VX X m_L_49 hM (hBr.recv X 0 rfl (q := (RX8, TX8, 9)) rfl) hT hS hA0 dL_getWind_4 hl.1 rfl rfl ⟨Nat.le_of_ble_eq_true rfl, Nat.le_of_ble_eq_true rfl⟩ (Nat.le_of_ble_eq_true rfl) ⟨Nat.le_of_ble_eq_true rfl, Nat.le_of_ble_eq_true rfl⟩) hS (fun q h => Or.inl h) (fun u => [.int (ri u), .int 0, .ref ob]) (fun u => by rw [hrv u]; rfl) (fun k ce q9 H1 locs1 hx9 hz9 ho9 hS9 hce hcv hcl => ?_) (fun u H1 locs1 hp9 hP9 hz9 hk9 hS9 => ?_)
  · have ek := hxx k hx9
    subst ek
    refine g_catch (k := 0) X htab [] [] (a := 0) (b9 := 9) (hp := 12) (ct := 13) rfl (fun z hz => absurd hz List.not_mem_nil) rfl (by decide) xl_13 xc_0 hce hcv hcl ?_
    refine lv_astore_n (lv' := [(3, .ref q9), (0, .ref (ar 0)), (1, .int x1), (2, .ref ob)]) hx hb dL_getWind_12 rfl hl (by decide) rfl (fun ls hl => ?_)
    refine lv_iconst (v := 1) hx hb dL_getWind_13 (by decide) ?_
    exact e_i X hr dL_getWind_14 hS9 (Sum.inr 0) rfl hx9 ⟨ho.kept (ho9 ob hoA2), ho9⟩ ⟨Nat.le_of_ble_eq_true rfl, Nat.le_of_ble_eq_true rfl⟩
  have hat9 := ho.kept (hk9 ob hoA2 hoA)
  refine lv_i2l (v := (ri u).toInt64) hx hb dL_getWind_7 rfl ?_
  refine x_last (A := fun q : Nat => A1 q ∨ q = ob) X dL_getWind_8 hat9 (Or.inr rfl) hS9 in01 (fun H2 locs2 hat2 oq2 hz2 hS2 => ?_)
  refine lv_goto (tgt := 15) hx hb dL_getWind_9 (by decide) ?_
  refine lv_iconst (v := 0) hx hb dL_getWind_15 (by decide) ?_
  exact e_i X hr dL_getWind_16 hS2 (Sum.inl u) rfl hp9 ⟨hat2, H1, hP9, hz2, oq2⟩ ⟨Nat.le_of_ble_eq_true rfl, Nat.le_of_ble_eq_true rfl⟩
abbrev rm_L_getShear : Room := { frames := 8, cells := 1, slots := 6, locals := 132 }
set_option maxHeartbeats 4000000 in
theorem k_L_getShear (l : Launch) (D : va_G) (tc : Nat → ClassId) (h0 : Nat) (sa : Nat → Nat) (H0 : Heap) (ob : Nat) (x1 : Int32) {S : Type} {A1 : Nat → Prop} {post : S → Prop} {POST : S → Heap → Prop} {rv : S → Option Value} {xpost : Nat → Prop} {ri : S → Int32} {f : Nat → Int64} {wa : Nat} {ar : Nat → Nat} {Ar : Nat → Prop} {sp : Option Nat} {ns np nf : Nat} {sd pd fd : Nat → Nat → Nat} {sums : Nat → Int64} {r : Dt} (hBr : Blk D tc Ar (shR wa sp ns np nf sd pd fd sums ar) ar r H0) (hM : MX l yX8_getShear cX8_getShear 2 (Option.some FieldType.int) rm_X8_getShear A1 [.ref (ar 0), .int x1] D tc h0 sa H0 post POST rv xpost) (hrv : ∀ u, rv u = some (.int (ri u))) (ho : va_at D vwCl (ob, .inl (tc 3, 1, .inr (.inl f))) H0) (hoA : ¬ A1 ob) (hA0 : ∀ q, A1 q ∨ q = ob → h0 ≤ q) (hx : ∀ k, xpost k → k = 0) : ML l yL_getShear cL_getShear 4 [(0, 9, 12, 13)] rm_L_getShear (fun q : Nat => A1 q ∨ q = ob) [.ref (ar 0), .int x1, .ref ob] D tc h0 sa H0 (LPo post xpost) (LQo D tc ob f (fun u => (ri u).toInt64) POST H0) (LRo (fun k => xnum [0] k 1)) := by
  refine ML.of RL [(0, .ref (ar 0)), (1, .int x1), (2, .ref ob)] (by decide +kernel) rfl (Nat.le_of_ble_eq_true rfl) rfl ?_
  intro p e s m below meth c ls X hN hr htab hT hH hS hl
  subst hH
  have hxx := hx
  have hx := X.1
  have hb := X.2.1
  have hoA2 := ho.lt
  refine lv_aload_n hx hb dL_getShear_0 rfl (lv_at hl 2 rfl) ?_
  refine lv_iconst (v := 0) hx hb dL_getShear_1 (by decide) ?_
  refine lv_aload_n hx hb dL_getShear_2 rfl (lv_at hl 0 rfl) ?_
  refine lv_iload_n hx hb dL_getShear_3 rfl (lv_at hl 1 rfl) ?_
  refine g_afterX (A := fun q : Nat => A1 q ∨ q = ob) (st0 := [.int x1, .ref (ar 0), .int 0, .ref ob]) (rest := [.int 0, .ref ob]) (g_VX X m_L_52 hM (hBr.recv X 0 rfl (q := (RX8, TX8, 9)) rfl) hT hS hA0 dL_getShear_4 hl.1 rfl rfl ⟨Nat.le_of_ble_eq_true rfl, Nat.le_of_ble_eq_true rfl⟩ (Nat.le_of_ble_eq_true rfl) ⟨Nat.le_of_ble_eq_true rfl, Nat.le_of_ble_eq_true rfl⟩) hS (fun q h => Or.inl h) (fun u => [.int (ri u), .int 0, .ref ob]) (fun u => by rw [hrv u]; rfl) (fun k ce q9 H1 locs1 hx9 hz9 ho9 hS9 hce hcv hcl => ?_) (fun u H1 locs1 hp9 hP9 hz9 hk9 hS9 => ?_)
  · have ek := hxx k hx9
    subst ek
    refine g_catch (k := 0) X htab [] [] (a := 0) (b9 := 9) (hp := 12) (ct := 13) rfl (fun z hz => absurd hz List.not_mem_nil) rfl (by decide) xl_13 xc_0 hce hcv hcl ?_
    refine lv_astore_n (lv' := [(3, .ref q9), (0, .ref (ar 0)), (1, .int x1), (2, .ref ob)]) hx hb dL_getShear_12 rfl hl (by decide) rfl (fun ls hl => ?_)
    refine lv_iconst (v := 1) hx hb dL_getShear_13 (by decide) ?_
    exact e_i X hr dL_getShear_14 hS9 (Sum.inr 0) rfl hx9 ⟨ho.kept (ho9 ob hoA2), ho9⟩ ⟨Nat.le_of_ble_eq_true rfl, Nat.le_of_ble_eq_true rfl⟩
  have hat9 := ho.kept (hk9 ob hoA2 hoA)
  refine lv_i2l (v := (ri u).toInt64) hx hb dL_getShear_7 rfl ?_
  refine x_last (A := fun q : Nat => A1 q ∨ q = ob) X dL_getShear_8 hat9 (Or.inr rfl) hS9 in01 (fun H2 locs2 hat2 oq2 hz2 hS2 => ?_)
  refine lv_goto (tgt := 15) hx hb dL_getShear_9 (by decide) ?_
  refine lv_iconst (v := 0) hx hb dL_getShear_15 (by decide) ?_
  exact e_i X hr dL_getShear_16 hS2 (Sum.inl u) rfl hp9 ⟨hat2, H1, hP9, hz2, oq2⟩ ⟨Nat.le_of_ble_eq_true rfl, Nat.le_of_ble_eq_true rfl⟩
abbrev rm_L_stir : Room := { frames := 8, cells := 3, slots := 18, locals := 135 }
set_option maxHeartbeats 4000000 in
theorem k_L_stir (l : Launch) (D : va_G) (tc : Nat → ClassId) (h0 : Nat) (sa : Nat → Nat) (H0 : Heap) (ob : Nat) (x1 : Int32) (x2 : Int32) (x3 : Int32) {S : Type} {A1 : Nat → Prop} {post : S → Prop} {POST : S → Heap → Prop} {rv : S → Option Value} {xpost : Nat → Prop} {ri : S → Int32} {f : Nat → Int64} {wa : Nat} {ar : Nat → Nat} {Ar : Nat → Prop} {sp : Option Nat} {ns np nf : Nat} {sd pd fd : Nat → Nat → Nat} {sums : Nat → Int64} {r : Dt} (hBr : Blk D tc Ar (shR wa sp ns np nf sd pd fd sums ar) ar r H0) (hM : MX l yX8_stir cX8_stir 4 (Option.some FieldType.int) rm_X8_stir A1 [.ref (ar 0), .int x1, .int x2, .int x3] D tc h0 sa H0 post POST rv xpost) (hrv : ∀ u, rv u = some (.int (ri u))) (ho : va_at D vwCl (ob, .inl (tc 3, 1, .inr (.inl f))) H0) (hoA : ¬ A1 ob) (hA0 : ∀ q, A1 q ∨ q = ob → h0 ≤ q) (hx : ∀ k, xpost k → k = 0 ∨ k = 1) : ML l yL_stir cL_stir 6 [(0, 12, 15, 13), (0, 12, 19, 15)] rm_L_stir (fun q : Nat => A1 q ∨ q = ob) [.ref (ar 0), .int x1, .int x2, .int x3, .ref ob] D tc h0 sa H0 (LPo post xpost) (LQo D tc ob f (fun u => (ri u).toInt64) POST H0) (LRo (fun k => xnum [0, 1] k 1)) := by
  refine ML.of RL [(0, .ref (ar 0)), (1, .int x1), (2, .int x2), (3, .int x3), (4, .ref ob)] (by decide +kernel) rfl (Nat.le_of_ble_eq_true rfl) rfl ?_
  intro p e s m below meth c ls X hN hr htab hT hH hS hl
  subst hH
  have hxx := hx
  have hx := X.1
  have hb := X.2.1
  have hoA2 := ho.lt
  refine lv_aload hx hb dL_stir_0 (lv_at hl 4 rfl) ?_
  refine lv_iconst (v := 0) hx hb dL_stir_2 (by decide) ?_
  refine lv_aload_n hx hb dL_stir_3 rfl (lv_at hl 0 rfl) ?_
  refine lv_iload_n hx hb dL_stir_4 rfl (lv_at hl 1 rfl) ?_
  refine lv_iload_n hx hb dL_stir_5 rfl (lv_at hl 2 rfl) ?_
  refine lv_iload_n hx hb dL_stir_6 rfl (lv_at hl 3 rfl) ?_
  refine g_afterX (A := fun q : Nat => A1 q ∨ q = ob) (st0 := [.int x3, .int x2, .int x1, .ref (ar 0), .int 0, .ref ob]) (rest := [.int 0, .ref ob]) (g_VX X m_L_55 hM (hBr.recv X 0 rfl (q := (RX8, TX8, 9)) rfl) hT hS hA0 dL_stir_7 hl.1 rfl rfl ⟨Nat.le_of_ble_eq_true rfl, Nat.le_of_ble_eq_true rfl⟩ (Nat.le_of_ble_eq_true rfl) ⟨Nat.le_of_ble_eq_true rfl, Nat.le_of_ble_eq_true rfl⟩) hS (fun q h => Or.inl h) (fun u => [.int (ri u), .int 0, .ref ob]) (fun u => by rw [hrv u]; rfl) (fun k ce q9 H1 locs1 hx9 hz9 ho9 hS9 hce hcv hcl => ?_) (fun u H1 locs1 hp9 hP9 hz9 hk9 hS9 => ?_)
  · rcases hxx k hx9 with rfl | rfl
    · refine g_catch (k := 0) X htab [] [(0, 12, 19, 15)] (a := 0) (b9 := 12) (hp := 15) (ct := 13) rfl (fun z hz => absurd hz List.not_mem_nil) rfl (by decide) xl_13 xc_0 hce hcv hcl ?_
      refine lv_astore (lv' := [(5, .ref q9), (0, .ref (ar 0)), (1, .int x1), (2, .int x2), (3, .int x3), (4, .ref ob)]) hx hb dL_stir_15 hl (by decide) rfl (fun ls hl => ?_)
      refine lv_iconst (v := 1) hx hb dL_stir_17 (by decide) ?_
      exact e_i X hr dL_stir_18 hS9 (Sum.inr 0) rfl hx9 ⟨ho.kept (ho9 ob hoA2), ho9⟩ ⟨Nat.le_of_ble_eq_true rfl, Nat.le_of_ble_eq_true rfl⟩
    · refine g_catch (k := 1) X htab [(0, 12, 15, 13)] [] (a := 0) (b9 := 12) (hp := 19) (ct := 15) rfl (List.forall_mem_cons.mpr ⟨⟨by decide, _, xl_13, hN 1 0 (by decide) (by decide) (by decide)⟩, (fun z hz => absurd hz List.not_mem_nil)⟩) rfl (by decide) xl_15 xc_1 hce hcv hcl ?_
      refine lv_astore (lv' := [(5, .ref q9), (0, .ref (ar 0)), (1, .int x1), (2, .int x2), (3, .int x3), (4, .ref ob)]) hx hb dL_stir_19 hl (by decide) rfl (fun ls hl => ?_)
      refine lv_iconst (v := 2) hx hb dL_stir_21 (by decide) ?_
      exact e_i X hr dL_stir_22 hS9 (Sum.inr 1) rfl hx9 ⟨ho.kept (ho9 ob hoA2), ho9⟩ ⟨Nat.le_of_ble_eq_true rfl, Nat.le_of_ble_eq_true rfl⟩
  have hat9 := ho.kept (hk9 ob hoA2 hoA)
  refine lv_i2l (v := (ri u).toInt64) hx hb dL_stir_10 rfl ?_
  refine x_last (A := fun q : Nat => A1 q ∨ q = ob) X dL_stir_11 hat9 (Or.inr rfl) hS9 in01 (fun H2 locs2 hat2 oq2 hz2 hS2 => ?_)
  refine lv_goto (tgt := 23) hx hb dL_stir_12 (by decide) ?_
  refine lv_iconst (v := 0) hx hb dL_stir_23 (by decide) ?_
  exact e_i X hr dL_stir_24 hS2 (Sum.inl u) rfl hp9 ⟨hat2, H1, hP9, hz2, oq2⟩ ⟨Nat.le_of_ble_eq_true rfl, Nat.le_of_ble_eq_true rfl⟩
abbrev rm_L_setDrag : Room := { frames := 8, cells := 1, slots := 6, locals := 134 }
set_option maxHeartbeats 4000000 in
theorem k_L_setDrag (l : Launch) (D : va_G) (tc : Nat → ClassId) (h0 : Nat) (sa : Nat → Nat) (H0 : Heap) (ob : Nat) (x1 : Int32) {S : Type} {A1 : Nat → Prop} {post : S → Prop} {POST : S → Heap → Prop} {rv : S → Option Value} {xpost : Nat → Prop} {ri : S → Int32} {f : Nat → Int64} {wa : Nat} {ar : Nat → Nat} {Ar : Nat → Prop} {sp : Option Nat} {ns np nf : Nat} {sd pd fd : Nat → Nat → Nat} {sums : Nat → Int64} {r : Dt} (hBr : Blk D tc Ar (shR wa sp ns np nf sd pd fd sums ar) ar r H0) (hM : MX l yX8_setDrag cX8_setDrag 3 (Option.some FieldType.int) rm_X8_setDrag A1 [.ref (ar 0), .int x1] D tc h0 sa H0 post POST rv xpost) (hrv : ∀ u, rv u = some (.int (ri u))) (ho : va_at D vwCl (ob, .inl (tc 3, 1, .inr (.inl f))) H0) (hoA : ¬ A1 ob) (hA0 : ∀ q, A1 q ∨ q = ob → h0 ≤ q) (hx : ∀ k, xpost k → k = 1) : ML l yL_setDrag cL_setDrag 4 [(0, 9, 12, 15)] rm_L_setDrag (fun q : Nat => A1 q ∨ q = ob) [.ref (ar 0), .int x1, .ref ob] D tc h0 sa H0 (LPo post xpost) (LQo D tc ob f (fun u => (ri u).toInt64) POST H0) (LRo (fun k => xnum [1] k 1)) := by
  refine ML.of RL [(0, .ref (ar 0)), (1, .int x1), (2, .ref ob)] (by decide +kernel) rfl (Nat.le_of_ble_eq_true rfl) rfl ?_
  intro p e s m below meth c ls X hN hr htab hT hH hS hl
  subst hH
  have hxx := hx
  have hx := X.1
  have hb := X.2.1
  have hoA2 := ho.lt
  refine lv_aload_n hx hb dL_setDrag_0 rfl (lv_at hl 2 rfl) ?_
  refine lv_iconst (v := 0) hx hb dL_setDrag_1 (by decide) ?_
  refine lv_aload_n hx hb dL_setDrag_2 rfl (lv_at hl 0 rfl) ?_
  refine lv_iload_n hx hb dL_setDrag_3 rfl (lv_at hl 1 rfl) ?_
  refine g_afterX (A := fun q : Nat => A1 q ∨ q = ob) (st0 := [.int x1, .ref (ar 0), .int 0, .ref ob]) (rest := [.int 0, .ref ob]) (g_VX X m_L_58 hM (hBr.recv X 0 rfl (q := (RX8, TX8, 9)) rfl) hT hS hA0 dL_setDrag_4 hl.1 rfl rfl ⟨Nat.le_of_ble_eq_true rfl, Nat.le_of_ble_eq_true rfl⟩ (Nat.le_of_ble_eq_true rfl) ⟨Nat.le_of_ble_eq_true rfl, Nat.le_of_ble_eq_true rfl⟩) hS (fun q h => Or.inl h) (fun u => [.int (ri u), .int 0, .ref ob]) (fun u => by rw [hrv u]; rfl) (fun k ce q9 H1 locs1 hx9 hz9 ho9 hS9 hce hcv hcl => ?_) (fun u H1 locs1 hp9 hP9 hz9 hk9 hS9 => ?_)
  · have ek := hxx k hx9
    subst ek
    refine g_catch (k := 1) X htab [] [] (a := 0) (b9 := 9) (hp := 12) (ct := 15) rfl (fun z hz => absurd hz List.not_mem_nil) rfl (by decide) xl_15 xc_1 hce hcv hcl ?_
    refine lv_astore_n (lv' := [(3, .ref q9), (0, .ref (ar 0)), (1, .int x1), (2, .ref ob)]) hx hb dL_setDrag_12 rfl hl (by decide) rfl (fun ls hl => ?_)
    refine lv_iconst (v := 1) hx hb dL_setDrag_13 (by decide) ?_
    exact e_i X hr dL_setDrag_14 hS9 (Sum.inr 1) rfl hx9 ⟨ho.kept (ho9 ob hoA2), ho9⟩ ⟨Nat.le_of_ble_eq_true rfl, Nat.le_of_ble_eq_true rfl⟩
  have hat9 := ho.kept (hk9 ob hoA2 hoA)
  refine lv_i2l (v := (ri u).toInt64) hx hb dL_setDrag_7 rfl ?_
  refine x_last (A := fun q : Nat => A1 q ∨ q = ob) X dL_setDrag_8 hat9 (Or.inr rfl) hS9 in01 (fun H2 locs2 hat2 oq2 hz2 hS2 => ?_)
  refine lv_goto (tgt := 15) hx hb dL_setDrag_9 (by decide) ?_
  refine lv_iconst (v := 0) hx hb dL_setDrag_15 (by decide) ?_
  exact e_i X hr dL_setDrag_16 hS2 (Sum.inl u) rfl hp9 ⟨hat2, H1, hP9, hz2, oq2⟩ ⟨Nat.le_of_ble_eq_true rfl, Nat.le_of_ble_eq_true rfl⟩
abbrev rm_L_addStorm : Room := { frames := 9, cells := 4, slots := 24, locals := 155 }
set_option maxHeartbeats 4000000 in
theorem k_L_addStorm (l : Launch) (D : va_G) (tc : Nat → ClassId) (h0 : Nat) (sa : Nat → Nat) (H0 : Heap) (ob : Nat) (x1 : Int32) (x2 : Int32) (x3 : Int32) {S : Type} {A1 : Nat → Prop} {post : S → Prop} {POST : S → Heap → Prop} {rv : S → Option Value} {xpost : Nat → Prop} {ri : S → Int32} {f : Nat → Int64} {wa : Nat} {ar : Nat → Nat} {Ar : Nat → Prop} {sp : Option Nat} {ns np nf : Nat} {sd pd fd : Nat → Nat → Nat} {sums : Nat → Int64} {r : Dt} (hBr : Blk D tc Ar (shR wa sp ns np nf sd pd fd sums ar) ar r H0) (hM : MX l yX8_addStorm cX8_addStorm 4 (Option.some FieldType.int) rm_X8_addStorm A1 [.ref (ar 0), .int x1, .int x2, .int x3] D tc h0 sa H0 post POST rv xpost) (hrv : ∀ u, rv u = some (.int (ri u))) (ho : va_at D vwCl (ob, .inl (tc 3, 1, .inr (.inl f))) H0) (hoA : ¬ A1 ob) (hA0 : ∀ q, A1 q ∨ q = ob → h0 ≤ q) (hx : ∀ k, xpost k → k = 0 ∨ k = 1 ∨ k = 2) : ML l yL_addStorm cL_addStorm 6 [(0, 12, 15, 13), (0, 12, 19, 15), (0, 12, 23, 64)] rm_L_addStorm (fun q : Nat => A1 q ∨ q = ob) [.ref (ar 0), .int x1, .int x2, .int x3, .ref ob] D tc h0 sa H0 (LPo post xpost) (LQo D tc ob f (fun u => (ri u).toInt64) POST H0) (LRo (fun k => xnum [0, 1, 2] k 1)) := by
  refine ML.of RL [(0, .ref (ar 0)), (1, .int x1), (2, .int x2), (3, .int x3), (4, .ref ob)] (by decide +kernel) rfl (Nat.le_of_ble_eq_true rfl) rfl ?_
  intro p e s m below meth c ls X hN hr htab hT hH hS hl
  subst hH
  have hxx := hx
  have hx := X.1
  have hb := X.2.1
  have hoA2 := ho.lt
  refine lv_aload hx hb dL_addStorm_0 (lv_at hl 4 rfl) ?_
  refine lv_iconst (v := 0) hx hb dL_addStorm_2 (by decide) ?_
  refine lv_aload_n hx hb dL_addStorm_3 rfl (lv_at hl 0 rfl) ?_
  refine lv_iload_n hx hb dL_addStorm_4 rfl (lv_at hl 1 rfl) ?_
  refine lv_iload_n hx hb dL_addStorm_5 rfl (lv_at hl 2 rfl) ?_
  refine lv_iload_n hx hb dL_addStorm_6 rfl (lv_at hl 3 rfl) ?_
  refine g_afterX (A := fun q : Nat => A1 q ∨ q = ob) (st0 := [.int x3, .int x2, .int x1, .ref (ar 0), .int 0, .ref ob]) (rest := [.int 0, .ref ob]) (g_VX X m_L_61 hM (hBr.recv X 0 rfl (q := (RX8, TX8, 9)) rfl) hT hS hA0 dL_addStorm_7 hl.1 rfl rfl ⟨Nat.le_of_ble_eq_true rfl, Nat.le_of_ble_eq_true rfl⟩ (Nat.le_of_ble_eq_true rfl) ⟨Nat.le_of_ble_eq_true rfl, Nat.le_of_ble_eq_true rfl⟩) hS (fun q h => Or.inl h) (fun u => [.int (ri u), .int 0, .ref ob]) (fun u => by rw [hrv u]; rfl) (fun k ce q9 H1 locs1 hx9 hz9 ho9 hS9 hce hcv hcl => ?_) (fun u H1 locs1 hp9 hP9 hz9 hk9 hS9 => ?_)
  · rcases hxx k hx9 with rfl | rfl | rfl
    · refine g_catch (k := 0) X htab [] [(0, 12, 19, 15), (0, 12, 23, 64)] (a := 0) (b9 := 12) (hp := 15) (ct := 13) rfl (fun z hz => absurd hz List.not_mem_nil) rfl (by decide) xl_13 xc_0 hce hcv hcl ?_
      refine lv_astore (lv' := [(5, .ref q9), (0, .ref (ar 0)), (1, .int x1), (2, .int x2), (3, .int x3), (4, .ref ob)]) hx hb dL_addStorm_15 hl (by decide) rfl (fun ls hl => ?_)
      refine lv_iconst (v := 1) hx hb dL_addStorm_17 (by decide) ?_
      exact e_i X hr dL_addStorm_18 hS9 (Sum.inr 0) rfl hx9 ⟨ho.kept (ho9 ob hoA2), ho9⟩ ⟨Nat.le_of_ble_eq_true rfl, Nat.le_of_ble_eq_true rfl⟩
    · refine g_catch (k := 1) X htab [(0, 12, 15, 13)] [(0, 12, 23, 64)] (a := 0) (b9 := 12) (hp := 19) (ct := 15) rfl (List.forall_mem_cons.mpr ⟨⟨by decide, _, xl_13, hN 1 0 (by decide) (by decide) (by decide)⟩, (fun z hz => absurd hz List.not_mem_nil)⟩) rfl (by decide) xl_15 xc_1 hce hcv hcl ?_
      refine lv_astore (lv' := [(5, .ref q9), (0, .ref (ar 0)), (1, .int x1), (2, .int x2), (3, .int x3), (4, .ref ob)]) hx hb dL_addStorm_19 hl (by decide) rfl (fun ls hl => ?_)
      refine lv_iconst (v := 2) hx hb dL_addStorm_21 (by decide) ?_
      exact e_i X hr dL_addStorm_22 hS9 (Sum.inr 1) rfl hx9 ⟨ho.kept (ho9 ob hoA2), ho9⟩ ⟨Nat.le_of_ble_eq_true rfl, Nat.le_of_ble_eq_true rfl⟩
    · refine g_catch (k := 2) X htab [(0, 12, 15, 13), (0, 12, 19, 15)] [] (a := 0) (b9 := 12) (hp := 23) (ct := 64) rfl (List.forall_mem_cons.mpr ⟨⟨by decide, _, xl_13, hN 2 0 (by decide) (by decide) (by decide)⟩, (List.forall_mem_cons.mpr ⟨⟨by decide, _, xl_15, hN 2 1 (by decide) (by decide) (by decide)⟩, (fun z hz => absurd hz List.not_mem_nil)⟩)⟩) rfl (by decide) xl_64 xc_2 hce hcv hcl ?_
      refine lv_astore (lv' := [(5, .ref q9), (0, .ref (ar 0)), (1, .int x1), (2, .int x2), (3, .int x3), (4, .ref ob)]) hx hb dL_addStorm_23 hl (by decide) rfl (fun ls hl => ?_)
      refine lv_iconst (v := 3) hx hb dL_addStorm_25 (by decide) ?_
      exact e_i X hr dL_addStorm_26 hS9 (Sum.inr 2) rfl hx9 ⟨ho.kept (ho9 ob hoA2), ho9⟩ ⟨Nat.le_of_ble_eq_true rfl, Nat.le_of_ble_eq_true rfl⟩
  have hat9 := ho.kept (hk9 ob hoA2 hoA)
  refine lv_i2l (v := (ri u).toInt64) hx hb dL_addStorm_10 rfl ?_
  refine x_last (A := fun q : Nat => A1 q ∨ q = ob) X dL_addStorm_11 hat9 (Or.inr rfl) hS9 in01 (fun H2 locs2 hat2 oq2 hz2 hS2 => ?_)
  refine lv_goto (tgt := 27) hx hb dL_addStorm_12 (by decide) ?_
  refine lv_iconst (v := 0) hx hb dL_addStorm_27 (by decide) ?_
  exact e_i X hr dL_addStorm_28 hS2 (Sum.inl u) rfl hp9 ⟨hat2, H1, hP9, hz2, oq2⟩ ⟨Nat.le_of_ble_eq_true rfl, Nat.le_of_ble_eq_true rfl⟩
abbrev rm_L_nameStorm : Room := { frames := 9, cells := 3, slots := 18, locals := 156 }
set_option maxHeartbeats 4000000 in
theorem k_L_nameStorm (l : Launch) (D : va_G) (tc : Nat → ClassId) (h0 : Nat) (sa : Nat → Nat) (H0 : Heap) (ob : Nat) (x1 : Int32) (x2 : Int32) {S : Type} {A1 : Nat → Prop} {post : S → Prop} {POST : S → Heap → Prop} {rv : S → Option Value} {xpost : Nat → Prop} {ri : S → Int32} {f : Nat → Int64} {wa : Nat} {ar : Nat → Nat} {Ar : Nat → Prop} {sp : Option Nat} {ns np nf : Nat} {sd pd fd : Nat → Nat → Nat} {sums : Nat → Int64} {r : Dt} (hBr : Blk D tc Ar (shR wa sp ns np nf sd pd fd sums ar) ar r H0) (hM : MX l yX8_nameStorm cX8_nameStorm 5 (Option.some FieldType.char) rm_X8_nameStorm A1 [.ref (ar 0), .int x1, .int x2] D tc h0 sa H0 post POST rv xpost) (hrv : ∀ u, rv u = some (.int (ri u))) (ho : va_at D vwCl (ob, .inl (tc 3, 1, .inr (.inl f))) H0) (hoA : ¬ A1 ob) (hA0 : ∀ q, A1 q ∨ q = ob → h0 ≤ q) (hx : ∀ k, xpost k → k = 0 ∨ k = 1 ∨ k = 3) : ML l yL_nameStorm cL_nameStorm 5 [(0, 10, 13, 13), (0, 10, 17, 15), (0, 10, 21, 70)] rm_L_nameStorm (fun q : Nat => A1 q ∨ q = ob) [.ref (ar 0), .int x1, .int x2, .ref ob] D tc h0 sa H0 (LPo post xpost) (LQo D tc ob f (fun u => (ri u).toInt64) POST H0) (LRo (fun k => xnum [0, 1, 3] k 1)) := by
  refine ML.of RL [(0, .ref (ar 0)), (1, .int x1), (2, .int x2), (3, .ref ob)] (by decide +kernel) rfl (Nat.le_of_ble_eq_true rfl) rfl ?_
  intro p e s m below meth c ls X hN hr htab hT hH hS hl
  subst hH
  have hxx := hx
  have hx := X.1
  have hb := X.2.1
  have hoA2 := ho.lt
  refine lv_aload_n hx hb dL_nameStorm_0 rfl (lv_at hl 3 rfl) ?_
  refine lv_iconst (v := 0) hx hb dL_nameStorm_1 (by decide) ?_
  refine lv_aload_n hx hb dL_nameStorm_2 rfl (lv_at hl 0 rfl) ?_
  refine lv_iload_n hx hb dL_nameStorm_3 rfl (lv_at hl 1 rfl) ?_
  refine lv_iload_n hx hb dL_nameStorm_4 rfl (lv_at hl 2 rfl) ?_
  refine g_afterX (A := fun q : Nat => A1 q ∨ q = ob) (st0 := [.int x2, .int x1, .ref (ar 0), .int 0, .ref ob]) (rest := [.int 0, .ref ob]) (g_VX X m_L_66 hM (hBr.recv X 0 rfl (q := (RX8, TX8, 9)) rfl) hT hS hA0 dL_nameStorm_5 hl.1 rfl rfl ⟨Nat.le_of_ble_eq_true rfl, Nat.le_of_ble_eq_true rfl⟩ (Nat.le_of_ble_eq_true rfl) ⟨Nat.le_of_ble_eq_true rfl, Nat.le_of_ble_eq_true rfl⟩) hS (fun q h => Or.inl h) (fun u => [.int (ri u), .int 0, .ref ob]) (fun u => by rw [hrv u]; rfl) (fun k ce q9 H1 locs1 hx9 hz9 ho9 hS9 hce hcv hcl => ?_) (fun u H1 locs1 hp9 hP9 hz9 hk9 hS9 => ?_)
  · rcases hxx k hx9 with rfl | rfl | rfl
    · refine g_catch (k := 0) X htab [] [(0, 10, 17, 15), (0, 10, 21, 70)] (a := 0) (b9 := 10) (hp := 13) (ct := 13) rfl (fun z hz => absurd hz List.not_mem_nil) rfl (by decide) xl_13 xc_0 hce hcv hcl ?_
      refine lv_astore (lv' := [(4, .ref q9), (0, .ref (ar 0)), (1, .int x1), (2, .int x2), (3, .ref ob)]) hx hb dL_nameStorm_13 hl (by decide) rfl (fun ls hl => ?_)
      refine lv_iconst (v := 1) hx hb dL_nameStorm_15 (by decide) ?_
      exact e_i X hr dL_nameStorm_16 hS9 (Sum.inr 0) rfl hx9 ⟨ho.kept (ho9 ob hoA2), ho9⟩ ⟨Nat.le_of_ble_eq_true rfl, Nat.le_of_ble_eq_true rfl⟩
    · refine g_catch (k := 1) X htab [(0, 10, 13, 13)] [(0, 10, 21, 70)] (a := 0) (b9 := 10) (hp := 17) (ct := 15) rfl (List.forall_mem_cons.mpr ⟨⟨by decide, _, xl_13, hN 1 0 (by decide) (by decide) (by decide)⟩, (fun z hz => absurd hz List.not_mem_nil)⟩) rfl (by decide) xl_15 xc_1 hce hcv hcl ?_
      refine lv_astore (lv' := [(4, .ref q9), (0, .ref (ar 0)), (1, .int x1), (2, .int x2), (3, .ref ob)]) hx hb dL_nameStorm_17 hl (by decide) rfl (fun ls hl => ?_)
      refine lv_iconst (v := 2) hx hb dL_nameStorm_19 (by decide) ?_
      exact e_i X hr dL_nameStorm_20 hS9 (Sum.inr 1) rfl hx9 ⟨ho.kept (ho9 ob hoA2), ho9⟩ ⟨Nat.le_of_ble_eq_true rfl, Nat.le_of_ble_eq_true rfl⟩
    · refine g_catch (k := 3) X htab [(0, 10, 13, 13), (0, 10, 17, 15)] [] (a := 0) (b9 := 10) (hp := 21) (ct := 70) rfl (List.forall_mem_cons.mpr ⟨⟨by decide, _, xl_13, hN 3 0 (by decide) (by decide) (by decide)⟩, (List.forall_mem_cons.mpr ⟨⟨by decide, _, xl_15, hN 3 1 (by decide) (by decide) (by decide)⟩, (fun z hz => absurd hz List.not_mem_nil)⟩)⟩) rfl (by decide) xl_70 xc_3 hce hcv hcl ?_
      refine lv_astore (lv' := [(4, .ref q9), (0, .ref (ar 0)), (1, .int x1), (2, .int x2), (3, .ref ob)]) hx hb dL_nameStorm_21 hl (by decide) rfl (fun ls hl => ?_)
      refine lv_iconst (v := 3) hx hb dL_nameStorm_23 (by decide) ?_
      exact e_i X hr dL_nameStorm_24 hS9 (Sum.inr 3) rfl hx9 ⟨ho.kept (ho9 ob hoA2), ho9⟩ ⟨Nat.le_of_ble_eq_true rfl, Nat.le_of_ble_eq_true rfl⟩
  have hat9 := ho.kept (hk9 ob hoA2 hoA)
  refine lv_i2l (v := (ri u).toInt64) hx hb dL_nameStorm_8 rfl ?_
  refine x_last (A := fun q : Nat => A1 q ∨ q = ob) X dL_nameStorm_9 hat9 (Or.inr rfl) hS9 in01 (fun H2 locs2 hat2 oq2 hz2 hS2 => ?_)
  refine lv_goto (tgt := 25) hx hb dL_nameStorm_10 (by decide) ?_
  refine lv_iconst (v := 0) hx hb dL_nameStorm_25 (by decide) ?_
  exact e_i X hr dL_nameStorm_26 hS2 (Sum.inl u) rfl hp9 ⟨hat2, H1, hP9, hz2, oq2⟩ ⟨Nat.le_of_ble_eq_true rfl, Nat.le_of_ble_eq_true rfl⟩
abbrev rm_L_findName : Room := { frames := 8, cells := 2, slots := 12, locals := 132 }
set_option maxHeartbeats 4000000 in
theorem k_L_findName (l : Launch) (D : va_G) (tc : Nat → ClassId) (h0 : Nat) (sa : Nat → Nat) (H0 : Heap) (ob : Nat) (x1 : Int32) {S : Type} {A1 : Nat → Prop} {post : S → Prop} {POST : S → Heap → Prop} {rv : S → Option Value} {xpost : Nat → Prop} {ri : S → Int32} {f : Nat → Int64} {wa : Nat} {ar : Nat → Nat} {Ar : Nat → Prop} {sp : Option Nat} {ns np nf : Nat} {sd pd fd : Nat → Nat → Nat} {sums : Nat → Int64} {r : Dt} (hBr : Blk D tc Ar (shR wa sp ns np nf sd pd fd sums ar) ar r H0) (hM : MX l yX8_findName cX8_findName 3 (Option.some FieldType.int) rm_X8_findName A1 [.ref (ar 0), .int x1] D tc h0 sa H0 post POST rv xpost) (hrv : ∀ u, rv u = some (.int (ri u))) (ho : va_at D vwCl (ob, .inl (tc 3, 1, .inr (.inl f))) H0) (hoA : ¬ A1 ob) (hA0 : ∀ q, A1 q ∨ q = ob → h0 ≤ q) (hx : ∀ k, xpost k → k = 1 ∨ k = 4) : ML l yL_findName cL_findName 4 [(0, 9, 12, 15), (0, 9, 15, 34)] rm_L_findName (fun q : Nat => A1 q ∨ q = ob) [.ref (ar 0), .int x1, .ref ob] D tc h0 sa H0 (LPo post xpost) (LQo D tc ob f (fun u => (ri u).toInt64) POST H0) (LRo (fun k => xnum [1, 4] k 1)) := by
  refine ML.of RL [(0, .ref (ar 0)), (1, .int x1), (2, .ref ob)] (by decide +kernel) rfl (Nat.le_of_ble_eq_true rfl) rfl ?_
  intro p e s m below meth c ls X hN hr htab hT hH hS hl
  subst hH
  have hxx := hx
  have hx := X.1
  have hb := X.2.1
  have hoA2 := ho.lt
  refine lv_aload_n hx hb dL_findName_0 rfl (lv_at hl 2 rfl) ?_
  refine lv_iconst (v := 0) hx hb dL_findName_1 (by decide) ?_
  refine lv_aload_n hx hb dL_findName_2 rfl (lv_at hl 0 rfl) ?_
  refine lv_iload_n hx hb dL_findName_3 rfl (lv_at hl 1 rfl) ?_
  refine g_afterX (A := fun q : Nat => A1 q ∨ q = ob) (st0 := [.int x1, .ref (ar 0), .int 0, .ref ob]) (rest := [.int 0, .ref ob]) (g_VX X m_L_72 hM (hBr.recv X 0 rfl (q := (RX8, TX8, 9)) rfl) hT hS hA0 dL_findName_4 hl.1 rfl rfl ⟨Nat.le_of_ble_eq_true rfl, Nat.le_of_ble_eq_true rfl⟩ (Nat.le_of_ble_eq_true rfl) ⟨Nat.le_of_ble_eq_true rfl, Nat.le_of_ble_eq_true rfl⟩) hS (fun q h => Or.inl h) (fun u => [.int (ri u), .int 0, .ref ob]) (fun u => by rw [hrv u]; rfl) (fun k ce q9 H1 locs1 hx9 hz9 ho9 hS9 hce hcv hcl => ?_) (fun u H1 locs1 hp9 hP9 hz9 hk9 hS9 => ?_)
  · rcases hxx k hx9 with rfl | rfl
    · refine g_catch (k := 1) X htab [] [(0, 9, 15, 34)] (a := 0) (b9 := 9) (hp := 12) (ct := 15) rfl (fun z hz => absurd hz List.not_mem_nil) rfl (by decide) xl_15 xc_1 hce hcv hcl ?_
      refine lv_astore_n (lv' := [(3, .ref q9), (0, .ref (ar 0)), (1, .int x1), (2, .ref ob)]) hx hb dL_findName_12 rfl hl (by decide) rfl (fun ls hl => ?_)
      refine lv_iconst (v := 1) hx hb dL_findName_13 (by decide) ?_
      exact e_i X hr dL_findName_14 hS9 (Sum.inr 1) rfl hx9 ⟨ho.kept (ho9 ob hoA2), ho9⟩ ⟨Nat.le_of_ble_eq_true rfl, Nat.le_of_ble_eq_true rfl⟩
    · refine g_catch (k := 4) X htab [(0, 9, 12, 15)] [] (a := 0) (b9 := 9) (hp := 15) (ct := 34) rfl (List.forall_mem_cons.mpr ⟨⟨by decide, _, xl_15, hN 4 1 (by decide) (by decide) (by decide)⟩, (fun z hz => absurd hz List.not_mem_nil)⟩) rfl (by decide) xl_34 xc_4 hce hcv hcl ?_
      refine lv_astore_n (lv' := [(3, .ref q9), (0, .ref (ar 0)), (1, .int x1), (2, .ref ob)]) hx hb dL_findName_15 rfl hl (by decide) rfl (fun ls hl => ?_)
      refine lv_iconst (v := 2) hx hb dL_findName_16 (by decide) ?_
      exact e_i X hr dL_findName_17 hS9 (Sum.inr 4) rfl hx9 ⟨ho.kept (ho9 ob hoA2), ho9⟩ ⟨Nat.le_of_ble_eq_true rfl, Nat.le_of_ble_eq_true rfl⟩
  have hat9 := ho.kept (hk9 ob hoA2 hoA)
  refine lv_i2l (v := (ri u).toInt64) hx hb dL_findName_7 rfl ?_
  refine x_last (A := fun q : Nat => A1 q ∨ q = ob) X dL_findName_8 hat9 (Or.inr rfl) hS9 in01 (fun H2 locs2 hat2 oq2 hz2 hS2 => ?_)
  refine lv_goto (tgt := 18) hx hb dL_findName_9 (by decide) ?_
  refine lv_iconst (v := 0) hx hb dL_findName_18 (by decide) ?_
  exact e_i X hr dL_findName_19 hS2 (Sum.inl u) rfl hp9 ⟨hat2, H1, hP9, hz2, oq2⟩ ⟨Nat.le_of_ble_eq_true rfl, Nat.le_of_ble_eq_true rfl⟩
abbrev rm_L_getLongitude : Room := { frames := 9, cells := 2, slots := 12, locals := 153 }
set_option maxHeartbeats 4000000 in
theorem k_L_getLongitude (l : Launch) (D : va_G) (tc : Nat → ClassId) (h0 : Nat) (sa : Nat → Nat) (H0 : Heap) (ob : Nat) (x1 : Int32) {S : Type} {A1 : Nat → Prop} {post : S → Prop} {POST : S → Heap → Prop} {rv : S → Option Value} {xpost : Nat → Prop} {ri : S → Int32} {f : Nat → Int64} {wa : Nat} {ar : Nat → Nat} {Ar : Nat → Prop} {sp : Option Nat} {ns np nf : Nat} {sd pd fd : Nat → Nat → Nat} {sums : Nat → Int64} {r : Dt} (hBr : Blk D tc Ar (shR wa sp ns np nf sd pd fd sums ar) ar r H0) (hM : MX l yX8_getLongitude cX8_getLongitude 2 (Option.some FieldType.int) rm_X8_getLongitude A1 [.ref (ar 0), .int x1] D tc h0 sa H0 post POST rv xpost) (hrv : ∀ u, rv u = some (.int (ri u))) (ho : va_at D vwCl (ob, .inl (tc 3, 1, .inr (.inl f))) H0) (hoA : ¬ A1 ob) (hA0 : ∀ q, A1 q ∨ q = ob → h0 ≤ q) (hx : ∀ k, xpost k → k = 0 ∨ k = 4) : ML l yL_getLongitude cL_getLongitude 4 [(0, 9, 12, 13), (0, 9, 15, 34)] rm_L_getLongitude (fun q : Nat => A1 q ∨ q = ob) [.ref (ar 0), .int x1, .ref ob] D tc h0 sa H0 (LPo post xpost) (LQo D tc ob f (fun u => (ri u).toInt64) POST H0) (LRo (fun k => xnum [0, 4] k 1)) := by
  refine ML.of RL [(0, .ref (ar 0)), (1, .int x1), (2, .ref ob)] (by decide +kernel) rfl (Nat.le_of_ble_eq_true rfl) rfl ?_
  intro p e s m below meth c ls X hN hr htab hT hH hS hl
  subst hH
  have hxx := hx
  have hx := X.1
  have hb := X.2.1
  have hoA2 := ho.lt
  refine lv_aload_n hx hb dL_getLongitude_0 rfl (lv_at hl 2 rfl) ?_
  refine lv_iconst (v := 0) hx hb dL_getLongitude_1 (by decide) ?_
  refine lv_aload_n hx hb dL_getLongitude_2 rfl (lv_at hl 0 rfl) ?_
  refine lv_iload_n hx hb dL_getLongitude_3 rfl (lv_at hl 1 rfl) ?_
  refine g_afterX (A := fun q : Nat => A1 q ∨ q = ob) (st0 := [.int x1, .ref (ar 0), .int 0, .ref ob]) (rest := [.int 0, .ref ob]) (g_VX X m_L_76 hM (hBr.recv X 0 rfl (q := (RX8, TX8, 9)) rfl) hT hS hA0 dL_getLongitude_4 hl.1 rfl rfl ⟨Nat.le_of_ble_eq_true rfl, Nat.le_of_ble_eq_true rfl⟩ (Nat.le_of_ble_eq_true rfl) ⟨Nat.le_of_ble_eq_true rfl, Nat.le_of_ble_eq_true rfl⟩) hS (fun q h => Or.inl h) (fun u => [.int (ri u), .int 0, .ref ob]) (fun u => by rw [hrv u]; rfl) (fun k ce q9 H1 locs1 hx9 hz9 ho9 hS9 hce hcv hcl => ?_) (fun u H1 locs1 hp9 hP9 hz9 hk9 hS9 => ?_)
  · rcases hxx k hx9 with rfl | rfl
    · refine g_catch (k := 0) X htab [] [(0, 9, 15, 34)] (a := 0) (b9 := 9) (hp := 12) (ct := 13) rfl (fun z hz => absurd hz List.not_mem_nil) rfl (by decide) xl_13 xc_0 hce hcv hcl ?_
      refine lv_astore_n (lv' := [(3, .ref q9), (0, .ref (ar 0)), (1, .int x1), (2, .ref ob)]) hx hb dL_getLongitude_12 rfl hl (by decide) rfl (fun ls hl => ?_)
      refine lv_iconst (v := 1) hx hb dL_getLongitude_13 (by decide) ?_
      exact e_i X hr dL_getLongitude_14 hS9 (Sum.inr 0) rfl hx9 ⟨ho.kept (ho9 ob hoA2), ho9⟩ ⟨Nat.le_of_ble_eq_true rfl, Nat.le_of_ble_eq_true rfl⟩
    · refine g_catch (k := 4) X htab [(0, 9, 12, 13)] [] (a := 0) (b9 := 9) (hp := 15) (ct := 34) rfl (List.forall_mem_cons.mpr ⟨⟨by decide, _, xl_13, hN 4 0 (by decide) (by decide) (by decide)⟩, (fun z hz => absurd hz List.not_mem_nil)⟩) rfl (by decide) xl_34 xc_4 hce hcv hcl ?_
      refine lv_astore_n (lv' := [(3, .ref q9), (0, .ref (ar 0)), (1, .int x1), (2, .ref ob)]) hx hb dL_getLongitude_15 rfl hl (by decide) rfl (fun ls hl => ?_)
      refine lv_iconst (v := 2) hx hb dL_getLongitude_16 (by decide) ?_
      exact e_i X hr dL_getLongitude_17 hS9 (Sum.inr 4) rfl hx9 ⟨ho.kept (ho9 ob hoA2), ho9⟩ ⟨Nat.le_of_ble_eq_true rfl, Nat.le_of_ble_eq_true rfl⟩
  have hat9 := ho.kept (hk9 ob hoA2 hoA)
  refine lv_i2l (v := (ri u).toInt64) hx hb dL_getLongitude_7 rfl ?_
  refine x_last (A := fun q : Nat => A1 q ∨ q = ob) X dL_getLongitude_8 hat9 (Or.inr rfl) hS9 in01 (fun H2 locs2 hat2 oq2 hz2 hS2 => ?_)
  refine lv_goto (tgt := 18) hx hb dL_getLongitude_9 (by decide) ?_
  refine lv_iconst (v := 0) hx hb dL_getLongitude_18 (by decide) ?_
  exact e_i X hr dL_getLongitude_19 hS2 (Sum.inl u) rfl hp9 ⟨hat2, H1, hP9, hz2, oq2⟩ ⟨Nat.le_of_ble_eq_true rfl, Nat.le_of_ble_eq_true rfl⟩
abbrev rm_L_getSize : Room := { frames := 9, cells := 2, slots := 12, locals := 153 }
set_option maxHeartbeats 4000000 in
theorem k_L_getSize (l : Launch) (D : va_G) (tc : Nat → ClassId) (h0 : Nat) (sa : Nat → Nat) (H0 : Heap) (ob : Nat) (x1 : Int32) {S : Type} {A1 : Nat → Prop} {post : S → Prop} {POST : S → Heap → Prop} {rv : S → Option Value} {xpost : Nat → Prop} {ri : S → Int32} {f : Nat → Int64} {wa : Nat} {ar : Nat → Nat} {Ar : Nat → Prop} {sp : Option Nat} {ns np nf : Nat} {sd pd fd : Nat → Nat → Nat} {sums : Nat → Int64} {r : Dt} (hBr : Blk D tc Ar (shR wa sp ns np nf sd pd fd sums ar) ar r H0) (hM : MX l yX8_getSize cX8_getSize 2 (Option.some FieldType.int) rm_X8_getSize A1 [.ref (ar 0), .int x1] D tc h0 sa H0 post POST rv xpost) (hrv : ∀ u, rv u = some (.int (ri u))) (ho : va_at D vwCl (ob, .inl (tc 3, 1, .inr (.inl f))) H0) (hoA : ¬ A1 ob) (hA0 : ∀ q, A1 q ∨ q = ob → h0 ≤ q) (hx : ∀ k, xpost k → k = 0 ∨ k = 4) : ML l yL_getSize cL_getSize 4 [(0, 9, 12, 13), (0, 9, 15, 34)] rm_L_getSize (fun q : Nat => A1 q ∨ q = ob) [.ref (ar 0), .int x1, .ref ob] D tc h0 sa H0 (LPo post xpost) (LQo D tc ob f (fun u => (ri u).toInt64) POST H0) (LRo (fun k => xnum [0, 4] k 1)) := by
  refine ML.of RL [(0, .ref (ar 0)), (1, .int x1), (2, .ref ob)] (by decide +kernel) rfl (Nat.le_of_ble_eq_true rfl) rfl ?_
  intro p e s m below meth c ls X hN hr htab hT hH hS hl
  subst hH
  have hxx := hx
  have hx := X.1
  have hb := X.2.1
  have hoA2 := ho.lt
  refine lv_aload_n hx hb dL_getSize_0 rfl (lv_at hl 2 rfl) ?_
  refine lv_iconst (v := 0) hx hb dL_getSize_1 (by decide) ?_
  refine lv_aload_n hx hb dL_getSize_2 rfl (lv_at hl 0 rfl) ?_
  refine lv_iload_n hx hb dL_getSize_3 rfl (lv_at hl 1 rfl) ?_
  refine g_afterX (A := fun q : Nat => A1 q ∨ q = ob) (st0 := [.int x1, .ref (ar 0), .int 0, .ref ob]) (rest := [.int 0, .ref ob]) (g_VX X m_L_79 hM (hBr.recv X 0 rfl (q := (RX8, TX8, 9)) rfl) hT hS hA0 dL_getSize_4 hl.1 rfl rfl ⟨Nat.le_of_ble_eq_true rfl, Nat.le_of_ble_eq_true rfl⟩ (Nat.le_of_ble_eq_true rfl) ⟨Nat.le_of_ble_eq_true rfl, Nat.le_of_ble_eq_true rfl⟩) hS (fun q h => Or.inl h) (fun u => [.int (ri u), .int 0, .ref ob]) (fun u => by rw [hrv u]; rfl) (fun k ce q9 H1 locs1 hx9 hz9 ho9 hS9 hce hcv hcl => ?_) (fun u H1 locs1 hp9 hP9 hz9 hk9 hS9 => ?_)
  · rcases hxx k hx9 with rfl | rfl
    · refine g_catch (k := 0) X htab [] [(0, 9, 15, 34)] (a := 0) (b9 := 9) (hp := 12) (ct := 13) rfl (fun z hz => absurd hz List.not_mem_nil) rfl (by decide) xl_13 xc_0 hce hcv hcl ?_
      refine lv_astore_n (lv' := [(3, .ref q9), (0, .ref (ar 0)), (1, .int x1), (2, .ref ob)]) hx hb dL_getSize_12 rfl hl (by decide) rfl (fun ls hl => ?_)
      refine lv_iconst (v := 1) hx hb dL_getSize_13 (by decide) ?_
      exact e_i X hr dL_getSize_14 hS9 (Sum.inr 0) rfl hx9 ⟨ho.kept (ho9 ob hoA2), ho9⟩ ⟨Nat.le_of_ble_eq_true rfl, Nat.le_of_ble_eq_true rfl⟩
    · refine g_catch (k := 4) X htab [(0, 9, 12, 13)] [] (a := 0) (b9 := 9) (hp := 15) (ct := 34) rfl (List.forall_mem_cons.mpr ⟨⟨by decide, _, xl_13, hN 4 0 (by decide) (by decide) (by decide)⟩, (fun z hz => absurd hz List.not_mem_nil)⟩) rfl (by decide) xl_34 xc_4 hce hcv hcl ?_
      refine lv_astore_n (lv' := [(3, .ref q9), (0, .ref (ar 0)), (1, .int x1), (2, .ref ob)]) hx hb dL_getSize_15 rfl hl (by decide) rfl (fun ls hl => ?_)
      refine lv_iconst (v := 2) hx hb dL_getSize_16 (by decide) ?_
      exact e_i X hr dL_getSize_17 hS9 (Sum.inr 4) rfl hx9 ⟨ho.kept (ho9 ob hoA2), ho9⟩ ⟨Nat.le_of_ble_eq_true rfl, Nat.le_of_ble_eq_true rfl⟩
  have hat9 := ho.kept (hk9 ob hoA2 hoA)
  refine lv_i2l (v := (ri u).toInt64) hx hb dL_getSize_7 rfl ?_
  refine x_last (A := fun q : Nat => A1 q ∨ q = ob) X dL_getSize_8 hat9 (Or.inr rfl) hS9 in01 (fun H2 locs2 hat2 oq2 hz2 hS2 => ?_)
  refine lv_goto (tgt := 18) hx hb dL_getSize_9 (by decide) ?_
  refine lv_iconst (v := 0) hx hb dL_getSize_18 (by decide) ?_
  exact e_i X hr dL_getSize_19 hS2 (Sum.inl u) rfl hp9 ⟨hat2, H1, hP9, hz2, oq2⟩ ⟨Nat.le_of_ble_eq_true rfl, Nat.le_of_ble_eq_true rfl⟩
abbrev rm_L_getAge : Room := { frames := 9, cells := 1, slots := 6, locals := 153 }
set_option maxHeartbeats 4000000 in
theorem k_L_getAge (l : Launch) (D : va_G) (tc : Nat → ClassId) (h0 : Nat) (sa : Nat → Nat) (H0 : Heap) (ob : Nat) (x1 : Int32) {S : Type} {A1 : Nat → Prop} {post : S → Prop} {POST : S → Heap → Prop} {rv : S → Option Value} {xpost : Nat → Prop} {ri : S → Int32} {f : Nat → Int64} {wa : Nat} {ar : Nat → Nat} {Ar : Nat → Prop} {sp : Option Nat} {ns np nf : Nat} {sd pd fd : Nat → Nat → Nat} {sums : Nat → Int64} {r : Dt} (hBr : Blk D tc Ar (shR wa sp ns np nf sd pd fd sums ar) ar r H0) (hM : MX l yX8_getAge cX8_getAge 2 (Option.some FieldType.int) rm_X8_getAge A1 [.ref (ar 0), .int x1] D tc h0 sa H0 post POST rv xpost) (hrv : ∀ u, rv u = some (.int (ri u))) (ho : va_at D vwCl (ob, .inl (tc 3, 1, .inr (.inl f))) H0) (hoA : ¬ A1 ob) (hA0 : ∀ q, A1 q ∨ q = ob → h0 ≤ q) (hx : ∀ k, xpost k → k = 0) : ML l yL_getAge cL_getAge 4 [(0, 9, 12, 13)] rm_L_getAge (fun q : Nat => A1 q ∨ q = ob) [.ref (ar 0), .int x1, .ref ob] D tc h0 sa H0 (LPo post xpost) (LQo D tc ob f (fun u => (ri u).toInt64) POST H0) (LRo (fun k => xnum [0] k 1)) := by
  refine ML.of RL [(0, .ref (ar 0)), (1, .int x1), (2, .ref ob)] (by decide +kernel) rfl (Nat.le_of_ble_eq_true rfl) rfl ?_
  intro p e s m below meth c ls X hN hr htab hT hH hS hl
  subst hH
  have hxx := hx
  have hx := X.1
  have hb := X.2.1
  have hoA2 := ho.lt
  refine lv_aload_n hx hb dL_getAge_0 rfl (lv_at hl 2 rfl) ?_
  refine lv_iconst (v := 0) hx hb dL_getAge_1 (by decide) ?_
  refine lv_aload_n hx hb dL_getAge_2 rfl (lv_at hl 0 rfl) ?_
  refine lv_iload_n hx hb dL_getAge_3 rfl (lv_at hl 1 rfl) ?_
  refine g_afterX (A := fun q : Nat => A1 q ∨ q = ob) (st0 := [.int x1, .ref (ar 0), .int 0, .ref ob]) (rest := [.int 0, .ref ob]) (g_VX X m_L_82 hM (hBr.recv X 0 rfl (q := (RX8, TX8, 9)) rfl) hT hS hA0 dL_getAge_4 hl.1 rfl rfl ⟨Nat.le_of_ble_eq_true rfl, Nat.le_of_ble_eq_true rfl⟩ (Nat.le_of_ble_eq_true rfl) ⟨Nat.le_of_ble_eq_true rfl, Nat.le_of_ble_eq_true rfl⟩) hS (fun q h => Or.inl h) (fun u => [.int (ri u), .int 0, .ref ob]) (fun u => by rw [hrv u]; rfl) (fun k ce q9 H1 locs1 hx9 hz9 ho9 hS9 hce hcv hcl => ?_) (fun u H1 locs1 hp9 hP9 hz9 hk9 hS9 => ?_)
  · have ek := hxx k hx9
    subst ek
    refine g_catch (k := 0) X htab [] [] (a := 0) (b9 := 9) (hp := 12) (ct := 13) rfl (fun z hz => absurd hz List.not_mem_nil) rfl (by decide) xl_13 xc_0 hce hcv hcl ?_
    refine lv_astore_n (lv' := [(3, .ref q9), (0, .ref (ar 0)), (1, .int x1), (2, .ref ob)]) hx hb dL_getAge_12 rfl hl (by decide) rfl (fun ls hl => ?_)
    refine lv_iconst (v := 1) hx hb dL_getAge_13 (by decide) ?_
    exact e_i X hr dL_getAge_14 hS9 (Sum.inr 0) rfl hx9 ⟨ho.kept (ho9 ob hoA2), ho9⟩ ⟨Nat.le_of_ble_eq_true rfl, Nat.le_of_ble_eq_true rfl⟩
  have hat9 := ho.kept (hk9 ob hoA2 hoA)
  refine lv_i2l (v := (ri u).toInt64) hx hb dL_getAge_7 rfl ?_
  refine x_last (A := fun q : Nat => A1 q ∨ q = ob) X dL_getAge_8 hat9 (Or.inr rfl) hS9 in01 (fun H2 locs2 hat2 oq2 hz2 hS2 => ?_)
  refine lv_goto (tgt := 15) hx hb dL_getAge_9 (by decide) ?_
  refine lv_iconst (v := 0) hx hb dL_getAge_15 (by decide) ?_
  exact e_i X hr dL_getAge_16 hS2 (Sum.inl u) rfl hp9 ⟨hat2, H1, hP9, hz2, oq2⟩ ⟨Nat.le_of_ble_eq_true rfl, Nat.le_of_ble_eq_true rfl⟩
abbrev rm_L_isThere : Room := { frames := 9, cells := 1, slots := 6, locals := 153 }
set_option maxHeartbeats 4000000 in
theorem k_L_isThere (l : Launch) (D : va_G) (tc : Nat → ClassId) (h0 : Nat) (sa : Nat → Nat) (H0 : Heap) (ob : Nat) (x1 : Int32) {S : Type} {A1 : Nat → Prop} {post : S → Prop} {POST : S → Heap → Prop} {rv : S → Option Value} {xpost : Nat → Prop} {ri : S → Int32} {f : Nat → Int64} {wa : Nat} {ar : Nat → Nat} {Ar : Nat → Prop} {sp : Option Nat} {ns np nf : Nat} {sd pd fd : Nat → Nat → Nat} {sums : Nat → Int64} {r : Dt} (hBr : Blk D tc Ar (shR wa sp ns np nf sd pd fd sums ar) ar r H0) (hM : MX l yX8_isThere cX8_isThere 2 (Option.some FieldType.boolean) rm_X8_isThere A1 [.ref (ar 0), .int x1] D tc h0 sa H0 post POST rv xpost) (hrv : ∀ u, rv u = some (.int (ri u))) (ho : va_at D vwCl (ob, .inl (tc 3, 1, .inr (.inl f))) H0) (hoA : ¬ A1 ob) (hA0 : ∀ q, A1 q ∨ q = ob → h0 ≤ q) (hx : ∀ k, xpost k → k = 0) : ML l yL_isThere cL_isThere 4 [(0, 16, 19, 13)] rm_L_isThere (fun q : Nat => A1 q ∨ q = ob) [.ref (ar 0), .int x1, .ref ob] D tc h0 sa H0 (LPo post xpost) (LQo D tc ob f (fun u => if ri u = 0 then 0 else 1) POST H0) (LRo (fun k => xnum [0] k 1)) := by
  refine ML.of RL [(0, .ref (ar 0)), (1, .int x1), (2, .ref ob)] (by decide +kernel) rfl (Nat.le_of_ble_eq_true rfl) rfl ?_
  intro p e s m below meth c ls X hN hr htab hT hH hS hl
  subst hH
  have hxx := hx
  have hx := X.1
  have hb := X.2.1
  have hoA2 := ho.lt
  refine lv_aload_n hx hb dL_isThere_0 rfl (lv_at hl 2 rfl) ?_
  refine lv_iconst (v := 0) hx hb dL_isThere_1 (by decide) ?_
  refine lv_aload_n hx hb dL_isThere_2 rfl (lv_at hl 0 rfl) ?_
  refine lv_iload_n hx hb dL_isThere_3 rfl (lv_at hl 1 rfl) ?_
  refine g_afterX (A := fun q : Nat => A1 q ∨ q = ob) (st0 := [.int x1, .ref (ar 0), .int 0, .ref ob]) (rest := [.int 0, .ref ob]) (g_VX X m_L_85 hM (hBr.recv X 0 rfl (q := (RX8, TX8, 9)) rfl) hT hS hA0 dL_isThere_4 hl.1 rfl rfl ⟨Nat.le_of_ble_eq_true rfl, Nat.le_of_ble_eq_true rfl⟩ (Nat.le_of_ble_eq_true rfl) ⟨Nat.le_of_ble_eq_true rfl, Nat.le_of_ble_eq_true rfl⟩) hS (fun q h => Or.inl h) (fun u => [.int (ri u), .int 0, .ref ob]) (fun u => by rw [hrv u]; rfl) (fun k ce q9 H1 locs1 hx9 hz9 ho9 hS9 hce hcv hcl => ?_) (fun u H1 locs1 hp9 hP9 hz9 hk9 hS9 => ?_)
  · have ek := hxx k hx9
    subst ek
    refine g_catch (k := 0) X htab [] [] (a := 0) (b9 := 16) (hp := 19) (ct := 13) rfl (fun z hz => absurd hz List.not_mem_nil) rfl (by decide) xl_13 xc_0 hce hcv hcl ?_
    refine lv_astore_n (lv' := [(3, .ref q9), (0, .ref (ar 0)), (1, .int x1), (2, .ref ob)]) hx hb dL_isThere_19 rfl hl (by decide) rfl (fun ls hl => ?_)
    refine lv_iconst (v := 1) hx hb dL_isThere_20 (by decide) ?_
    exact e_i X hr dL_isThere_21 hS9 (Sum.inr 0) rfl hx9 ⟨ho.kept (ho9 ob hoA2), ho9⟩ ⟨Nat.le_of_ble_eq_true rfl, Nat.le_of_ble_eq_true rfl⟩
  have hat9 := ho.kept (hk9 ob hoA2 hoA)
  refine lv_if_eq (tgt := 14) hx hb dL_isThere_7 (by decide) (fun hc => ?_) (fun hc => ?_)
  · refine lv_lconst (v := 0) hx hb dL_isThere_14 (by decide) ?_
    refine x_last (A := fun q : Nat => A1 q ∨ q = ob) X dL_isThere_15 hat9 (Or.inr rfl) hS9 in01 (fun H2 locs2 hat2 oq2 hz2 hS2 => ?_)
    refine lv_goto (tgt := 22) hx hb dL_isThere_16 (by decide) ?_
    refine lv_iconst (v := 0) hx hb dL_isThere_22 (by decide) ?_
    exact e_i X hr dL_isThere_23 hS2 (Sum.inl u) rfl hp9 ⟨(show va_at _ _ (_, .inl (_, _, .inr (.inl (va_up _ 0 (if ri u = 0 then 0 else 1))))) _ from by rw [if_pos hc]; exact hat2), H1, hP9, hz2, oq2⟩ ⟨Nat.le_of_ble_eq_true rfl, Nat.le_of_ble_eq_true rfl⟩
  · refine lv_lconst (v := 1) hx hb dL_isThere_10 (by decide) ?_
    refine lv_goto (tgt := 15) hx hb dL_isThere_11 (by decide) ?_
    refine x_last (A := fun q : Nat => A1 q ∨ q = ob) X dL_isThere_15 hat9 (Or.inr rfl) hS9 in01 (fun H2 locs2 hat2 oq2 hz2 hS2 => ?_)
    refine lv_goto (tgt := 22) hx hb dL_isThere_16 (by decide) ?_
    refine lv_iconst (v := 0) hx hb dL_isThere_22 (by decide) ?_
    exact e_i X hr dL_isThere_23 hS2 (Sum.inl u) rfl hp9 ⟨(show va_at _ _ (_, .inl (_, _, .inr (.inl (va_up _ 0 (if ri u = 0 then 0 else 1))))) _ from by rw [if_neg hc]; exact hat2), H1, hP9, hz2, oq2⟩ ⟨Nat.le_of_ble_eq_true rfl, Nat.le_of_ble_eq_true rfl⟩
abbrev rm_L_livesIn : Room := { frames := 9, cells := 2, slots := 12, locals := 154 }
set_option maxHeartbeats 4000000 in
theorem k_L_livesIn (l : Launch) (D : va_G) (tc : Nat → ClassId) (h0 : Nat) (sa : Nat → Nat) (H0 : Heap) (ob : Nat) (x1 : Int32) {S : Type} {A1 : Nat → Prop} {post : S → Prop} {POST : S → Heap → Prop} {rv : S → Option Value} {xpost : Nat → Prop} {ri : S → Int32} {f : Nat → Int64} {wa : Nat} {ar : Nat → Nat} {Ar : Nat → Prop} {sp : Option Nat} {ns np nf : Nat} {sd pd fd : Nat → Nat → Nat} {sums : Nat → Int64} {r : Dt} (hBr : Blk D tc Ar (shR wa sp ns np nf sd pd fd sums ar) ar r H0) (hM : MX l yX8_livesIn cX8_livesIn 3 (Option.some FieldType.int) rm_X8_livesIn A1 [.ref (ar 0), .int x1] D tc h0 sa H0 post POST rv xpost) (hrv : ∀ u, rv u = some (.int (ri u))) (ho : va_at D vwCl (ob, .inl (tc 3, 1, .inr (.inl f))) H0) (hoA : ¬ A1 ob) (hA0 : ∀ q, A1 q ∨ q = ob → h0 ≤ q) (hx : ∀ k, xpost k → k = 0 ∨ k = 4) : ML l yL_livesIn cL_livesIn 4 [(0, 9, 12, 13), (0, 9, 15, 34)] rm_L_livesIn (fun q : Nat => A1 q ∨ q = ob) [.ref (ar 0), .int x1, .ref ob] D tc h0 sa H0 (LPo post xpost) (LQo D tc ob f (fun u => (ri u).toInt64) POST H0) (LRo (fun k => xnum [0, 4] k 1)) := by
  refine ML.of RL [(0, .ref (ar 0)), (1, .int x1), (2, .ref ob)] (by decide +kernel) rfl (Nat.le_of_ble_eq_true rfl) rfl ?_
  intro p e s m below meth c ls X hN hr htab hT hH hS hl
  subst hH
  have hxx := hx
  have hx := X.1
  have hb := X.2.1
  have hoA2 := ho.lt
  refine lv_aload_n hx hb dL_livesIn_0 rfl (lv_at hl 2 rfl) ?_
  refine lv_iconst (v := 0) hx hb dL_livesIn_1 (by decide) ?_
  refine lv_aload_n hx hb dL_livesIn_2 rfl (lv_at hl 0 rfl) ?_
  refine lv_iload_n hx hb dL_livesIn_3 rfl (lv_at hl 1 rfl) ?_
  refine g_afterX (A := fun q : Nat => A1 q ∨ q = ob) (st0 := [.int x1, .ref (ar 0), .int 0, .ref ob]) (rest := [.int 0, .ref ob]) (g_VX X m_L_89 hM (hBr.recv X 0 rfl (q := (RX8, TX8, 9)) rfl) hT hS hA0 dL_livesIn_4 hl.1 rfl rfl ⟨Nat.le_of_ble_eq_true rfl, Nat.le_of_ble_eq_true rfl⟩ (Nat.le_of_ble_eq_true rfl) ⟨Nat.le_of_ble_eq_true rfl, Nat.le_of_ble_eq_true rfl⟩) hS (fun q h => Or.inl h) (fun u => [.int (ri u), .int 0, .ref ob]) (fun u => by rw [hrv u]; rfl) (fun k ce q9 H1 locs1 hx9 hz9 ho9 hS9 hce hcv hcl => ?_) (fun u H1 locs1 hp9 hP9 hz9 hk9 hS9 => ?_)
  · rcases hxx k hx9 with rfl | rfl
    · refine g_catch (k := 0) X htab [] [(0, 9, 15, 34)] (a := 0) (b9 := 9) (hp := 12) (ct := 13) rfl (fun z hz => absurd hz List.not_mem_nil) rfl (by decide) xl_13 xc_0 hce hcv hcl ?_
      refine lv_astore_n (lv' := [(3, .ref q9), (0, .ref (ar 0)), (1, .int x1), (2, .ref ob)]) hx hb dL_livesIn_12 rfl hl (by decide) rfl (fun ls hl => ?_)
      refine lv_iconst (v := 1) hx hb dL_livesIn_13 (by decide) ?_
      exact e_i X hr dL_livesIn_14 hS9 (Sum.inr 0) rfl hx9 ⟨ho.kept (ho9 ob hoA2), ho9⟩ ⟨Nat.le_of_ble_eq_true rfl, Nat.le_of_ble_eq_true rfl⟩
    · refine g_catch (k := 4) X htab [(0, 9, 12, 13)] [] (a := 0) (b9 := 9) (hp := 15) (ct := 34) rfl (List.forall_mem_cons.mpr ⟨⟨by decide, _, xl_13, hN 4 0 (by decide) (by decide) (by decide)⟩, (fun z hz => absurd hz List.not_mem_nil)⟩) rfl (by decide) xl_34 xc_4 hce hcv hcl ?_
      refine lv_astore_n (lv' := [(3, .ref q9), (0, .ref (ar 0)), (1, .int x1), (2, .ref ob)]) hx hb dL_livesIn_15 rfl hl (by decide) rfl (fun ls hl => ?_)
      refine lv_iconst (v := 2) hx hb dL_livesIn_16 (by decide) ?_
      exact e_i X hr dL_livesIn_17 hS9 (Sum.inr 4) rfl hx9 ⟨ho.kept (ho9 ob hoA2), ho9⟩ ⟨Nat.le_of_ble_eq_true rfl, Nat.le_of_ble_eq_true rfl⟩
  have hat9 := ho.kept (hk9 ob hoA2 hoA)
  refine lv_i2l (v := (ri u).toInt64) hx hb dL_livesIn_7 rfl ?_
  refine x_last (A := fun q : Nat => A1 q ∨ q = ob) X dL_livesIn_8 hat9 (Or.inr rfl) hS9 in01 (fun H2 locs2 hat2 oq2 hz2 hS2 => ?_)
  refine lv_goto (tgt := 18) hx hb dL_livesIn_9 (by decide) ?_
  refine lv_iconst (v := 0) hx hb dL_livesIn_18 (by decide) ?_
  exact e_i X hr dL_livesIn_19 hS2 (Sum.inl u) rfl hp9 ⟨hat2, H1, hP9, hz2, oq2⟩ ⟨Nat.le_of_ble_eq_true rfl, Nat.le_of_ble_eq_true rfl⟩
abbrev rm_L_burst : Room := { frames := 9, cells := 3, slots := 18, locals := 155 }
set_option maxHeartbeats 4000000 in
theorem k_L_burst (l : Launch) (D : va_G) (tc : Nat → ClassId) (h0 : Nat) (sa : Nat → Nat) (H0 : Heap) (ob : Nat) (x1 : Int32) (x2 : Int32) {S : Type} {A1 : Nat → Prop} {post : S → Prop} {POST : S → Heap → Prop} {rv : S → Option Value} {xpost : Nat → Prop} {ri : S → Int32} {f : Nat → Int64} {wa : Nat} {ar : Nat → Nat} {Ar : Nat → Prop} {sp : Option Nat} {ns np nf : Nat} {sd pd fd : Nat → Nat → Nat} {sums : Nat → Int64} {r : Dt} (hBr : Blk D tc Ar (shR wa sp ns np nf sd pd fd sums ar) ar r H0) (hM : MX l yX8_burst cX8_burst 4 (Option.some FieldType.int) rm_X8_burst A1 [.ref (ar 0), .int x1, .int x2] D tc h0 sa H0 post POST rv xpost) (hrv : ∀ u, rv u = some (.int (ri u))) (ho : va_at D vwCl (ob, .inl (tc 3, 1, .inr (.inl f))) H0) (hoA : ¬ A1 ob) (hA0 : ∀ q, A1 q ∨ q = ob → h0 ≤ q) (hx : ∀ k, xpost k → k = 0 ∨ k = 1 ∨ k = 3 ∨ k = 2) : ML l yL_burst cL_burst 5 [(0, 10, 13, 13), (0, 10, 17, 15), (0, 10, 21, 70), (0, 10, 25, 64)] rm_L_burst (fun q : Nat => A1 q ∨ q = ob) [.ref (ar 0), .int x1, .int x2, .ref ob] D tc h0 sa H0 (LPo post xpost) (LQo D tc ob f (fun u => (ri u).toInt64) POST H0) (LRo (fun k => xnum [0, 1, 3, 2] k 1)) := by
  refine ML.of RL [(0, .ref (ar 0)), (1, .int x1), (2, .int x2), (3, .ref ob)] (by decide +kernel) rfl (Nat.le_of_ble_eq_true rfl) rfl ?_
  intro p e s m below meth c ls X hN hr htab hT hH hS hl
  subst hH
  have hxx := hx
  have hx := X.1
  have hb := X.2.1
  have hoA2 := ho.lt
  refine lv_aload_n hx hb dL_burst_0 rfl (lv_at hl 3 rfl) ?_
  refine lv_iconst (v := 0) hx hb dL_burst_1 (by decide) ?_
  refine lv_aload_n hx hb dL_burst_2 rfl (lv_at hl 0 rfl) ?_
  refine lv_iload_n hx hb dL_burst_3 rfl (lv_at hl 1 rfl) ?_
  refine lv_iload_n hx hb dL_burst_4 rfl (lv_at hl 2 rfl) ?_
  refine g_afterX (A := fun q : Nat => A1 q ∨ q = ob) (st0 := [.int x2, .int x1, .ref (ar 0), .int 0, .ref ob]) (rest := [.int 0, .ref ob]) (g_VX X m_L_92 hM (hBr.recv X 0 rfl (q := (RX8, TX8, 9)) rfl) hT hS hA0 dL_burst_5 hl.1 rfl rfl ⟨Nat.le_of_ble_eq_true rfl, Nat.le_of_ble_eq_true rfl⟩ (Nat.le_of_ble_eq_true rfl) ⟨Nat.le_of_ble_eq_true rfl, Nat.le_of_ble_eq_true rfl⟩) hS (fun q h => Or.inl h) (fun u => [.int (ri u), .int 0, .ref ob]) (fun u => by rw [hrv u]; rfl) (fun k ce q9 H1 locs1 hx9 hz9 ho9 hS9 hce hcv hcl => ?_) (fun u H1 locs1 hp9 hP9 hz9 hk9 hS9 => ?_)
  · rcases hxx k hx9 with rfl | rfl | rfl | rfl
    · refine g_catch (k := 0) X htab [] [(0, 10, 17, 15), (0, 10, 21, 70), (0, 10, 25, 64)] (a := 0) (b9 := 10) (hp := 13) (ct := 13) rfl (fun z hz => absurd hz List.not_mem_nil) rfl (by decide) xl_13 xc_0 hce hcv hcl ?_
      refine lv_astore (lv' := [(4, .ref q9), (0, .ref (ar 0)), (1, .int x1), (2, .int x2), (3, .ref ob)]) hx hb dL_burst_13 hl (by decide) rfl (fun ls hl => ?_)
      refine lv_iconst (v := 1) hx hb dL_burst_15 (by decide) ?_
      exact e_i X hr dL_burst_16 hS9 (Sum.inr 0) rfl hx9 ⟨ho.kept (ho9 ob hoA2), ho9⟩ ⟨Nat.le_of_ble_eq_true rfl, Nat.le_of_ble_eq_true rfl⟩
    · refine g_catch (k := 1) X htab [(0, 10, 13, 13)] [(0, 10, 21, 70), (0, 10, 25, 64)] (a := 0) (b9 := 10) (hp := 17) (ct := 15) rfl (List.forall_mem_cons.mpr ⟨⟨by decide, _, xl_13, hN 1 0 (by decide) (by decide) (by decide)⟩, (fun z hz => absurd hz List.not_mem_nil)⟩) rfl (by decide) xl_15 xc_1 hce hcv hcl ?_
      refine lv_astore (lv' := [(4, .ref q9), (0, .ref (ar 0)), (1, .int x1), (2, .int x2), (3, .ref ob)]) hx hb dL_burst_17 hl (by decide) rfl (fun ls hl => ?_)
      refine lv_iconst (v := 2) hx hb dL_burst_19 (by decide) ?_
      exact e_i X hr dL_burst_20 hS9 (Sum.inr 1) rfl hx9 ⟨ho.kept (ho9 ob hoA2), ho9⟩ ⟨Nat.le_of_ble_eq_true rfl, Nat.le_of_ble_eq_true rfl⟩
    · refine g_catch (k := 3) X htab [(0, 10, 13, 13), (0, 10, 17, 15)] [(0, 10, 25, 64)] (a := 0) (b9 := 10) (hp := 21) (ct := 70) rfl (List.forall_mem_cons.mpr ⟨⟨by decide, _, xl_13, hN 3 0 (by decide) (by decide) (by decide)⟩, (List.forall_mem_cons.mpr ⟨⟨by decide, _, xl_15, hN 3 1 (by decide) (by decide) (by decide)⟩, (fun z hz => absurd hz List.not_mem_nil)⟩)⟩) rfl (by decide) xl_70 xc_3 hce hcv hcl ?_
      refine lv_astore (lv' := [(4, .ref q9), (0, .ref (ar 0)), (1, .int x1), (2, .int x2), (3, .ref ob)]) hx hb dL_burst_21 hl (by decide) rfl (fun ls hl => ?_)
      refine lv_iconst (v := 3) hx hb dL_burst_23 (by decide) ?_
      exact e_i X hr dL_burst_24 hS9 (Sum.inr 3) rfl hx9 ⟨ho.kept (ho9 ob hoA2), ho9⟩ ⟨Nat.le_of_ble_eq_true rfl, Nat.le_of_ble_eq_true rfl⟩
    · refine g_catch (k := 2) X htab [(0, 10, 13, 13), (0, 10, 17, 15), (0, 10, 21, 70)] [] (a := 0) (b9 := 10) (hp := 25) (ct := 64) rfl (List.forall_mem_cons.mpr ⟨⟨by decide, _, xl_13, hN 2 0 (by decide) (by decide) (by decide)⟩, (List.forall_mem_cons.mpr ⟨⟨by decide, _, xl_15, hN 2 1 (by decide) (by decide) (by decide)⟩, (List.forall_mem_cons.mpr ⟨⟨by decide, _, xl_70, hN 2 3 (by decide) (by decide) (by decide)⟩, (fun z hz => absurd hz List.not_mem_nil)⟩)⟩)⟩) rfl (by decide) xl_64 xc_2 hce hcv hcl ?_
      refine lv_astore (lv' := [(4, .ref q9), (0, .ref (ar 0)), (1, .int x1), (2, .int x2), (3, .ref ob)]) hx hb dL_burst_25 hl (by decide) rfl (fun ls hl => ?_)
      refine lv_iconst (v := 4) hx hb dL_burst_27 (by decide) ?_
      exact e_i X hr dL_burst_28 hS9 (Sum.inr 2) rfl hx9 ⟨ho.kept (ho9 ob hoA2), ho9⟩ ⟨Nat.le_of_ble_eq_true rfl, Nat.le_of_ble_eq_true rfl⟩
  have hat9 := ho.kept (hk9 ob hoA2 hoA)
  refine lv_i2l (v := (ri u).toInt64) hx hb dL_burst_8 rfl ?_
  refine x_last (A := fun q : Nat => A1 q ∨ q = ob) X dL_burst_9 hat9 (Or.inr rfl) hS9 in01 (fun H2 locs2 hat2 oq2 hz2 hS2 => ?_)
  refine lv_goto (tgt := 29) hx hb dL_burst_10 (by decide) ?_
  refine lv_iconst (v := 0) hx hb dL_burst_29 (by decide) ?_
  exact e_i X hr dL_burst_30 hS2 (Sum.inl u) rfl hp9 ⟨hat2, H1, hP9, hz2, oq2⟩ ⟨Nat.le_of_ble_eq_true rfl, Nat.le_of_ble_eq_true rfl⟩
abbrev rm_L_strike : Room := { frames := 9, cells := 4, slots := 24, locals := 156 }
set_option maxHeartbeats 4000000 in
theorem k_L_strike (l : Launch) (D : va_G) (tc : Nat → ClassId) (h0 : Nat) (sa : Nat → Nat) (H0 : Heap) (ob : Nat) (x1 : Int32) (x2 : Int32) (x3 : Int32) {S : Type} {A1 : Nat → Prop} {post : S → Prop} {POST : S → Heap → Prop} {rv : S → Option Value} {xpost : Nat → Prop} {ri : S → Int32} {f : Nat → Int64} {wa : Nat} {ar : Nat → Nat} {Ar : Nat → Prop} {sp : Option Nat} {ns np nf : Nat} {sd pd fd : Nat → Nat → Nat} {sums : Nat → Int64} {r : Dt} (hBr : Blk D tc Ar (shR wa sp ns np nf sd pd fd sums ar) ar r H0) (hM : MX l yX8_strike cX8_strike 5 (Option.some FieldType.int) rm_X8_strike A1 [.ref (ar 0), .int x1, .int x2, .int x3] D tc h0 sa H0 post POST rv xpost) (hrv : ∀ u, rv u = some (.int (ri u))) (ho : va_at D vwCl (ob, .inl (tc 3, 1, .inr (.inl f))) H0) (hoA : ¬ A1 ob) (hA0 : ∀ q, A1 q ∨ q = ob → h0 ≤ q) (hx : ∀ k, xpost k → k = 0 ∨ k = 1 ∨ k = 2) : ML l yL_strike cL_strike 6 [(0, 12, 15, 13), (0, 12, 19, 15), (0, 12, 23, 64)] rm_L_strike (fun q : Nat => A1 q ∨ q = ob) [.ref (ar 0), .int x1, .int x2, .int x3, .ref ob] D tc h0 sa H0 (LPo post xpost) (LQo D tc ob f (fun u => (ri u).toInt64) POST H0) (LRo (fun k => xnum [0, 1, 2] k 1)) := by
  refine ML.of RL [(0, .ref (ar 0)), (1, .int x1), (2, .int x2), (3, .int x3), (4, .ref ob)] (by decide +kernel) rfl (Nat.le_of_ble_eq_true rfl) rfl ?_
  intro p e s m below meth c ls X hN hr htab hT hH hS hl
  subst hH
  have hxx := hx
  have hx := X.1
  have hb := X.2.1
  have hoA2 := ho.lt
  refine lv_aload hx hb dL_strike_0 (lv_at hl 4 rfl) ?_
  refine lv_iconst (v := 0) hx hb dL_strike_2 (by decide) ?_
  refine lv_aload_n hx hb dL_strike_3 rfl (lv_at hl 0 rfl) ?_
  refine lv_iload_n hx hb dL_strike_4 rfl (lv_at hl 1 rfl) ?_
  refine lv_iload_n hx hb dL_strike_5 rfl (lv_at hl 2 rfl) ?_
  refine lv_iload_n hx hb dL_strike_6 rfl (lv_at hl 3 rfl) ?_
  refine g_afterX (A := fun q : Nat => A1 q ∨ q = ob) (st0 := [.int x3, .int x2, .int x1, .ref (ar 0), .int 0, .ref ob]) (rest := [.int 0, .ref ob]) (g_VX X m_L_95 hM (hBr.recv X 0 rfl (q := (RX8, TX8, 9)) rfl) hT hS hA0 dL_strike_7 hl.1 rfl rfl ⟨Nat.le_of_ble_eq_true rfl, Nat.le_of_ble_eq_true rfl⟩ (Nat.le_of_ble_eq_true rfl) ⟨Nat.le_of_ble_eq_true rfl, Nat.le_of_ble_eq_true rfl⟩) hS (fun q h => Or.inl h) (fun u => [.int (ri u), .int 0, .ref ob]) (fun u => by rw [hrv u]; rfl) (fun k ce q9 H1 locs1 hx9 hz9 ho9 hS9 hce hcv hcl => ?_) (fun u H1 locs1 hp9 hP9 hz9 hk9 hS9 => ?_)
  · rcases hxx k hx9 with rfl | rfl | rfl
    · refine g_catch (k := 0) X htab [] [(0, 12, 19, 15), (0, 12, 23, 64)] (a := 0) (b9 := 12) (hp := 15) (ct := 13) rfl (fun z hz => absurd hz List.not_mem_nil) rfl (by decide) xl_13 xc_0 hce hcv hcl ?_
      refine lv_astore (lv' := [(5, .ref q9), (0, .ref (ar 0)), (1, .int x1), (2, .int x2), (3, .int x3), (4, .ref ob)]) hx hb dL_strike_15 hl (by decide) rfl (fun ls hl => ?_)
      refine lv_iconst (v := 1) hx hb dL_strike_17 (by decide) ?_
      exact e_i X hr dL_strike_18 hS9 (Sum.inr 0) rfl hx9 ⟨ho.kept (ho9 ob hoA2), ho9⟩ ⟨Nat.le_of_ble_eq_true rfl, Nat.le_of_ble_eq_true rfl⟩
    · refine g_catch (k := 1) X htab [(0, 12, 15, 13)] [(0, 12, 23, 64)] (a := 0) (b9 := 12) (hp := 19) (ct := 15) rfl (List.forall_mem_cons.mpr ⟨⟨by decide, _, xl_13, hN 1 0 (by decide) (by decide) (by decide)⟩, (fun z hz => absurd hz List.not_mem_nil)⟩) rfl (by decide) xl_15 xc_1 hce hcv hcl ?_
      refine lv_astore (lv' := [(5, .ref q9), (0, .ref (ar 0)), (1, .int x1), (2, .int x2), (3, .int x3), (4, .ref ob)]) hx hb dL_strike_19 hl (by decide) rfl (fun ls hl => ?_)
      refine lv_iconst (v := 2) hx hb dL_strike_21 (by decide) ?_
      exact e_i X hr dL_strike_22 hS9 (Sum.inr 1) rfl hx9 ⟨ho.kept (ho9 ob hoA2), ho9⟩ ⟨Nat.le_of_ble_eq_true rfl, Nat.le_of_ble_eq_true rfl⟩
    · refine g_catch (k := 2) X htab [(0, 12, 15, 13), (0, 12, 19, 15)] [] (a := 0) (b9 := 12) (hp := 23) (ct := 64) rfl (List.forall_mem_cons.mpr ⟨⟨by decide, _, xl_13, hN 2 0 (by decide) (by decide) (by decide)⟩, (List.forall_mem_cons.mpr ⟨⟨by decide, _, xl_15, hN 2 1 (by decide) (by decide) (by decide)⟩, (fun z hz => absurd hz List.not_mem_nil)⟩)⟩) rfl (by decide) xl_64 xc_2 hce hcv hcl ?_
      refine lv_astore (lv' := [(5, .ref q9), (0, .ref (ar 0)), (1, .int x1), (2, .int x2), (3, .int x3), (4, .ref ob)]) hx hb dL_strike_23 hl (by decide) rfl (fun ls hl => ?_)
      refine lv_iconst (v := 3) hx hb dL_strike_25 (by decide) ?_
      exact e_i X hr dL_strike_26 hS9 (Sum.inr 2) rfl hx9 ⟨ho.kept (ho9 ob hoA2), ho9⟩ ⟨Nat.le_of_ble_eq_true rfl, Nat.le_of_ble_eq_true rfl⟩
  have hat9 := ho.kept (hk9 ob hoA2 hoA)
  refine lv_i2l (v := (ri u).toInt64) hx hb dL_strike_10 rfl ?_
  refine x_last (A := fun q : Nat => A1 q ∨ q = ob) X dL_strike_11 hat9 (Or.inr rfl) hS9 in01 (fun H2 locs2 hat2 oq2 hz2 hS2 => ?_)
  refine lv_goto (tgt := 27) hx hb dL_strike_12 (by decide) ?_
  refine lv_iconst (v := 0) hx hb dL_strike_27 (by decide) ?_
  exact e_i X hr dL_strike_28 hS2 (Sum.inl u) rfl hp9 ⟨hat2, H1, hP9, hz2, oq2⟩ ⟨Nat.le_of_ble_eq_true rfl, Nat.le_of_ble_eq_true rfl⟩
abbrev rm_L_getWidth : Room := { frames := 8, cells := 1, slots := 6, locals := 132 }
set_option maxHeartbeats 4000000 in
theorem k_L_getWidth (l : Launch) (D : va_G) (tc : Nat → ClassId) (h0 : Nat) (sa : Nat → Nat) (H0 : Heap) (ob : Nat) (x1 : Int32) {S : Type} {A1 : Nat → Prop} {post : S → Prop} {POST : S → Heap → Prop} {rv : S → Option Value} {xpost : Nat → Prop} {ri : S → Int32} {f : Nat → Int64} {wa : Nat} {ar : Nat → Nat} {Ar : Nat → Prop} {sp : Option Nat} {ns np nf : Nat} {sd pd fd : Nat → Nat → Nat} {sums : Nat → Int64} {r : Dt} (hBr : Blk D tc Ar (shR wa sp ns np nf sd pd fd sums ar) ar r H0) (hM : MX l yX8_getWidth cX8_getWidth 2 (Option.some FieldType.int) rm_X8_getWidth A1 [.ref (ar 0), .int x1] D tc h0 sa H0 post POST rv xpost) (hrv : ∀ u, rv u = some (.int (ri u))) (ho : va_at D vwCl (ob, .inl (tc 3, 1, .inr (.inl f))) H0) (hoA : ¬ A1 ob) (hA0 : ∀ q, A1 q ∨ q = ob → h0 ≤ q) (hx : ∀ k, xpost k → k = 0) : ML l yL_getWidth cL_getWidth 4 [(0, 9, 12, 13)] rm_L_getWidth (fun q : Nat => A1 q ∨ q = ob) [.ref (ar 0), .int x1, .ref ob] D tc h0 sa H0 (LPo post xpost) (LQo D tc ob f (fun u => (ri u).toInt64) POST H0) (LRo (fun k => xnum [0] k 1)) := by
  refine ML.of RL [(0, .ref (ar 0)), (1, .int x1), (2, .ref ob)] (by decide +kernel) rfl (Nat.le_of_ble_eq_true rfl) rfl ?_
  intro p e s m below meth c ls X hN hr htab hT hH hS hl
  subst hH
  have hxx := hx
  have hx := X.1
  have hb := X.2.1
  have hoA2 := ho.lt
  refine lv_aload_n hx hb dL_getWidth_0 rfl (lv_at hl 2 rfl) ?_
  refine lv_iconst (v := 0) hx hb dL_getWidth_1 (by decide) ?_
  refine lv_aload_n hx hb dL_getWidth_2 rfl (lv_at hl 0 rfl) ?_
  refine lv_iload_n hx hb dL_getWidth_3 rfl (lv_at hl 1 rfl) ?_
  refine g_afterX (A := fun q : Nat => A1 q ∨ q = ob) (st0 := [.int x1, .ref (ar 0), .int 0, .ref ob]) (rest := [.int 0, .ref ob]) (g_VX X m_L_98 hM (hBr.recv X 0 rfl (q := (RX8, TX8, 9)) rfl) hT hS hA0 dL_getWidth_4 hl.1 rfl rfl ⟨Nat.le_of_ble_eq_true rfl, Nat.le_of_ble_eq_true rfl⟩ (Nat.le_of_ble_eq_true rfl) ⟨Nat.le_of_ble_eq_true rfl, Nat.le_of_ble_eq_true rfl⟩) hS (fun q h => Or.inl h) (fun u => [.int (ri u), .int 0, .ref ob]) (fun u => by rw [hrv u]; rfl) (fun k ce q9 H1 locs1 hx9 hz9 ho9 hS9 hce hcv hcl => ?_) (fun u H1 locs1 hp9 hP9 hz9 hk9 hS9 => ?_)
  · have ek := hxx k hx9
    subst ek
    refine g_catch (k := 0) X htab [] [] (a := 0) (b9 := 9) (hp := 12) (ct := 13) rfl (fun z hz => absurd hz List.not_mem_nil) rfl (by decide) xl_13 xc_0 hce hcv hcl ?_
    refine lv_astore_n (lv' := [(3, .ref q9), (0, .ref (ar 0)), (1, .int x1), (2, .ref ob)]) hx hb dL_getWidth_12 rfl hl (by decide) rfl (fun ls hl => ?_)
    refine lv_iconst (v := 1) hx hb dL_getWidth_13 (by decide) ?_
    exact e_i X hr dL_getWidth_14 hS9 (Sum.inr 0) rfl hx9 ⟨ho.kept (ho9 ob hoA2), ho9⟩ ⟨Nat.le_of_ble_eq_true rfl, Nat.le_of_ble_eq_true rfl⟩
  have hat9 := ho.kept (hk9 ob hoA2 hoA)
  refine lv_i2l (v := (ri u).toInt64) hx hb dL_getWidth_7 rfl ?_
  refine x_last (A := fun q : Nat => A1 q ∨ q = ob) X dL_getWidth_8 hat9 (Or.inr rfl) hS9 in01 (fun H2 locs2 hat2 oq2 hz2 hS2 => ?_)
  refine lv_goto (tgt := 15) hx hb dL_getWidth_9 (by decide) ?_
  refine lv_iconst (v := 0) hx hb dL_getWidth_15 (by decide) ?_
  exact e_i X hr dL_getWidth_16 hS2 (Sum.inl u) rfl hp9 ⟨hat2, H1, hP9, hz2, oq2⟩ ⟨Nat.le_of_ble_eq_true rfl, Nat.le_of_ble_eq_true rfl⟩
abbrev rm_L_scarTurns : Room := { frames := 8, cells := 1, slots := 6, locals := 132 }
set_option maxHeartbeats 4000000 in
theorem k_L_scarTurns (l : Launch) (D : va_G) (tc : Nat → ClassId) (h0 : Nat) (sa : Nat → Nat) (H0 : Heap) (ob : Nat) (x1 : Int32) {S : Type} {A1 : Nat → Prop} {post : S → Prop} {POST : S → Heap → Prop} {rv : S → Option Value} {xpost : Nat → Prop} {ri : S → Int32} {f : Nat → Int64} {wa : Nat} {ar : Nat → Nat} {Ar : Nat → Prop} {sp : Option Nat} {ns np nf : Nat} {sd pd fd : Nat → Nat → Nat} {sums : Nat → Int64} {r : Dt} (hBr : Blk D tc Ar (shR wa sp ns np nf sd pd fd sums ar) ar r H0) (hM : MX l yX8_scarTurns cX8_scarTurns 2 (Option.some FieldType.int) rm_X8_scarTurns A1 [.ref (ar 0), .int x1] D tc h0 sa H0 post POST rv xpost) (hrv : ∀ u, rv u = some (.int (ri u))) (ho : va_at D vwCl (ob, .inl (tc 3, 1, .inr (.inl f))) H0) (hoA : ¬ A1 ob) (hA0 : ∀ q, A1 q ∨ q = ob → h0 ≤ q) (hx : ∀ k, xpost k → k = 0) : ML l yL_scarTurns cL_scarTurns 4 [(0, 9, 12, 13)] rm_L_scarTurns (fun q : Nat => A1 q ∨ q = ob) [.ref (ar 0), .int x1, .ref ob] D tc h0 sa H0 (LPo post xpost) (LQo D tc ob f (fun u => (ri u).toInt64) POST H0) (LRo (fun k => xnum [0] k 1)) := by
  refine ML.of RL [(0, .ref (ar 0)), (1, .int x1), (2, .ref ob)] (by decide +kernel) rfl (Nat.le_of_ble_eq_true rfl) rfl ?_
  intro p e s m below meth c ls X hN hr htab hT hH hS hl
  subst hH
  have hxx := hx
  have hx := X.1
  have hb := X.2.1
  have hoA2 := ho.lt
  refine lv_aload_n hx hb dL_scarTurns_0 rfl (lv_at hl 2 rfl) ?_
  refine lv_iconst (v := 0) hx hb dL_scarTurns_1 (by decide) ?_
  refine lv_aload_n hx hb dL_scarTurns_2 rfl (lv_at hl 0 rfl) ?_
  refine lv_iload_n hx hb dL_scarTurns_3 rfl (lv_at hl 1 rfl) ?_
  refine g_afterX (A := fun q : Nat => A1 q ∨ q = ob) (st0 := [.int x1, .ref (ar 0), .int 0, .ref ob]) (rest := [.int 0, .ref ob]) (g_VX X m_L_101 hM (hBr.recv X 0 rfl (q := (RX8, TX8, 9)) rfl) hT hS hA0 dL_scarTurns_4 hl.1 rfl rfl ⟨Nat.le_of_ble_eq_true rfl, Nat.le_of_ble_eq_true rfl⟩ (Nat.le_of_ble_eq_true rfl) ⟨Nat.le_of_ble_eq_true rfl, Nat.le_of_ble_eq_true rfl⟩) hS (fun q h => Or.inl h) (fun u => [.int (ri u), .int 0, .ref ob]) (fun u => by rw [hrv u]; rfl) (fun k ce q9 H1 locs1 hx9 hz9 ho9 hS9 hce hcv hcl => ?_) (fun u H1 locs1 hp9 hP9 hz9 hk9 hS9 => ?_)
  · have ek := hxx k hx9
    subst ek
    refine g_catch (k := 0) X htab [] [] (a := 0) (b9 := 9) (hp := 12) (ct := 13) rfl (fun z hz => absurd hz List.not_mem_nil) rfl (by decide) xl_13 xc_0 hce hcv hcl ?_
    refine lv_astore_n (lv' := [(3, .ref q9), (0, .ref (ar 0)), (1, .int x1), (2, .ref ob)]) hx hb dL_scarTurns_12 rfl hl (by decide) rfl (fun ls hl => ?_)
    refine lv_iconst (v := 1) hx hb dL_scarTurns_13 (by decide) ?_
    exact e_i X hr dL_scarTurns_14 hS9 (Sum.inr 0) rfl hx9 ⟨ho.kept (ho9 ob hoA2), ho9⟩ ⟨Nat.le_of_ble_eq_true rfl, Nat.le_of_ble_eq_true rfl⟩
  have hat9 := ho.kept (hk9 ob hoA2 hoA)
  refine lv_i2l (v := (ri u).toInt64) hx hb dL_scarTurns_7 rfl ?_
  refine x_last (A := fun q : Nat => A1 q ∨ q = ob) X dL_scarTurns_8 hat9 (Or.inr rfl) hS9 in01 (fun H2 locs2 hat2 oq2 hz2 hS2 => ?_)
  refine lv_goto (tgt := 15) hx hb dL_scarTurns_9 (by decide) ?_
  refine lv_iconst (v := 0) hx hb dL_scarTurns_15 (by decide) ?_
  exact e_i X hr dL_scarTurns_16 hS2 (Sum.inl u) rfl hp9 ⟨hat2, H1, hP9, hz2, oq2⟩ ⟨Nat.le_of_ble_eq_true rfl, Nat.le_of_ble_eq_true rfl⟩
abbrev rm_L_turn : Room := { frames := 8, cells := 1, slots := 6, locals := 156 }
set_option maxHeartbeats 4000000 in
theorem k_L_turn (l : Launch) (D : va_G) (tc : Nat → ClassId) (h0 : Nat) (sa : Nat → Nat) (H0 : Heap) (ob : Nat) (x1 : Int32) {S : Type} {A1 : Nat → Prop} {post : S → Prop} {POST : S → Heap → Prop} {rv : S → Option Value} {xpost : Nat → Prop} {ri : S → Int32} {f : Nat → Int64} {wa : Nat} {ar : Nat → Nat} {Ar : Nat → Prop} {sp : Option Nat} {ns np nf : Nat} {sd pd fd : Nat → Nat → Nat} {sums : Nat → Int64} {r : Dt} (hBr : Blk D tc Ar (shR wa sp ns np nf sd pd fd sums ar) ar r H0) (hM : MX l yX8_turn cX8_turn 3 (Option.some FieldType.int) rm_X8_turn A1 [.ref (ar 0), .int x1] D tc h0 sa H0 post POST rv xpost) (hrv : ∀ u, rv u = some (.int (ri u))) (ho : va_at D vwCl (ob, .inl (tc 3, 1, .inr (.inl f))) H0) (hoA : ¬ A1 ob) (hA0 : ∀ q, A1 q ∨ q = ob → h0 ≤ q) (hx : ∀ k, xpost k → k = 1) : ML l yL_turn cL_turn 4 [(0, 9, 12, 15)] rm_L_turn (fun q : Nat => A1 q ∨ q = ob) [.ref (ar 0), .int x1, .ref ob] D tc h0 sa H0 (LPo post xpost) (LQo D tc ob f (fun u => (ri u).toInt64) POST H0) (LRo (fun k => xnum [1] k 1)) := by
  refine ML.of RL [(0, .ref (ar 0)), (1, .int x1), (2, .ref ob)] (by decide +kernel) rfl (Nat.le_of_ble_eq_true rfl) rfl ?_
  intro p e s m below meth c ls X hN hr htab hT hH hS hl
  subst hH
  have hxx := hx
  have hx := X.1
  have hb := X.2.1
  have hoA2 := ho.lt
  refine lv_aload_n hx hb dL_turn_0 rfl (lv_at hl 2 rfl) ?_
  refine lv_iconst (v := 0) hx hb dL_turn_1 (by decide) ?_
  refine lv_aload_n hx hb dL_turn_2 rfl (lv_at hl 0 rfl) ?_
  refine lv_iload_n hx hb dL_turn_3 rfl (lv_at hl 1 rfl) ?_
  refine g_afterX (A := fun q : Nat => A1 q ∨ q = ob) (st0 := [.int x1, .ref (ar 0), .int 0, .ref ob]) (rest := [.int 0, .ref ob]) (g_VX X m_L_104 hM (hBr.recv X 0 rfl (q := (RX8, TX8, 9)) rfl) hT hS hA0 dL_turn_4 hl.1 rfl rfl ⟨Nat.le_of_ble_eq_true rfl, Nat.le_of_ble_eq_true rfl⟩ (Nat.le_of_ble_eq_true rfl) ⟨Nat.le_of_ble_eq_true rfl, Nat.le_of_ble_eq_true rfl⟩) hS (fun q h => Or.inl h) (fun u => [.int (ri u), .int 0, .ref ob]) (fun u => by rw [hrv u]; rfl) (fun k ce q9 H1 locs1 hx9 hz9 ho9 hS9 hce hcv hcl => ?_) (fun u H1 locs1 hp9 hP9 hz9 hk9 hS9 => ?_)
  · have ek := hxx k hx9
    subst ek
    refine g_catch (k := 1) X htab [] [] (a := 0) (b9 := 9) (hp := 12) (ct := 15) rfl (fun z hz => absurd hz List.not_mem_nil) rfl (by decide) xl_15 xc_1 hce hcv hcl ?_
    refine lv_astore_n (lv' := [(3, .ref q9), (0, .ref (ar 0)), (1, .int x1), (2, .ref ob)]) hx hb dL_turn_12 rfl hl (by decide) rfl (fun ls hl => ?_)
    refine lv_iconst (v := 1) hx hb dL_turn_13 (by decide) ?_
    exact e_i X hr dL_turn_14 hS9 (Sum.inr 1) rfl hx9 ⟨ho.kept (ho9 ob hoA2), ho9⟩ ⟨Nat.le_of_ble_eq_true rfl, Nat.le_of_ble_eq_true rfl⟩
  have hat9 := ho.kept (hk9 ob hoA2 hoA)
  refine lv_i2l (v := (ri u).toInt64) hx hb dL_turn_7 rfl ?_
  refine x_last (A := fun q : Nat => A1 q ∨ q = ob) X dL_turn_8 hat9 (Or.inr rfl) hS9 in01 (fun H2 locs2 hat2 oq2 hz2 hS2 => ?_)
  refine lv_goto (tgt := 15) hx hb dL_turn_9 (by decide) ?_
  refine lv_iconst (v := 0) hx hb dL_turn_15 (by decide) ?_
  exact e_i X hr dL_turn_16 hS2 (Sum.inl u) rfl hp9 ⟨hat2, H1, hP9, hz2, oq2⟩ ⟨Nat.le_of_ble_eq_true rfl, Nat.le_of_ble_eq_true rfl⟩
abbrev rm_L_dropProbe : Room := { frames := 8, cells := 10, slots := 121, locals := 137 }
set_option maxHeartbeats 4000000 in
theorem k_L_dropProbe (l : Launch) (D : va_G) (tc : Nat → ClassId) (h0 : Nat) (sa : Nat → Nat) (H0 : Heap) (ob : Nat) (x1 : Int32) (x2 : Int32) (x3 : Int32) (x4 : Int32) {S : Type} {A1 : Nat → Prop} {post : S → Prop} {POST : S → Heap → Prop} {rv : S → Option Value} {xpost : Nat → Prop} {ri : S → Int32} {f : Nat → Int64} {wa : Nat} {ar : Nat → Nat} {Ar : Nat → Prop} {sp : Option Nat} {ns np nf : Nat} {sd pd fd : Nat → Nat → Nat} {sums : Nat → Int64} {r : Dt} (hBr : Blk D tc Ar (shR wa sp ns np nf sd pd fd sums ar) ar r H0) (hM : MX l yX8_dropProbe cX8_dropProbe 6 (Option.some FieldType.int) rm_X8_dropProbe A1 [.ref (ar 0), .int x1, .int x2, .int x3, .int x4] D tc h0 sa H0 post POST rv xpost) (hrv : ∀ u, rv u = some (.int (ri u))) (ho : va_at D vwCl (ob, .inl (tc 3, 1, .inr (.inl f))) H0) (hoA : ¬ A1 ob) (hA0 : ∀ q, A1 q ∨ q = ob → h0 ≤ q) (hx : ∀ k, xpost k → k = 1 ∨ k = 2) : ML l yL_dropProbe cL_dropProbe 7 [(0, 14, 17, 15), (0, 14, 21, 64)] rm_L_dropProbe (fun q : Nat => A1 q ∨ q = ob) [.ref (ar 0), .int x1, .int x2, .int x3, .int x4, .ref ob] D tc h0 sa H0 (LPo post xpost) (LQo D tc ob f (fun u => (ri u).toInt64) POST H0) (LRo (fun k => xnum [1, 2] k 1)) := by
  refine ML.of RL [(0, .ref (ar 0)), (1, .int x1), (2, .int x2), (3, .int x3), (4, .int x4), (5, .ref ob)] (by decide +kernel) rfl (Nat.le_of_ble_eq_true rfl) rfl ?_
  intro p e s m below meth c ls X hN hr htab hT hH hS hl
  subst hH
  have hxx := hx
  have hx := X.1
  have hb := X.2.1
  have hoA2 := ho.lt
  refine lv_aload hx hb dL_dropProbe_0 (lv_at hl 5 rfl) ?_
  refine lv_iconst (v := 0) hx hb dL_dropProbe_2 (by decide) ?_
  refine lv_aload_n hx hb dL_dropProbe_3 rfl (lv_at hl 0 rfl) ?_
  refine lv_iload_n hx hb dL_dropProbe_4 rfl (lv_at hl 1 rfl) ?_
  refine lv_iload_n hx hb dL_dropProbe_5 rfl (lv_at hl 2 rfl) ?_
  refine lv_iload_n hx hb dL_dropProbe_6 rfl (lv_at hl 3 rfl) ?_
  refine lv_iload hx hb dL_dropProbe_7 (lv_at hl 4 rfl) ?_
  refine g_afterX (A := fun q : Nat => A1 q ∨ q = ob) (st0 := [.int x4, .int x3, .int x2, .int x1, .ref (ar 0), .int 0, .ref ob]) (rest := [.int 0, .ref ob]) (g_VX X m_L_107 hM (hBr.recv X 0 rfl (q := (RX8, TX8, 9)) rfl) hT hS hA0 dL_dropProbe_9 hl.1 rfl rfl ⟨Nat.le_of_ble_eq_true rfl, Nat.le_of_ble_eq_true rfl⟩ (Nat.le_of_ble_eq_true rfl) ⟨Nat.le_of_ble_eq_true rfl, Nat.le_of_ble_eq_true rfl⟩) hS (fun q h => Or.inl h) (fun u => [.int (ri u), .int 0, .ref ob]) (fun u => by rw [hrv u]; rfl) (fun k ce q9 H1 locs1 hx9 hz9 ho9 hS9 hce hcv hcl => ?_) (fun u H1 locs1 hp9 hP9 hz9 hk9 hS9 => ?_)
  · rcases hxx k hx9 with rfl | rfl
    · refine g_catch (k := 1) X htab [] [(0, 14, 21, 64)] (a := 0) (b9 := 14) (hp := 17) (ct := 15) rfl (fun z hz => absurd hz List.not_mem_nil) rfl (by decide) xl_15 xc_1 hce hcv hcl ?_
      refine lv_astore (lv' := [(6, .ref q9), (0, .ref (ar 0)), (1, .int x1), (2, .int x2), (3, .int x3), (4, .int x4), (5, .ref ob)]) hx hb dL_dropProbe_17 hl (by decide) rfl (fun ls hl => ?_)
      refine lv_iconst (v := 1) hx hb dL_dropProbe_19 (by decide) ?_
      exact e_i X hr dL_dropProbe_20 hS9 (Sum.inr 1) rfl hx9 ⟨ho.kept (ho9 ob hoA2), ho9⟩ ⟨Nat.le_of_ble_eq_true rfl, Nat.le_of_ble_eq_true rfl⟩
    · refine g_catch (k := 2) X htab [(0, 14, 17, 15)] [] (a := 0) (b9 := 14) (hp := 21) (ct := 64) rfl (List.forall_mem_cons.mpr ⟨⟨by decide, _, xl_15, hN 2 1 (by decide) (by decide) (by decide)⟩, (fun z hz => absurd hz List.not_mem_nil)⟩) rfl (by decide) xl_64 xc_2 hce hcv hcl ?_
      refine lv_astore (lv' := [(6, .ref q9), (0, .ref (ar 0)), (1, .int x1), (2, .int x2), (3, .int x3), (4, .int x4), (5, .ref ob)]) hx hb dL_dropProbe_21 hl (by decide) rfl (fun ls hl => ?_)
      refine lv_iconst (v := 2) hx hb dL_dropProbe_23 (by decide) ?_
      exact e_i X hr dL_dropProbe_24 hS9 (Sum.inr 2) rfl hx9 ⟨ho.kept (ho9 ob hoA2), ho9⟩ ⟨Nat.le_of_ble_eq_true rfl, Nat.le_of_ble_eq_true rfl⟩
  have hat9 := ho.kept (hk9 ob hoA2 hoA)
  refine lv_i2l (v := (ri u).toInt64) hx hb dL_dropProbe_12 rfl ?_
  refine x_last (A := fun q : Nat => A1 q ∨ q = ob) X dL_dropProbe_13 hat9 (Or.inr rfl) hS9 in01 (fun H2 locs2 hat2 oq2 hz2 hS2 => ?_)
  refine lv_goto (tgt := 25) hx hb dL_dropProbe_14 (by decide) ?_
  refine lv_iconst (v := 0) hx hb dL_dropProbe_25 (by decide) ?_
  exact e_i X hr dL_dropProbe_26 hS2 (Sum.inl u) rfl hp9 ⟨hat2, H1, hP9, hz2, oq2⟩ ⟨Nat.le_of_ble_eq_true rfl, Nat.le_of_ble_eq_true rfl⟩
abbrev rm_L_tick : Room := { frames := 9, cells := 3, slots := 18, locals := 155 }
set_option maxHeartbeats 4000000 in
theorem k_L_tick (l : Launch) (D : va_G) (tc : Nat → ClassId) (h0 : Nat) (sa : Nat → Nat) (H0 : Heap) (ob : Nat) (x1 : Int32) {S : Type} {A1 : Nat → Prop} {post : S → Prop} {POST : S → Heap → Prop} {rv : S → Option Value} {xpost : Nat → Prop} {ri : S → Int32} {f : Nat → Int64} {wa : Nat} {ar : Nat → Nat} {Ar : Nat → Prop} {sp : Option Nat} {ns np nf : Nat} {sd pd fd : Nat → Nat → Nat} {sums : Nat → Int64} {r : Dt} (hBr : Blk D tc Ar (shR wa sp ns np nf sd pd fd sums ar) ar r H0) (hM : MX l yX8_tick cX8_tick 3 (Option.some FieldType.int) rm_X8_tick A1 [.ref (ar 0), .int x1] D tc h0 sa H0 post POST rv xpost) (hrv : ∀ u, rv u = some (.int (ri u))) (ho : va_at D vwCl (ob, .inl (tc 3, 1, .inr (.inl f))) H0) (hoA : ¬ A1 ob) (hA0 : ∀ q, A1 q ∨ q = ob → h0 ≤ q) (hx : ∀ k, xpost k → k = 0 ∨ k = 3) : ML l yL_tick cL_tick 4 [(0, 9, 12, 13), (0, 9, 15, 70)] rm_L_tick (fun q : Nat => A1 q ∨ q = ob) [.ref (ar 0), .int x1, .ref ob] D tc h0 sa H0 (LPo post xpost) (LQo D tc ob f (fun u => (ri u).toInt64) POST H0) (LRo (fun k => xnum [0, 3] k 1)) := by
  refine ML.of RL [(0, .ref (ar 0)), (1, .int x1), (2, .ref ob)] (by decide +kernel) rfl (Nat.le_of_ble_eq_true rfl) rfl ?_
  intro p e s m below meth c ls X hN hr htab hT hH hS hl
  subst hH
  have hxx := hx
  have hx := X.1
  have hb := X.2.1
  have hoA2 := ho.lt
  refine lv_aload_n hx hb dL_tick_0 rfl (lv_at hl 2 rfl) ?_
  refine lv_iconst (v := 0) hx hb dL_tick_1 (by decide) ?_
  refine lv_aload_n hx hb dL_tick_2 rfl (lv_at hl 0 rfl) ?_
  refine lv_iload_n hx hb dL_tick_3 rfl (lv_at hl 1 rfl) ?_
  refine g_afterX (A := fun q : Nat => A1 q ∨ q = ob) (st0 := [.int x1, .ref (ar 0), .int 0, .ref ob]) (rest := [.int 0, .ref ob]) (g_VX X m_L_111 hM (hBr.recv X 0 rfl (q := (RX8, TX8, 9)) rfl) hT hS hA0 dL_tick_4 hl.1 rfl rfl ⟨Nat.le_of_ble_eq_true rfl, Nat.le_of_ble_eq_true rfl⟩ (Nat.le_of_ble_eq_true rfl) ⟨Nat.le_of_ble_eq_true rfl, Nat.le_of_ble_eq_true rfl⟩) hS (fun q h => Or.inl h) (fun u => [.int (ri u), .int 0, .ref ob]) (fun u => by rw [hrv u]; rfl) (fun k ce q9 H1 locs1 hx9 hz9 ho9 hS9 hce hcv hcl => ?_) (fun u H1 locs1 hp9 hP9 hz9 hk9 hS9 => ?_)
  · rcases hxx k hx9 with rfl | rfl
    · refine g_catch (k := 0) X htab [] [(0, 9, 15, 70)] (a := 0) (b9 := 9) (hp := 12) (ct := 13) rfl (fun z hz => absurd hz List.not_mem_nil) rfl (by decide) xl_13 xc_0 hce hcv hcl ?_
      refine lv_astore_n (lv' := [(3, .ref q9), (0, .ref (ar 0)), (1, .int x1), (2, .ref ob)]) hx hb dL_tick_12 rfl hl (by decide) rfl (fun ls hl => ?_)
      refine lv_iconst (v := 1) hx hb dL_tick_13 (by decide) ?_
      exact e_i X hr dL_tick_14 hS9 (Sum.inr 0) rfl hx9 ⟨ho.kept (ho9 ob hoA2), ho9⟩ ⟨Nat.le_of_ble_eq_true rfl, Nat.le_of_ble_eq_true rfl⟩
    · refine g_catch (k := 3) X htab [(0, 9, 12, 13)] [] (a := 0) (b9 := 9) (hp := 15) (ct := 70) rfl (List.forall_mem_cons.mpr ⟨⟨by decide, _, xl_13, hN 3 0 (by decide) (by decide) (by decide)⟩, (fun z hz => absurd hz List.not_mem_nil)⟩) rfl (by decide) xl_70 xc_3 hce hcv hcl ?_
      refine lv_astore_n (lv' := [(3, .ref q9), (0, .ref (ar 0)), (1, .int x1), (2, .ref ob)]) hx hb dL_tick_15 rfl hl (by decide) rfl (fun ls hl => ?_)
      refine lv_iconst (v := 2) hx hb dL_tick_16 (by decide) ?_
      exact e_i X hr dL_tick_17 hS9 (Sum.inr 3) rfl hx9 ⟨ho.kept (ho9 ob hoA2), ho9⟩ ⟨Nat.le_of_ble_eq_true rfl, Nat.le_of_ble_eq_true rfl⟩
  have hat9 := ho.kept (hk9 ob hoA2 hoA)
  refine lv_i2l (v := (ri u).toInt64) hx hb dL_tick_7 rfl ?_
  refine x_last (A := fun q : Nat => A1 q ∨ q = ob) X dL_tick_8 hat9 (Or.inr rfl) hS9 in01 (fun H2 locs2 hat2 oq2 hz2 hS2 => ?_)
  refine lv_goto (tgt := 18) hx hb dL_tick_9 (by decide) ?_
  refine lv_iconst (v := 0) hx hb dL_tick_18 (by decide) ?_
  exact e_i X hr dL_tick_19 hS2 (Sum.inl u) rfl hp9 ⟨hat2, H1, hP9, hz2, oq2⟩ ⟨Nat.le_of_ble_eq_true rfl, Nat.le_of_ble_eq_true rfl⟩
abbrev rm_L_sent : Room := { frames := 9, cells := 2, slots := 12, locals := 154 }
set_option maxHeartbeats 4000000 in
theorem k_L_sent (l : Launch) (D : va_G) (tc : Nat → ClassId) (h0 : Nat) (sa : Nat → Nat) (H0 : Heap) (ob : Nat) (x1 : Int32) {S : Type} {A1 : Nat → Prop} {post : S → Prop} {POST : S → Heap → Prop} {rv : S → Option Value} {xpost : Nat → Prop} {ri : S → Int32} {f : Nat → Int64} {wa : Nat} {ar : Nat → Nat} {Ar : Nat → Prop} {sp : Option Nat} {ns np nf : Nat} {sd pd fd : Nat → Nat → Nat} {sums : Nat → Int64} {r : Dt} (hBr : Blk D tc Ar (shR wa sp ns np nf sd pd fd sums ar) ar r H0) (hM : MX l yX8_sent cX8_sent 2 (Option.some FieldType.int) rm_X8_sent A1 [.ref (ar 0), .int x1] D tc h0 sa H0 post POST rv xpost) (hrv : ∀ u, rv u = some (.int (ri u))) (ho : va_at D vwCl (ob, .inl (tc 3, 1, .inr (.inl f))) H0) (hoA : ¬ A1 ob) (hA0 : ∀ q, A1 q ∨ q = ob → h0 ≤ q) (hx : ∀ k, xpost k → k = 0) : ML l yL_sent cL_sent 4 [(0, 9, 12, 13)] rm_L_sent (fun q : Nat => A1 q ∨ q = ob) [.ref (ar 0), .int x1, .ref ob] D tc h0 sa H0 (LPo post xpost) (LQo D tc ob f (fun u => (ri u).toInt64) POST H0) (LRo (fun k => xnum [0] k 1)) := by
  refine ML.of RL [(0, .ref (ar 0)), (1, .int x1), (2, .ref ob)] (by decide +kernel) rfl (Nat.le_of_ble_eq_true rfl) rfl ?_
  intro p e s m below meth c ls X hN hr htab hT hH hS hl
  subst hH
  have hxx := hx
  have hx := X.1
  have hb := X.2.1
  have hoA2 := ho.lt
  refine lv_aload_n hx hb dL_sent_0 rfl (lv_at hl 2 rfl) ?_
  refine lv_iconst (v := 0) hx hb dL_sent_1 (by decide) ?_
  refine lv_aload_n hx hb dL_sent_2 rfl (lv_at hl 0 rfl) ?_
  refine lv_iload_n hx hb dL_sent_3 rfl (lv_at hl 1 rfl) ?_
  refine g_afterX (A := fun q : Nat => A1 q ∨ q = ob) (st0 := [.int x1, .ref (ar 0), .int 0, .ref ob]) (rest := [.int 0, .ref ob]) (g_VX X m_L_114 hM (hBr.recv X 0 rfl (q := (RX8, TX8, 9)) rfl) hT hS hA0 dL_sent_4 hl.1 rfl rfl ⟨Nat.le_of_ble_eq_true rfl, Nat.le_of_ble_eq_true rfl⟩ (Nat.le_of_ble_eq_true rfl) ⟨Nat.le_of_ble_eq_true rfl, Nat.le_of_ble_eq_true rfl⟩) hS (fun q h => Or.inl h) (fun u => [.int (ri u), .int 0, .ref ob]) (fun u => by rw [hrv u]; rfl) (fun k ce q9 H1 locs1 hx9 hz9 ho9 hS9 hce hcv hcl => ?_) (fun u H1 locs1 hp9 hP9 hz9 hk9 hS9 => ?_)
  · have ek := hxx k hx9
    subst ek
    refine g_catch (k := 0) X htab [] [] (a := 0) (b9 := 9) (hp := 12) (ct := 13) rfl (fun z hz => absurd hz List.not_mem_nil) rfl (by decide) xl_13 xc_0 hce hcv hcl ?_
    refine lv_astore_n (lv' := [(3, .ref q9), (0, .ref (ar 0)), (1, .int x1), (2, .ref ob)]) hx hb dL_sent_12 rfl hl (by decide) rfl (fun ls hl => ?_)
    refine lv_iconst (v := 1) hx hb dL_sent_13 (by decide) ?_
    exact e_i X hr dL_sent_14 hS9 (Sum.inr 0) rfl hx9 ⟨ho.kept (ho9 ob hoA2), ho9⟩ ⟨Nat.le_of_ble_eq_true rfl, Nat.le_of_ble_eq_true rfl⟩
  have hat9 := ho.kept (hk9 ob hoA2 hoA)
  refine lv_i2l (v := (ri u).toInt64) hx hb dL_sent_7 rfl ?_
  refine x_last (A := fun q : Nat => A1 q ∨ q = ob) X dL_sent_8 hat9 (Or.inr rfl) hS9 in01 (fun H2 locs2 hat2 oq2 hz2 hS2 => ?_)
  refine lv_goto (tgt := 15) hx hb dL_sent_9 (by decide) ?_
  refine lv_iconst (v := 0) hx hb dL_sent_15 (by decide) ?_
  exact e_i X hr dL_sent_16 hS2 (Sum.inl u) rfl hp9 ⟨hat2, H1, hP9, hz2, oq2⟩ ⟨Nat.le_of_ble_eq_true rfl, Nat.le_of_ble_eq_true rfl⟩
abbrev rm_L_sentAt : Room := { frames := 9, cells := 3, slots := 18, locals := 158 }
set_option maxHeartbeats 4000000 in
theorem k_L_sentAt (l : Launch) (D : va_G) (tc : Nat → ClassId) (h0 : Nat) (sa : Nat → Nat) (H0 : Heap) (ob : Nat) (x1 : Int32) (x2 : Int32) (x3 : Int32) {S : Type} {A1 : Nat → Prop} {post : S → Prop} {POST : S → Heap → Prop} {rv : S → Option Value} {xpost : Nat → Prop} {ri : S → Int32} {f : Nat → Int64} {wa : Nat} {ar : Nat → Nat} {Ar : Nat → Prop} {sp : Option Nat} {ns np nf : Nat} {sd pd fd : Nat → Nat → Nat} {sums : Nat → Int64} {r : Dt} (hBr : Blk D tc Ar (shR wa sp ns np nf sd pd fd sums ar) ar r H0) (hM : MX l yX8_sentAt cX8_sentAt 6 (Option.some FieldType.int) rm_X8_sentAt A1 [.ref (ar 0), .int x1, .int x2, .int x3] D tc h0 sa H0 post POST rv xpost) (hrv : ∀ u, rv u = some (.int (ri u))) (ho : va_at D vwCl (ob, .inl (tc 3, 1, .inr (.inl f))) H0) (hoA : ¬ A1 ob) (hA0 : ∀ q, A1 q ∨ q = ob → h0 ≤ q) (hx : ∀ k, xpost k → k = 0 ∨ k = 1 ∨ k = 4) : ML l yL_sentAt cL_sentAt 6 [(0, 12, 15, 13), (0, 12, 19, 15), (0, 12, 23, 34)] rm_L_sentAt (fun q : Nat => A1 q ∨ q = ob) [.ref (ar 0), .int x1, .int x2, .int x3, .ref ob] D tc h0 sa H0 (LPo post xpost) (LQo D tc ob f (fun u => (ri u).toInt64) POST H0) (LRo (fun k => xnum [0, 1, 4] k 1)) := by
  refine ML.of RL [(0, .ref (ar 0)), (1, .int x1), (2, .int x2), (3, .int x3), (4, .ref ob)] (by decide +kernel) rfl (Nat.le_of_ble_eq_true rfl) rfl ?_
  intro p e s m below meth c ls X hN hr htab hT hH hS hl
  subst hH
  have hxx := hx
  have hx := X.1
  have hb := X.2.1
  have hoA2 := ho.lt
  refine lv_aload hx hb dL_sentAt_0 (lv_at hl 4 rfl) ?_
  refine lv_iconst (v := 0) hx hb dL_sentAt_2 (by decide) ?_
  refine lv_aload_n hx hb dL_sentAt_3 rfl (lv_at hl 0 rfl) ?_
  refine lv_iload_n hx hb dL_sentAt_4 rfl (lv_at hl 1 rfl) ?_
  refine lv_iload_n hx hb dL_sentAt_5 rfl (lv_at hl 2 rfl) ?_
  refine lv_iload_n hx hb dL_sentAt_6 rfl (lv_at hl 3 rfl) ?_
  refine g_afterX (A := fun q : Nat => A1 q ∨ q = ob) (st0 := [.int x3, .int x2, .int x1, .ref (ar 0), .int 0, .ref ob]) (rest := [.int 0, .ref ob]) (g_VX X m_L_117 hM (hBr.recv X 0 rfl (q := (RX8, TX8, 9)) rfl) hT hS hA0 dL_sentAt_7 hl.1 rfl rfl ⟨Nat.le_of_ble_eq_true rfl, Nat.le_of_ble_eq_true rfl⟩ (Nat.le_of_ble_eq_true rfl) ⟨Nat.le_of_ble_eq_true rfl, Nat.le_of_ble_eq_true rfl⟩) hS (fun q h => Or.inl h) (fun u => [.int (ri u), .int 0, .ref ob]) (fun u => by rw [hrv u]; rfl) (fun k ce q9 H1 locs1 hx9 hz9 ho9 hS9 hce hcv hcl => ?_) (fun u H1 locs1 hp9 hP9 hz9 hk9 hS9 => ?_)
  · rcases hxx k hx9 with rfl | rfl | rfl
    · refine g_catch (k := 0) X htab [] [(0, 12, 19, 15), (0, 12, 23, 34)] (a := 0) (b9 := 12) (hp := 15) (ct := 13) rfl (fun z hz => absurd hz List.not_mem_nil) rfl (by decide) xl_13 xc_0 hce hcv hcl ?_
      refine lv_astore (lv' := [(5, .ref q9), (0, .ref (ar 0)), (1, .int x1), (2, .int x2), (3, .int x3), (4, .ref ob)]) hx hb dL_sentAt_15 hl (by decide) rfl (fun ls hl => ?_)
      refine lv_iconst (v := 1) hx hb dL_sentAt_17 (by decide) ?_
      exact e_i X hr dL_sentAt_18 hS9 (Sum.inr 0) rfl hx9 ⟨ho.kept (ho9 ob hoA2), ho9⟩ ⟨Nat.le_of_ble_eq_true rfl, Nat.le_of_ble_eq_true rfl⟩
    · refine g_catch (k := 1) X htab [(0, 12, 15, 13)] [(0, 12, 23, 34)] (a := 0) (b9 := 12) (hp := 19) (ct := 15) rfl (List.forall_mem_cons.mpr ⟨⟨by decide, _, xl_13, hN 1 0 (by decide) (by decide) (by decide)⟩, (fun z hz => absurd hz List.not_mem_nil)⟩) rfl (by decide) xl_15 xc_1 hce hcv hcl ?_
      refine lv_astore (lv' := [(5, .ref q9), (0, .ref (ar 0)), (1, .int x1), (2, .int x2), (3, .int x3), (4, .ref ob)]) hx hb dL_sentAt_19 hl (by decide) rfl (fun ls hl => ?_)
      refine lv_iconst (v := 2) hx hb dL_sentAt_21 (by decide) ?_
      exact e_i X hr dL_sentAt_22 hS9 (Sum.inr 1) rfl hx9 ⟨ho.kept (ho9 ob hoA2), ho9⟩ ⟨Nat.le_of_ble_eq_true rfl, Nat.le_of_ble_eq_true rfl⟩
    · refine g_catch (k := 4) X htab [(0, 12, 15, 13), (0, 12, 19, 15)] [] (a := 0) (b9 := 12) (hp := 23) (ct := 34) rfl (List.forall_mem_cons.mpr ⟨⟨by decide, _, xl_13, hN 4 0 (by decide) (by decide) (by decide)⟩, (List.forall_mem_cons.mpr ⟨⟨by decide, _, xl_15, hN 4 1 (by decide) (by decide) (by decide)⟩, (fun z hz => absurd hz List.not_mem_nil)⟩)⟩) rfl (by decide) xl_34 xc_4 hce hcv hcl ?_
      refine lv_astore (lv' := [(5, .ref q9), (0, .ref (ar 0)), (1, .int x1), (2, .int x2), (3, .int x3), (4, .ref ob)]) hx hb dL_sentAt_23 hl (by decide) rfl (fun ls hl => ?_)
      refine lv_iconst (v := 3) hx hb dL_sentAt_25 (by decide) ?_
      exact e_i X hr dL_sentAt_26 hS9 (Sum.inr 4) rfl hx9 ⟨ho.kept (ho9 ob hoA2), ho9⟩ ⟨Nat.le_of_ble_eq_true rfl, Nat.le_of_ble_eq_true rfl⟩
  have hat9 := ho.kept (hk9 ob hoA2 hoA)
  refine lv_i2l (v := (ri u).toInt64) hx hb dL_sentAt_10 rfl ?_
  refine x_last (A := fun q : Nat => A1 q ∨ q = ob) X dL_sentAt_11 hat9 (Or.inr rfl) hS9 in01 (fun H2 locs2 hat2 oq2 hz2 hS2 => ?_)
  refine lv_goto (tgt := 27) hx hb dL_sentAt_12 (by decide) ?_
  refine lv_iconst (v := 0) hx hb dL_sentAt_27 (by decide) ?_
  exact e_i X hr dL_sentAt_28 hS2 (Sum.inl u) rfl hp9 ⟨hat2, H1, hP9, hz2, oq2⟩ ⟨Nat.le_of_ble_eq_true rfl, Nat.le_of_ble_eq_true rfl⟩
abbrev rm_L_lost : Room := { frames := 9, cells := 2, slots := 12, locals := 154 }
set_option maxHeartbeats 4000000 in
theorem k_L_lost (l : Launch) (D : va_G) (tc : Nat → ClassId) (h0 : Nat) (sa : Nat → Nat) (H0 : Heap) (ob : Nat) (x1 : Int32) {S : Type} {A1 : Nat → Prop} {post : S → Prop} {POST : S → Heap → Prop} {rv : S → Option Value} {xpost : Nat → Prop} {ri : S → Int32} {f : Nat → Int64} {wa : Nat} {ar : Nat → Nat} {Ar : Nat → Prop} {sp : Option Nat} {ns np nf : Nat} {sd pd fd : Nat → Nat → Nat} {sums : Nat → Int64} {r : Dt} (hBr : Blk D tc Ar (shR wa sp ns np nf sd pd fd sums ar) ar r H0) (hM : MX l yX8_lost cX8_lost 2 (Option.some FieldType.int) rm_X8_lost A1 [.ref (ar 0), .int x1] D tc h0 sa H0 post POST rv xpost) (hrv : ∀ u, rv u = some (.int (ri u))) (ho : va_at D vwCl (ob, .inl (tc 3, 1, .inr (.inl f))) H0) (hoA : ¬ A1 ob) (hA0 : ∀ q, A1 q ∨ q = ob → h0 ≤ q) (hx : ∀ k, xpost k → k = 0) : ML l yL_lost cL_lost 4 [(0, 9, 12, 13)] rm_L_lost (fun q : Nat => A1 q ∨ q = ob) [.ref (ar 0), .int x1, .ref ob] D tc h0 sa H0 (LPo post xpost) (LQo D tc ob f (fun u => (ri u).toInt64) POST H0) (LRo (fun k => xnum [0] k 1)) := by
  refine ML.of RL [(0, .ref (ar 0)), (1, .int x1), (2, .ref ob)] (by decide +kernel) rfl (Nat.le_of_ble_eq_true rfl) rfl ?_
  intro p e s m below meth c ls X hN hr htab hT hH hS hl
  subst hH
  have hxx := hx
  have hx := X.1
  have hb := X.2.1
  have hoA2 := ho.lt
  refine lv_aload_n hx hb dL_lost_0 rfl (lv_at hl 2 rfl) ?_
  refine lv_iconst (v := 0) hx hb dL_lost_1 (by decide) ?_
  refine lv_aload_n hx hb dL_lost_2 rfl (lv_at hl 0 rfl) ?_
  refine lv_iload_n hx hb dL_lost_3 rfl (lv_at hl 1 rfl) ?_
  refine g_afterX (A := fun q : Nat => A1 q ∨ q = ob) (st0 := [.int x1, .ref (ar 0), .int 0, .ref ob]) (rest := [.int 0, .ref ob]) (g_VX X m_L_121 hM (hBr.recv X 0 rfl (q := (RX8, TX8, 9)) rfl) hT hS hA0 dL_lost_4 hl.1 rfl rfl ⟨Nat.le_of_ble_eq_true rfl, Nat.le_of_ble_eq_true rfl⟩ (Nat.le_of_ble_eq_true rfl) ⟨Nat.le_of_ble_eq_true rfl, Nat.le_of_ble_eq_true rfl⟩) hS (fun q h => Or.inl h) (fun u => [.int (ri u), .int 0, .ref ob]) (fun u => by rw [hrv u]; rfl) (fun k ce q9 H1 locs1 hx9 hz9 ho9 hS9 hce hcv hcl => ?_) (fun u H1 locs1 hp9 hP9 hz9 hk9 hS9 => ?_)
  · have ek := hxx k hx9
    subst ek
    refine g_catch (k := 0) X htab [] [] (a := 0) (b9 := 9) (hp := 12) (ct := 13) rfl (fun z hz => absurd hz List.not_mem_nil) rfl (by decide) xl_13 xc_0 hce hcv hcl ?_
    refine lv_astore_n (lv' := [(3, .ref q9), (0, .ref (ar 0)), (1, .int x1), (2, .ref ob)]) hx hb dL_lost_12 rfl hl (by decide) rfl (fun ls hl => ?_)
    refine lv_iconst (v := 1) hx hb dL_lost_13 (by decide) ?_
    exact e_i X hr dL_lost_14 hS9 (Sum.inr 0) rfl hx9 ⟨ho.kept (ho9 ob hoA2), ho9⟩ ⟨Nat.le_of_ble_eq_true rfl, Nat.le_of_ble_eq_true rfl⟩
  have hat9 := ho.kept (hk9 ob hoA2 hoA)
  refine lv_i2l (v := (ri u).toInt64) hx hb dL_lost_7 rfl ?_
  refine x_last (A := fun q : Nat => A1 q ∨ q = ob) X dL_lost_8 hat9 (Or.inr rfl) hS9 in01 (fun H2 locs2 hat2 oq2 hz2 hS2 => ?_)
  refine lv_goto (tgt := 15) hx hb dL_lost_9 (by decide) ?_
  refine lv_iconst (v := 0) hx hb dL_lost_15 (by decide) ?_
  exact e_i X hr dL_lost_16 hS2 (Sum.inl u) rfl hp9 ⟨hat2, H1, hP9, hz2, oq2⟩ ⟨Nat.le_of_ble_eq_true rfl, Nat.le_of_ble_eq_true rfl⟩
abbrev rm_L_frame : Room := { frames := 9, cells := 5, slots := 40, locals := 155 }
set_option maxHeartbeats 4000000 in
theorem k_L_frame (l : Launch) (D : va_G) (tc : Nat → ClassId) (h0 : Nat) (sa : Nat → Nat) (H0 : Heap) (ob : Nat) (x1 : Int32) {S : Type} {A1 : Nat → Prop} {post : S → Prop} {POST : S → Heap → Prop} {rv : S → Option Value} {xpost : Nat → Prop} {ri : S → Int32} {f : Nat → Int64} {wa : Nat} {ar : Nat → Nat} {Ar : Nat → Prop} {sp : Option Nat} {ns np nf : Nat} {sd pd fd : Nat → Nat → Nat} {sums : Nat → Int64} {r : Dt} (hBr : Blk D tc Ar (shR wa sp ns np nf sd pd fd sums ar) ar r H0) (hM : MX l yX8_frame cX8_frame 4 (Option.some FieldType.int) rm_X8_frame A1 [.ref (ar 0), .int x1] D tc h0 sa H0 post POST rv xpost) (hrv : ∀ u, rv u = some (.int (ri u))) (ho : va_at D vwCl (ob, .inl (tc 3, 1, .inr (.inl f))) H0) (hoA : ¬ A1 ob) (hA0 : ∀ q, A1 q ∨ q = ob → h0 ≤ q) (hx : ∀ k, xpost k → k = 1 ∨ k = 2) : ML l yL_frame cL_frame 4 [(0, 9, 12, 15), (0, 9, 15, 64)] rm_L_frame (fun q : Nat => A1 q ∨ q = ob) [.ref (ar 0), .int x1, .ref ob] D tc h0 sa H0 (LPo post xpost) (LQo D tc ob f (fun u => (ri u).toInt64) POST H0) (LRo (fun k => xnum [1, 2] k 1)) := by
  refine ML.of RL [(0, .ref (ar 0)), (1, .int x1), (2, .ref ob)] (by decide +kernel) rfl (Nat.le_of_ble_eq_true rfl) rfl ?_
  intro p e s m below meth c ls X hN hr htab hT hH hS hl
  subst hH
  have hxx := hx
  have hx := X.1
  have hb := X.2.1
  have hoA2 := ho.lt
  refine lv_aload_n hx hb dL_frame_0 rfl (lv_at hl 2 rfl) ?_
  refine lv_iconst (v := 0) hx hb dL_frame_1 (by decide) ?_
  refine lv_aload_n hx hb dL_frame_2 rfl (lv_at hl 0 rfl) ?_
  refine lv_iload_n hx hb dL_frame_3 rfl (lv_at hl 1 rfl) ?_
  refine g_afterX (A := fun q : Nat => A1 q ∨ q = ob) (st0 := [.int x1, .ref (ar 0), .int 0, .ref ob]) (rest := [.int 0, .ref ob]) (g_VX X m_L_124 hM (hBr.recv X 0 rfl (q := (RX8, TX8, 9)) rfl) hT hS hA0 dL_frame_4 hl.1 rfl rfl ⟨Nat.le_of_ble_eq_true rfl, Nat.le_of_ble_eq_true rfl⟩ (Nat.le_of_ble_eq_true rfl) ⟨Nat.le_of_ble_eq_true rfl, Nat.le_of_ble_eq_true rfl⟩) hS (fun q h => Or.inl h) (fun u => [.int (ri u), .int 0, .ref ob]) (fun u => by rw [hrv u]; rfl) (fun k ce q9 H1 locs1 hx9 hz9 ho9 hS9 hce hcv hcl => ?_) (fun u H1 locs1 hp9 hP9 hz9 hk9 hS9 => ?_)
  · rcases hxx k hx9 with rfl | rfl
    · refine g_catch (k := 1) X htab [] [(0, 9, 15, 64)] (a := 0) (b9 := 9) (hp := 12) (ct := 15) rfl (fun z hz => absurd hz List.not_mem_nil) rfl (by decide) xl_15 xc_1 hce hcv hcl ?_
      refine lv_astore_n (lv' := [(3, .ref q9), (0, .ref (ar 0)), (1, .int x1), (2, .ref ob)]) hx hb dL_frame_12 rfl hl (by decide) rfl (fun ls hl => ?_)
      refine lv_iconst (v := 1) hx hb dL_frame_13 (by decide) ?_
      exact e_i X hr dL_frame_14 hS9 (Sum.inr 1) rfl hx9 ⟨ho.kept (ho9 ob hoA2), ho9⟩ ⟨Nat.le_of_ble_eq_true rfl, Nat.le_of_ble_eq_true rfl⟩
    · refine g_catch (k := 2) X htab [(0, 9, 12, 15)] [] (a := 0) (b9 := 9) (hp := 15) (ct := 64) rfl (List.forall_mem_cons.mpr ⟨⟨by decide, _, xl_15, hN 2 1 (by decide) (by decide) (by decide)⟩, (fun z hz => absurd hz List.not_mem_nil)⟩) rfl (by decide) xl_64 xc_2 hce hcv hcl ?_
      refine lv_astore_n (lv' := [(3, .ref q9), (0, .ref (ar 0)), (1, .int x1), (2, .ref ob)]) hx hb dL_frame_15 rfl hl (by decide) rfl (fun ls hl => ?_)
      refine lv_iconst (v := 2) hx hb dL_frame_16 (by decide) ?_
      exact e_i X hr dL_frame_17 hS9 (Sum.inr 2) rfl hx9 ⟨ho.kept (ho9 ob hoA2), ho9⟩ ⟨Nat.le_of_ble_eq_true rfl, Nat.le_of_ble_eq_true rfl⟩
  have hat9 := ho.kept (hk9 ob hoA2 hoA)
  refine lv_i2l (v := (ri u).toInt64) hx hb dL_frame_7 rfl ?_
  refine x_last (A := fun q : Nat => A1 q ∨ q = ob) X dL_frame_8 hat9 (Or.inr rfl) hS9 in01 (fun H2 locs2 hat2 oq2 hz2 hS2 => ?_)
  refine lv_goto (tgt := 18) hx hb dL_frame_9 (by decide) ?_
  refine lv_iconst (v := 0) hx hb dL_frame_18 (by decide) ?_
  exact e_i X hr dL_frame_19 hS2 (Sum.inl u) rfl hp9 ⟨hat2, H1, hP9, hz2, oq2⟩ ⟨Nat.le_of_ble_eq_true rfl, Nat.le_of_ble_eq_true rfl⟩
abbrev rm_L_countSeen : Room := { frames := 9, cells := 2, slots := 12, locals := 154 }
set_option maxHeartbeats 4000000 in
theorem k_L_countSeen (l : Launch) (D : va_G) (tc : Nat → ClassId) (h0 : Nat) (sa : Nat → Nat) (H0 : Heap) (ob : Nat) (x1 : Int32) {S : Type} {A1 : Nat → Prop} {post : S → Prop} {POST : S → Heap → Prop} {rv : S → Option Value} {xpost : Nat → Prop} {ri : S → Int32} {f : Nat → Int64} {wa : Nat} {ar : Nat → Nat} {Ar : Nat → Prop} {sp : Option Nat} {ns np nf : Nat} {sd pd fd : Nat → Nat → Nat} {sums : Nat → Int64} {r : Dt} (hBr : Blk D tc Ar (shR wa sp ns np nf sd pd fd sums ar) ar r H0) (hM : MX l yX8_countSeen cX8_countSeen 2 (Option.some FieldType.int) rm_X8_countSeen A1 [.ref (ar 0), .int x1] D tc h0 sa H0 post POST rv xpost) (hrv : ∀ u, rv u = some (.int (ri u))) (ho : va_at D vwCl (ob, .inl (tc 3, 1, .inr (.inl f))) H0) (hoA : ¬ A1 ob) (hA0 : ∀ q, A1 q ∨ q = ob → h0 ≤ q) (hx : ∀ k, xpost k → k = 0) : ML l yL_countSeen cL_countSeen 4 [(0, 9, 12, 13)] rm_L_countSeen (fun q : Nat => A1 q ∨ q = ob) [.ref (ar 0), .int x1, .ref ob] D tc h0 sa H0 (LPo post xpost) (LQo D tc ob f (fun u => (ri u).toInt64) POST H0) (LRo (fun k => xnum [0] k 1)) := by
  refine ML.of RL [(0, .ref (ar 0)), (1, .int x1), (2, .ref ob)] (by decide +kernel) rfl (Nat.le_of_ble_eq_true rfl) rfl ?_
  intro p e s m below meth c ls X hN hr htab hT hH hS hl
  subst hH
  have hxx := hx
  have hx := X.1
  have hb := X.2.1
  have hoA2 := ho.lt
  refine lv_aload_n hx hb dL_countSeen_0 rfl (lv_at hl 2 rfl) ?_
  refine lv_iconst (v := 0) hx hb dL_countSeen_1 (by decide) ?_
  refine lv_aload_n hx hb dL_countSeen_2 rfl (lv_at hl 0 rfl) ?_
  refine lv_iload_n hx hb dL_countSeen_3 rfl (lv_at hl 1 rfl) ?_
  refine g_afterX (A := fun q : Nat => A1 q ∨ q = ob) (st0 := [.int x1, .ref (ar 0), .int 0, .ref ob]) (rest := [.int 0, .ref ob]) (g_VX X m_L_127 hM (hBr.recv X 0 rfl (q := (RX8, TX8, 9)) rfl) hT hS hA0 dL_countSeen_4 hl.1 rfl rfl ⟨Nat.le_of_ble_eq_true rfl, Nat.le_of_ble_eq_true rfl⟩ (Nat.le_of_ble_eq_true rfl) ⟨Nat.le_of_ble_eq_true rfl, Nat.le_of_ble_eq_true rfl⟩) hS (fun q h => Or.inl h) (fun u => [.int (ri u), .int 0, .ref ob]) (fun u => by rw [hrv u]; rfl) (fun k ce q9 H1 locs1 hx9 hz9 ho9 hS9 hce hcv hcl => ?_) (fun u H1 locs1 hp9 hP9 hz9 hk9 hS9 => ?_)
  · have ek := hxx k hx9
    subst ek
    refine g_catch (k := 0) X htab [] [] (a := 0) (b9 := 9) (hp := 12) (ct := 13) rfl (fun z hz => absurd hz List.not_mem_nil) rfl (by decide) xl_13 xc_0 hce hcv hcl ?_
    refine lv_astore_n (lv' := [(3, .ref q9), (0, .ref (ar 0)), (1, .int x1), (2, .ref ob)]) hx hb dL_countSeen_12 rfl hl (by decide) rfl (fun ls hl => ?_)
    refine lv_iconst (v := 1) hx hb dL_countSeen_13 (by decide) ?_
    exact e_i X hr dL_countSeen_14 hS9 (Sum.inr 0) rfl hx9 ⟨ho.kept (ho9 ob hoA2), ho9⟩ ⟨Nat.le_of_ble_eq_true rfl, Nat.le_of_ble_eq_true rfl⟩
  have hat9 := ho.kept (hk9 ob hoA2 hoA)
  refine lv_i2l (v := (ri u).toInt64) hx hb dL_countSeen_7 rfl ?_
  refine x_last (A := fun q : Nat => A1 q ∨ q = ob) X dL_countSeen_8 hat9 (Or.inr rfl) hS9 in01 (fun H2 locs2 hat2 oq2 hz2 hS2 => ?_)
  refine lv_goto (tgt := 15) hx hb dL_countSeen_9 (by decide) ?_
  refine lv_iconst (v := 0) hx hb dL_countSeen_15 (by decide) ?_
  exact e_i X hr dL_countSeen_16 hS2 (Sum.inl u) rfl hp9 ⟨hat2, H1, hP9, hz2, oq2⟩ ⟨Nat.le_of_ble_eq_true rfl, Nat.le_of_ble_eq_true rfl⟩
abbrev rm_L_placeIn : Room := { frames := 9, cells := 4, slots := 24, locals := 157 }
set_option maxHeartbeats 4000000 in
theorem k_L_placeIn (l : Launch) (D : va_G) (tc : Nat → ClassId) (h0 : Nat) (sa : Nat → Nat) (H0 : Heap) (ob : Nat) (x1 : Int32) (x2 : Int32) {S : Type} {A1 : Nat → Prop} {post : S → Prop} {POST : S → Heap → Prop} {rv : S → Option Value} {xpost : Nat → Prop} {ri : S → Int32} {f : Nat → Int64} {wa : Nat} {ar : Nat → Nat} {Ar : Nat → Prop} {sp : Option Nat} {ns np nf : Nat} {sd pd fd : Nat → Nat → Nat} {sums : Nat → Int64} {r : Dt} (hBr : Blk D tc Ar (shR wa sp ns np nf sd pd fd sums ar) ar r H0) (hM : MX l yX8_placeIn cX8_placeIn 5 (Option.some FieldType.int) rm_X8_placeIn A1 [.ref (ar 0), .int x1, .int x2] D tc h0 sa H0 post POST rv xpost) (hrv : ∀ u, rv u = some (.int (ri u))) (ho : va_at D vwCl (ob, .inl (tc 3, 1, .inr (.inl f))) H0) (hoA : ¬ A1 ob) (hA0 : ∀ q, A1 q ∨ q = ob → h0 ≤ q) (hx : ∀ k, xpost k → k = 0 ∨ k = 1 ∨ k = 4) : ML l yL_placeIn cL_placeIn 5 [(0, 10, 13, 13), (0, 10, 17, 15), (0, 10, 21, 34)] rm_L_placeIn (fun q : Nat => A1 q ∨ q = ob) [.ref (ar 0), .int x1, .int x2, .ref ob] D tc h0 sa H0 (LPo post xpost) (LQo D tc ob f (fun u => (ri u).toInt64) POST H0) (LRo (fun k => xnum [0, 1, 4] k 1)) := by
  refine ML.of RL [(0, .ref (ar 0)), (1, .int x1), (2, .int x2), (3, .ref ob)] (by decide +kernel) rfl (Nat.le_of_ble_eq_true rfl) rfl ?_
  intro p e s m below meth c ls X hN hr htab hT hH hS hl
  subst hH
  have hxx := hx
  have hx := X.1
  have hb := X.2.1
  have hoA2 := ho.lt
  refine lv_aload_n hx hb dL_placeIn_0 rfl (lv_at hl 3 rfl) ?_
  refine lv_iconst (v := 0) hx hb dL_placeIn_1 (by decide) ?_
  refine lv_aload_n hx hb dL_placeIn_2 rfl (lv_at hl 0 rfl) ?_
  refine lv_iload_n hx hb dL_placeIn_3 rfl (lv_at hl 1 rfl) ?_
  refine lv_iload_n hx hb dL_placeIn_4 rfl (lv_at hl 2 rfl) ?_
  refine g_afterX (A := fun q : Nat => A1 q ∨ q = ob) (st0 := [.int x2, .int x1, .ref (ar 0), .int 0, .ref ob]) (rest := [.int 0, .ref ob]) (g_VX X m_L_130 hM (hBr.recv X 0 rfl (q := (RX8, TX8, 9)) rfl) hT hS hA0 dL_placeIn_5 hl.1 rfl rfl ⟨Nat.le_of_ble_eq_true rfl, Nat.le_of_ble_eq_true rfl⟩ (Nat.le_of_ble_eq_true rfl) ⟨Nat.le_of_ble_eq_true rfl, Nat.le_of_ble_eq_true rfl⟩) hS (fun q h => Or.inl h) (fun u => [.int (ri u), .int 0, .ref ob]) (fun u => by rw [hrv u]; rfl) (fun k ce q9 H1 locs1 hx9 hz9 ho9 hS9 hce hcv hcl => ?_) (fun u H1 locs1 hp9 hP9 hz9 hk9 hS9 => ?_)
  · rcases hxx k hx9 with rfl | rfl | rfl
    · refine g_catch (k := 0) X htab [] [(0, 10, 17, 15), (0, 10, 21, 34)] (a := 0) (b9 := 10) (hp := 13) (ct := 13) rfl (fun z hz => absurd hz List.not_mem_nil) rfl (by decide) xl_13 xc_0 hce hcv hcl ?_
      refine lv_astore (lv' := [(4, .ref q9), (0, .ref (ar 0)), (1, .int x1), (2, .int x2), (3, .ref ob)]) hx hb dL_placeIn_13 hl (by decide) rfl (fun ls hl => ?_)
      refine lv_iconst (v := 1) hx hb dL_placeIn_15 (by decide) ?_
      exact e_i X hr dL_placeIn_16 hS9 (Sum.inr 0) rfl hx9 ⟨ho.kept (ho9 ob hoA2), ho9⟩ ⟨Nat.le_of_ble_eq_true rfl, Nat.le_of_ble_eq_true rfl⟩
    · refine g_catch (k := 1) X htab [(0, 10, 13, 13)] [(0, 10, 21, 34)] (a := 0) (b9 := 10) (hp := 17) (ct := 15) rfl (List.forall_mem_cons.mpr ⟨⟨by decide, _, xl_13, hN 1 0 (by decide) (by decide) (by decide)⟩, (fun z hz => absurd hz List.not_mem_nil)⟩) rfl (by decide) xl_15 xc_1 hce hcv hcl ?_
      refine lv_astore (lv' := [(4, .ref q9), (0, .ref (ar 0)), (1, .int x1), (2, .int x2), (3, .ref ob)]) hx hb dL_placeIn_17 hl (by decide) rfl (fun ls hl => ?_)
      refine lv_iconst (v := 2) hx hb dL_placeIn_19 (by decide) ?_
      exact e_i X hr dL_placeIn_20 hS9 (Sum.inr 1) rfl hx9 ⟨ho.kept (ho9 ob hoA2), ho9⟩ ⟨Nat.le_of_ble_eq_true rfl, Nat.le_of_ble_eq_true rfl⟩
    · refine g_catch (k := 4) X htab [(0, 10, 13, 13), (0, 10, 17, 15)] [] (a := 0) (b9 := 10) (hp := 21) (ct := 34) rfl (List.forall_mem_cons.mpr ⟨⟨by decide, _, xl_13, hN 4 0 (by decide) (by decide) (by decide)⟩, (List.forall_mem_cons.mpr ⟨⟨by decide, _, xl_15, hN 4 1 (by decide) (by decide) (by decide)⟩, (fun z hz => absurd hz List.not_mem_nil)⟩)⟩) rfl (by decide) xl_34 xc_4 hce hcv hcl ?_
      refine lv_astore (lv' := [(4, .ref q9), (0, .ref (ar 0)), (1, .int x1), (2, .int x2), (3, .ref ob)]) hx hb dL_placeIn_21 hl (by decide) rfl (fun ls hl => ?_)
      refine lv_iconst (v := 3) hx hb dL_placeIn_23 (by decide) ?_
      exact e_i X hr dL_placeIn_24 hS9 (Sum.inr 4) rfl hx9 ⟨ho.kept (ho9 ob hoA2), ho9⟩ ⟨Nat.le_of_ble_eq_true rfl, Nat.le_of_ble_eq_true rfl⟩
  have hat9 := ho.kept (hk9 ob hoA2 hoA)
  refine lv_i2l (v := (ri u).toInt64) hx hb dL_placeIn_8 rfl ?_
  refine x_last (A := fun q : Nat => A1 q ∨ q = ob) X dL_placeIn_9 hat9 (Or.inr rfl) hS9 in01 (fun H2 locs2 hat2 oq2 hz2 hS2 => ?_)
  refine lv_goto (tgt := 25) hx hb dL_placeIn_10 (by decide) ?_
  refine lv_iconst (v := 0) hx hb dL_placeIn_25 (by decide) ?_
  exact e_i X hr dL_placeIn_26 hS2 (Sum.inl u) rfl hp9 ⟨hat2, H1, hP9, hz2, oq2⟩ ⟨Nat.le_of_ble_eq_true rfl, Nat.le_of_ble_eq_true rfl⟩
abbrev rm_L_drift : Room := { frames := 9, cells := 6, slots := 36, locals := 164 }
set_option maxHeartbeats 4000000 in
theorem k_L_drift (l : Launch) (D : va_G) (tc : Nat → ClassId) (h0 : Nat) (sa : Nat → Nat) (H0 : Heap) (ob : Nat) (x1 : Int32) (x2 : Int32) (x3 : Int32) {S : Type} {A1 : Nat → Prop} {post : S → Prop} {POST : S → Heap → Prop} {rv : S → Option Value} {xpost : Nat → Prop} {ri : S → UInt32} {f : Nat → UInt64} {wa : Nat} {ar : Nat → Nat} {Ar : Nat → Prop} {sp : Option Nat} {ns np nf : Nat} {sd pd fd : Nat → Nat → Nat} {sums : Nat → Int64} {r : Dt} (hBr : Blk D tc Ar (shR wa sp ns np nf sd pd fd sums ar) ar r H0) (hM : MX l yX8_drift cX8_drift 12 (Option.some FieldType.float) rm_X8_drift A1 [.ref (ar 0), .int x1, .int x2, .int x3] D tc h0 sa H0 post POST rv xpost) (hrv : ∀ u, rv u = some (.float (ri u))) (hnn : ∀ u, post u → vf_n64 (FP.f2d (ri u))) (ho : va_at D vwCl (ob, .inl (tc 4, 1, .inr (.inr (.inr (.inl f))))) H0) (hoA : ¬ A1 ob) (hA0 : ∀ q, A1 q ∨ q = ob → h0 ≤ q) (hx : ∀ k, xpost k → k = 0 ∨ k = 1 ∨ k = 4) : ML l yL_drift cL_drift 6 [(0, 12, 15, 13), (0, 12, 19, 15), (0, 12, 23, 34)] rm_L_drift (fun q : Nat => A1 q ∨ q = ob) [.ref (ar 0), .int x1, .int x2, .int x3, .ref ob] D tc h0 sa H0 (LPo post xpost) (LQdo D tc ob f (fun u => FP.f2d (ri u)) POST H0) (LRo (fun k => xnum [0, 1, 4] k 1)) := by
  refine ML.of RL [(0, .ref (ar 0)), (1, .int x1), (2, .int x2), (3, .int x3), (4, .ref ob)] (by decide +kernel) rfl (Nat.le_of_ble_eq_true rfl) rfl ?_
  intro p e s m below meth c ls X hN hr htab hT hH hS hl
  subst hH
  have hxx := hx
  have hx := X.1
  have hb := X.2.1
  have hoA2 := ho.lt
  refine lv_aload hx hb dL_drift_0 (lv_at hl 4 rfl) ?_
  refine lv_iconst (v := 0) hx hb dL_drift_2 (by decide) ?_
  refine lv_aload_n hx hb dL_drift_3 rfl (lv_at hl 0 rfl) ?_
  refine lv_iload_n hx hb dL_drift_4 rfl (lv_at hl 1 rfl) ?_
  refine lv_iload_n hx hb dL_drift_5 rfl (lv_at hl 2 rfl) ?_
  refine lv_iload_n hx hb dL_drift_6 rfl (lv_at hl 3 rfl) ?_
  refine g_afterX (A := fun q : Nat => A1 q ∨ q = ob) (st0 := [.int x3, .int x2, .int x1, .ref (ar 0), .int 0, .ref ob]) (rest := [.int 0, .ref ob]) (g_VX X m_L_134 hM (hBr.recv X 0 rfl (q := (RX8, TX8, 9)) rfl) hT hS hA0 dL_drift_7 hl.1 rfl rfl ⟨Nat.le_of_ble_eq_true rfl, Nat.le_of_ble_eq_true rfl⟩ (Nat.le_of_ble_eq_true rfl) ⟨Nat.le_of_ble_eq_true rfl, Nat.le_of_ble_eq_true rfl⟩) hS (fun q h => Or.inl h) (fun u => [.float (ri u), .int 0, .ref ob]) (fun u => by rw [hrv u]; rfl) (fun k ce q9 H1 locs1 hx9 hz9 ho9 hS9 hce hcv hcl => ?_) (fun u H1 locs1 hp9 hP9 hz9 hk9 hS9 => ?_)
  · rcases hxx k hx9 with rfl | rfl | rfl
    · refine g_catch (k := 0) X htab [] [(0, 12, 19, 15), (0, 12, 23, 34)] (a := 0) (b9 := 12) (hp := 15) (ct := 13) rfl (fun z hz => absurd hz List.not_mem_nil) rfl (by decide) xl_13 xc_0 hce hcv hcl ?_
      refine lv_astore (lv' := [(5, .ref q9), (0, .ref (ar 0)), (1, .int x1), (2, .int x2), (3, .int x3), (4, .ref ob)]) hx hb dL_drift_15 hl (by decide) rfl (fun ls hl => ?_)
      refine lv_iconst (v := 1) hx hb dL_drift_17 (by decide) ?_
      exact e_i X hr dL_drift_18 hS9 (Sum.inr 0) rfl hx9 ⟨ho.kept (ho9 ob hoA2), ho9⟩ ⟨Nat.le_of_ble_eq_true rfl, Nat.le_of_ble_eq_true rfl⟩
    · refine g_catch (k := 1) X htab [(0, 12, 15, 13)] [(0, 12, 23, 34)] (a := 0) (b9 := 12) (hp := 19) (ct := 15) rfl (List.forall_mem_cons.mpr ⟨⟨by decide, _, xl_13, hN 1 0 (by decide) (by decide) (by decide)⟩, (fun z hz => absurd hz List.not_mem_nil)⟩) rfl (by decide) xl_15 xc_1 hce hcv hcl ?_
      refine lv_astore (lv' := [(5, .ref q9), (0, .ref (ar 0)), (1, .int x1), (2, .int x2), (3, .int x3), (4, .ref ob)]) hx hb dL_drift_19 hl (by decide) rfl (fun ls hl => ?_)
      refine lv_iconst (v := 2) hx hb dL_drift_21 (by decide) ?_
      exact e_i X hr dL_drift_22 hS9 (Sum.inr 1) rfl hx9 ⟨ho.kept (ho9 ob hoA2), ho9⟩ ⟨Nat.le_of_ble_eq_true rfl, Nat.le_of_ble_eq_true rfl⟩
    · refine g_catch (k := 4) X htab [(0, 12, 15, 13), (0, 12, 19, 15)] [] (a := 0) (b9 := 12) (hp := 23) (ct := 34) rfl (List.forall_mem_cons.mpr ⟨⟨by decide, _, xl_13, hN 4 0 (by decide) (by decide) (by decide)⟩, (List.forall_mem_cons.mpr ⟨⟨by decide, _, xl_15, hN 4 1 (by decide) (by decide) (by decide)⟩, (fun z hz => absurd hz List.not_mem_nil)⟩)⟩) rfl (by decide) xl_34 xc_4 hce hcv hcl ?_
      refine lv_astore (lv' := [(5, .ref q9), (0, .ref (ar 0)), (1, .int x1), (2, .int x2), (3, .int x3), (4, .ref ob)]) hx hb dL_drift_23 hl (by decide) rfl (fun ls hl => ?_)
      refine lv_iconst (v := 3) hx hb dL_drift_25 (by decide) ?_
      exact e_i X hr dL_drift_26 hS9 (Sum.inr 4) rfl hx9 ⟨ho.kept (ho9 ob hoA2), ho9⟩ ⟨Nat.le_of_ble_eq_true rfl, Nat.le_of_ble_eq_true rfl⟩
  have hat9 := ho.kept (hk9 ob hoA2 hoA)
  refine lv_f2d hx hb dL_drift_10 (hnn u hp9) ?_
  refine x_dast (A := fun q : Nat => A1 q ∨ q = ob) X dL_drift_11 hat9 (Or.inr rfl) hS9 in01 (fun H2 locs2 hat2 oq2 hz2 hS2 => ?_)
  refine lv_goto (tgt := 27) hx hb dL_drift_12 (by decide) ?_
  refine lv_iconst (v := 0) hx hb dL_drift_27 (by decide) ?_
  exact e_i X hr dL_drift_28 hS2 (Sum.inl u) rfl hp9 ⟨hat2, H1, hP9, hz2, oq2⟩ ⟨Nat.le_of_ble_eq_true rfl, Nat.le_of_ble_eq_true rfl⟩
abbrev rm_L_save : Room := { frames := 8, cells := 46, slots := 464, locals := 133 }
set_option maxHeartbeats 4000000 in
theorem k_L_save (l : Launch) (D : va_G) (tc : Nat → ClassId) (h0 : Nat) (sa : Nat → Nat) (H0 : Heap) (ob : Nat)  {S : Type} {A1 : Nat → Prop} {post : S → Prop} {POST : S → Heap → Prop} {rv : S → Option Value} {xpost : Nat → Prop} {ri : S → Int32} {f : Nat → Int64} {wa : Nat} {ar : Nat → Nat} {Ar : Nat → Prop} {sp : Option Nat} {ns np nf : Nat} {sd pd fd : Nat → Nat → Nat} {sums : Nat → Int64} {r : Dt} (hBr : Blk D tc Ar (shR wa sp ns np nf sd pd fd sums ar) ar r H0) (hM : MX l yX8_save cX8_save 3 (Option.some FieldType.int) rm_X8_save A1 [.ref (ar 0)] D tc h0 sa H0 post POST rv xpost) (hrv : ∀ u, rv u = some (.int (ri u))) (ho : va_at D vwCl (ob, .inl (tc 3, 1, .inr (.inl f))) H0) (hoA : ¬ A1 ob) (hA0 : ∀ q, A1 q ∨ q = ob → h0 ≤ q) (hx : ∀ k, xpost k → k = 2) : ML l yL_save cL_save 3 [(0, 8, 11, 64)] rm_L_save (fun q : Nat => A1 q ∨ q = ob) [.ref (ar 0), .ref ob] D tc h0 sa H0 (LPo post xpost) (LQo D tc ob f (fun u => (ri u).toInt64) POST H0) (LRo (fun k => xnum [2] k 1)) := by
  refine ML.of RL [(0, .ref (ar 0)), (1, .ref ob)] (by decide +kernel) rfl (Nat.le_of_ble_eq_true rfl) rfl ?_
  intro p e s m below meth c ls X hN hr htab hT hH hS hl
  subst hH
  have hxx := hx
  have hx := X.1
  have hb := X.2.1
  have hoA2 := ho.lt
  refine lv_aload_n hx hb dL_save_0 rfl (lv_at hl 1 rfl) ?_
  refine lv_iconst (v := 0) hx hb dL_save_1 (by decide) ?_
  refine lv_aload_n hx hb dL_save_2 rfl (lv_at hl 0 rfl) ?_
  refine g_afterX (A := fun q : Nat => A1 q ∨ q = ob) (st0 := [.ref (ar 0), .int 0, .ref ob]) (rest := [.int 0, .ref ob]) (g_VX X m_L_138 hM (hBr.recv X 0 rfl (q := (RX8, TX8, 9)) rfl) hT hS hA0 dL_save_3 hl.1 rfl rfl ⟨Nat.le_of_ble_eq_true rfl, Nat.le_of_ble_eq_true rfl⟩ (Nat.le_of_ble_eq_true rfl) ⟨Nat.le_of_ble_eq_true rfl, Nat.le_of_ble_eq_true rfl⟩) hS (fun q h => Or.inl h) (fun u => [.int (ri u), .int 0, .ref ob]) (fun u => by rw [hrv u]; rfl) (fun k ce q9 H1 locs1 hx9 hz9 ho9 hS9 hce hcv hcl => ?_) (fun u H1 locs1 hp9 hP9 hz9 hk9 hS9 => ?_)
  · have ek := hxx k hx9
    subst ek
    refine g_catch (k := 2) X htab [] [] (a := 0) (b9 := 8) (hp := 11) (ct := 64) rfl (fun z hz => absurd hz List.not_mem_nil) rfl (by decide) xl_64 xc_2 hce hcv hcl ?_
    refine lv_astore_n (lv' := [(2, .ref q9), (0, .ref (ar 0)), (1, .ref ob)]) hx hb dL_save_11 rfl hl (by decide) rfl (fun ls hl => ?_)
    refine lv_iconst (v := 1) hx hb dL_save_12 (by decide) ?_
    exact e_i X hr dL_save_13 hS9 (Sum.inr 2) rfl hx9 ⟨ho.kept (ho9 ob hoA2), ho9⟩ ⟨Nat.le_of_ble_eq_true rfl, Nat.le_of_ble_eq_true rfl⟩
  have hat9 := ho.kept (hk9 ob hoA2 hoA)
  refine lv_i2l (v := (ri u).toInt64) hx hb dL_save_6 rfl ?_
  refine x_last (A := fun q : Nat => A1 q ∨ q = ob) X dL_save_7 hat9 (Or.inr rfl) hS9 in01 (fun H2 locs2 hat2 oq2 hz2 hS2 => ?_)
  refine lv_goto (tgt := 14) hx hb dL_save_8 (by decide) ?_
  refine lv_iconst (v := 0) hx hb dL_save_14 (by decide) ?_
  exact e_i X hr dL_save_15 hS2 (Sum.inl u) rfl hp9 ⟨hat2, H1, hP9, hz2, oq2⟩ ⟨Nat.le_of_ble_eq_true rfl, Nat.le_of_ble_eq_true rfl⟩
abbrev rm_L_load : Room := { frames := 8, cells := 2, slots := 12, locals := 133 }
set_option maxHeartbeats 4000000 in
theorem k_L_load (l : Launch) (D : va_G) (tc : Nat → ClassId) (h0 : Nat) (sa : Nat → Nat) (H0 : Heap) (ob : Nat) (x1 : Int32) {S : Type} {A1 : Nat → Prop} {post : S → Prop} {POST : S → Heap → Prop} {rv : S → Option Value} {xpost : Nat → Prop} {ri : S → Int64} {f : Nat → Int64} {wa : Nat} {ar : Nat → Nat} {Ar : Nat → Prop} {sp : Option Nat} {ns np nf : Nat} {sd pd fd : Nat → Nat → Nat} {sums : Nat → Int64} {r : Dt} (hBr : Blk D tc Ar (shR wa sp ns np nf sd pd fd sums ar) ar r H0) (hM : MX l yX8_load cX8_load 3 (Option.some FieldType.long) rm_X8_load A1 [.ref (ar 0), .int x1] D tc h0 sa H0 post POST rv xpost) (hrv : ∀ u, rv u = some (.long (ri u))) (ho : va_at D vwCl (ob, .inl (tc 3, 1, .inr (.inl f))) H0) (hoA : ¬ A1 ob) (hA0 : ∀ q, A1 q ∨ q = ob → h0 ≤ q) (hx : ∀ k, xpost k → k = 0) : ML l yL_load cL_load 4 [(0, 8, 11, 13)] rm_L_load (fun q : Nat => A1 q ∨ q = ob) [.ref (ar 0), .int x1, .ref ob] D tc h0 sa H0 (LPo post xpost) (LQo D tc ob f ri POST H0) (LRo (fun k => xnum [0] k 1)) := by
  refine ML.of RL [(0, .ref (ar 0)), (1, .int x1), (2, .ref ob)] (by decide +kernel) rfl (Nat.le_of_ble_eq_true rfl) rfl ?_
  intro p e s m below meth c ls X hN hr htab hT hH hS hl
  subst hH
  have hxx := hx
  have hx := X.1
  have hb := X.2.1
  have hoA2 := ho.lt
  refine lv_aload_n hx hb dL_load_0 rfl (lv_at hl 2 rfl) ?_
  refine lv_iconst (v := 0) hx hb dL_load_1 (by decide) ?_
  refine lv_aload_n hx hb dL_load_2 rfl (lv_at hl 0 rfl) ?_
  refine lv_iload_n hx hb dL_load_3 rfl (lv_at hl 1 rfl) ?_
  refine g_afterX (A := fun q : Nat => A1 q ∨ q = ob) (st0 := [.int x1, .ref (ar 0), .int 0, .ref ob]) (rest := [.int 0, .ref ob]) (g_VX X m_L_142 hM (hBr.recv X 0 rfl (q := (RX8, TX8, 9)) rfl) hT hS hA0 dL_load_4 hl.1 rfl rfl ⟨Nat.le_of_ble_eq_true rfl, Nat.le_of_ble_eq_true rfl⟩ (Nat.le_of_ble_eq_true rfl) ⟨Nat.le_of_ble_eq_true rfl, Nat.le_of_ble_eq_true rfl⟩) hS (fun q h => Or.inl h) (fun u => [.long (ri u), .int 0, .ref ob]) (fun u => by rw [hrv u]; rfl) (fun k ce q9 H1 locs1 hx9 hz9 ho9 hS9 hce hcv hcl => ?_) (fun u H1 locs1 hp9 hP9 hz9 hk9 hS9 => ?_)
  · have ek := hxx k hx9
    subst ek
    refine g_catch (k := 0) X htab [] [] (a := 0) (b9 := 8) (hp := 11) (ct := 13) rfl (fun z hz => absurd hz List.not_mem_nil) rfl (by decide) xl_13 xc_0 hce hcv hcl ?_
    refine lv_astore_n (lv' := [(3, .ref q9), (0, .ref (ar 0)), (1, .int x1), (2, .ref ob)]) hx hb dL_load_11 rfl hl (by decide) rfl (fun ls hl => ?_)
    refine lv_iconst (v := 1) hx hb dL_load_12 (by decide) ?_
    exact e_i X hr dL_load_13 hS9 (Sum.inr 0) rfl hx9 ⟨ho.kept (ho9 ob hoA2), ho9⟩ ⟨Nat.le_of_ble_eq_true rfl, Nat.le_of_ble_eq_true rfl⟩
  have hat9 := ho.kept (hk9 ob hoA2 hoA)
  refine x_last (A := fun q : Nat => A1 q ∨ q = ob) X dL_load_7 hat9 (Or.inr rfl) hS9 in01 (fun H2 locs2 hat2 oq2 hz2 hS2 => ?_)
  refine lv_goto (tgt := 14) hx hb dL_load_8 (by decide) ?_
  refine lv_iconst (v := 0) hx hb dL_load_14 (by decide) ?_
  exact e_i X hr dL_load_15 hS2 (Sum.inl u) rfl hp9 ⟨hat2, H1, hP9, hz2, oq2⟩ ⟨Nat.le_of_ble_eq_true rfl, Nat.le_of_ble_eq_true rfl⟩
abbrev rm_L_happening : Room := { frames := 8, cells := 1, slots := 6, locals := 132 }
set_option maxHeartbeats 4000000 in
theorem k_L_happening (l : Launch) (D : va_G) (tc : Nat → ClassId) (h0 : Nat) (sa : Nat → Nat) (H0 : Heap) (ob : Nat) (x1 : Int32) {S : Type} {A1 : Nat → Prop} {post : S → Prop} {POST : S → Heap → Prop} {rv : S → Option Value} {xpost : Nat → Prop} {ri : S → Int32} {f : Nat → Int64} {wa : Nat} {ar : Nat → Nat} {Ar : Nat → Prop} {sp : Option Nat} {ns np nf : Nat} {sd pd fd : Nat → Nat → Nat} {sums : Nat → Int64} {r : Dt} (hBr : Blk D tc Ar (shR wa sp ns np nf sd pd fd sums ar) ar r H0) (hM : MX l yX8_happening cX8_happening 2 (Option.some FieldType.char) rm_X8_happening A1 [.ref (ar 0), .int x1] D tc h0 sa H0 post POST rv xpost) (hrv : ∀ u, rv u = some (.int (ri u))) (ho : va_at D vwCl (ob, .inl (tc 3, 1, .inr (.inl f))) H0) (hoA : ¬ A1 ob) (hA0 : ∀ q, A1 q ∨ q = ob → h0 ≤ q) (hx : ∀ k, xpost k → k = 4) : ML l yL_happening cL_happening 4 [(0, 9, 12, 34)] rm_L_happening (fun q : Nat => A1 q ∨ q = ob) [.ref (ar 0), .int x1, .ref ob] D tc h0 sa H0 (LPo post xpost) (LQo D tc ob f (fun u => (ri u).toInt64) POST H0) (LRo (fun k => xnum [4] k 1)) := by
  refine ML.of RL [(0, .ref (ar 0)), (1, .int x1), (2, .ref ob)] (by decide +kernel) rfl (Nat.le_of_ble_eq_true rfl) rfl ?_
  intro p e s m below meth c ls X hN hr htab hT hH hS hl
  subst hH
  have hxx := hx
  have hx := X.1
  have hb := X.2.1
  have hoA2 := ho.lt
  refine lv_aload_n hx hb dL_happening_0 rfl (lv_at hl 2 rfl) ?_
  refine lv_iconst (v := 0) hx hb dL_happening_1 (by decide) ?_
  refine lv_aload_n hx hb dL_happening_2 rfl (lv_at hl 0 rfl) ?_
  refine lv_iload_n hx hb dL_happening_3 rfl (lv_at hl 1 rfl) ?_
  refine g_afterX (A := fun q : Nat => A1 q ∨ q = ob) (st0 := [.int x1, .ref (ar 0), .int 0, .ref ob]) (rest := [.int 0, .ref ob]) (g_VX X m_L_146 hM (hBr.recv X 0 rfl (q := (RX8, TX8, 9)) rfl) hT hS hA0 dL_happening_4 hl.1 rfl rfl ⟨Nat.le_of_ble_eq_true rfl, Nat.le_of_ble_eq_true rfl⟩ (Nat.le_of_ble_eq_true rfl) ⟨Nat.le_of_ble_eq_true rfl, Nat.le_of_ble_eq_true rfl⟩) hS (fun q h => Or.inl h) (fun u => [.int (ri u), .int 0, .ref ob]) (fun u => by rw [hrv u]; rfl) (fun k ce q9 H1 locs1 hx9 hz9 ho9 hS9 hce hcv hcl => ?_) (fun u H1 locs1 hp9 hP9 hz9 hk9 hS9 => ?_)
  · have ek := hxx k hx9
    subst ek
    refine g_catch (k := 4) X htab [] [] (a := 0) (b9 := 9) (hp := 12) (ct := 34) rfl (fun z hz => absurd hz List.not_mem_nil) rfl (by decide) xl_34 xc_4 hce hcv hcl ?_
    refine lv_astore_n (lv' := [(3, .ref q9), (0, .ref (ar 0)), (1, .int x1), (2, .ref ob)]) hx hb dL_happening_12 rfl hl (by decide) rfl (fun ls hl => ?_)
    refine lv_iconst (v := 1) hx hb dL_happening_13 (by decide) ?_
    exact e_i X hr dL_happening_14 hS9 (Sum.inr 4) rfl hx9 ⟨ho.kept (ho9 ob hoA2), ho9⟩ ⟨Nat.le_of_ble_eq_true rfl, Nat.le_of_ble_eq_true rfl⟩
  have hat9 := ho.kept (hk9 ob hoA2 hoA)
  refine lv_i2l (v := (ri u).toInt64) hx hb dL_happening_7 rfl ?_
  refine x_last (A := fun q : Nat => A1 q ∨ q = ob) X dL_happening_8 hat9 (Or.inr rfl) hS9 in01 (fun H2 locs2 hat2 oq2 hz2 hS2 => ?_)
  refine lv_goto (tgt := 15) hx hb dL_happening_9 (by decide) ?_
  refine lv_iconst (v := 0) hx hb dL_happening_15 (by decide) ?_
  exact e_i X hr dL_happening_16 hS2 (Sum.inl u) rfl hp9 ⟨hat2, H1, hP9, hz2, oq2⟩ ⟨Nat.le_of_ble_eq_true rfl, Nat.le_of_ble_eq_true rfl⟩
abbrev rm_L_happenedTo : Room := { frames := 8, cells := 1, slots := 6, locals := 132 }
set_option maxHeartbeats 4000000 in
theorem k_L_happenedTo (l : Launch) (D : va_G) (tc : Nat → ClassId) (h0 : Nat) (sa : Nat → Nat) (H0 : Heap) (ob : Nat) (x1 : Int32) {S : Type} {A1 : Nat → Prop} {post : S → Prop} {POST : S → Heap → Prop} {rv : S → Option Value} {xpost : Nat → Prop} {ri : S → Int32} {f : Nat → Int64} {wa : Nat} {ar : Nat → Nat} {Ar : Nat → Prop} {sp : Option Nat} {ns np nf : Nat} {sd pd fd : Nat → Nat → Nat} {sums : Nat → Int64} {r : Dt} (hBr : Blk D tc Ar (shR wa sp ns np nf sd pd fd sums ar) ar r H0) (hM : MX l yX8_happenedTo cX8_happenedTo 2 (Option.some FieldType.int) rm_X8_happenedTo A1 [.ref (ar 0), .int x1] D tc h0 sa H0 post POST rv xpost) (hrv : ∀ u, rv u = some (.int (ri u))) (ho : va_at D vwCl (ob, .inl (tc 3, 1, .inr (.inl f))) H0) (hoA : ¬ A1 ob) (hA0 : ∀ q, A1 q ∨ q = ob → h0 ≤ q) (hx : ∀ k, xpost k → k = 4) : ML l yL_happenedTo cL_happenedTo 4 [(0, 9, 12, 34)] rm_L_happenedTo (fun q : Nat => A1 q ∨ q = ob) [.ref (ar 0), .int x1, .ref ob] D tc h0 sa H0 (LPo post xpost) (LQo D tc ob f (fun u => (ri u).toInt64) POST H0) (LRo (fun k => xnum [4] k 1)) := by
  refine ML.of RL [(0, .ref (ar 0)), (1, .int x1), (2, .ref ob)] (by decide +kernel) rfl (Nat.le_of_ble_eq_true rfl) rfl ?_
  intro p e s m below meth c ls X hN hr htab hT hH hS hl
  subst hH
  have hxx := hx
  have hx := X.1
  have hb := X.2.1
  have hoA2 := ho.lt
  refine lv_aload_n hx hb dL_happenedTo_0 rfl (lv_at hl 2 rfl) ?_
  refine lv_iconst (v := 0) hx hb dL_happenedTo_1 (by decide) ?_
  refine lv_aload_n hx hb dL_happenedTo_2 rfl (lv_at hl 0 rfl) ?_
  refine lv_iload_n hx hb dL_happenedTo_3 rfl (lv_at hl 1 rfl) ?_
  refine g_afterX (A := fun q : Nat => A1 q ∨ q = ob) (st0 := [.int x1, .ref (ar 0), .int 0, .ref ob]) (rest := [.int 0, .ref ob]) (g_VX X m_L_150 hM (hBr.recv X 0 rfl (q := (RX8, TX8, 9)) rfl) hT hS hA0 dL_happenedTo_4 hl.1 rfl rfl ⟨Nat.le_of_ble_eq_true rfl, Nat.le_of_ble_eq_true rfl⟩ (Nat.le_of_ble_eq_true rfl) ⟨Nat.le_of_ble_eq_true rfl, Nat.le_of_ble_eq_true rfl⟩) hS (fun q h => Or.inl h) (fun u => [.int (ri u), .int 0, .ref ob]) (fun u => by rw [hrv u]; rfl) (fun k ce q9 H1 locs1 hx9 hz9 ho9 hS9 hce hcv hcl => ?_) (fun u H1 locs1 hp9 hP9 hz9 hk9 hS9 => ?_)
  · have ek := hxx k hx9
    subst ek
    refine g_catch (k := 4) X htab [] [] (a := 0) (b9 := 9) (hp := 12) (ct := 34) rfl (fun z hz => absurd hz List.not_mem_nil) rfl (by decide) xl_34 xc_4 hce hcv hcl ?_
    refine lv_astore_n (lv' := [(3, .ref q9), (0, .ref (ar 0)), (1, .int x1), (2, .ref ob)]) hx hb dL_happenedTo_12 rfl hl (by decide) rfl (fun ls hl => ?_)
    refine lv_iconst (v := 1) hx hb dL_happenedTo_13 (by decide) ?_
    exact e_i X hr dL_happenedTo_14 hS9 (Sum.inr 4) rfl hx9 ⟨ho.kept (ho9 ob hoA2), ho9⟩ ⟨Nat.le_of_ble_eq_true rfl, Nat.le_of_ble_eq_true rfl⟩
  have hat9 := ho.kept (hk9 ob hoA2 hoA)
  refine lv_i2l (v := (ri u).toInt64) hx hb dL_happenedTo_7 rfl ?_
  refine x_last (A := fun q : Nat => A1 q ∨ q = ob) X dL_happenedTo_8 hat9 (Or.inr rfl) hS9 in01 (fun H2 locs2 hat2 oq2 hz2 hS2 => ?_)
  refine lv_goto (tgt := 15) hx hb dL_happenedTo_9 (by decide) ?_
  refine lv_iconst (v := 0) hx hb dL_happenedTo_15 (by decide) ?_
  exact e_i X hr dL_happenedTo_16 hS2 (Sum.inl u) rfl hp9 ⟨hat2, H1, hP9, hz2, oq2⟩ ⟨Nat.le_of_ble_eq_true rfl, Nat.le_of_ble_eq_true rfl⟩
abbrev rm_L_thereShare : Room := { frames := 7, cells := 1, slots := 6, locals := 111 }
set_option maxHeartbeats 4000000 in
theorem k_L_thereShare (l : Launch) (D : va_G) (tc : Nat → ClassId) (h0 : Nat) (sa : Nat → Nat) (H0 : Heap) (ob : Nat)  {S : Type} {A1 : Nat → Prop} {post : S → Prop} {POST : S → Heap → Prop} {rv : S → Option Value} {xpost : Nat → Prop} {ri : S → UInt32} {f : Nat → UInt64} {wa : Nat} {ar : Nat → Nat} {Ar : Nat → Prop} {sp : Option Nat} {ns np nf : Nat} {sd pd fd : Nat → Nat → Nat} {sums : Nat → Int64} {r : Dt} (hBr : Blk D tc Ar (shR wa sp ns np nf sd pd fd sums ar) ar r H0) (hM : MX l yX8_thereShare cX8_thereShare 2 (Option.some FieldType.float) rm_X8_thereShare A1 [.ref (ar 0)] D tc h0 sa H0 post POST rv xpost) (hrv : ∀ u, rv u = some (.float (ri u))) (hnn : ∀ u, post u → vf_n64 (FP.f2d (ri u))) (ho : va_at D vwCl (ob, .inl (tc 4, 1, .inr (.inr (.inr (.inl f))))) H0) (hoA : ¬ A1 ob) (hA0 : ∀ q, A1 q ∨ q = ob → h0 ≤ q) (hx : ∀ k, xpost k → k = 5) : ML l yL_thereShare cL_thereShare 3 [(0, 8, 11, 157)] rm_L_thereShare (fun q : Nat => A1 q ∨ q = ob) [.ref (ar 0), .ref ob] D tc h0 sa H0 (LPo post xpost) (LQdo D tc ob f (fun u => FP.f2d (ri u)) POST H0) (LRo (fun k => xnum [5] k 1)) := by
  refine ML.of RL [(0, .ref (ar 0)), (1, .ref ob)] (by decide +kernel) rfl (Nat.le_of_ble_eq_true rfl) rfl ?_
  intro p e s m below meth c ls X hN hr htab hT hH hS hl
  subst hH
  have hxx := hx
  have hx := X.1
  have hb := X.2.1
  have hoA2 := ho.lt
  refine lv_aload_n hx hb dL_thereShare_0 rfl (lv_at hl 1 rfl) ?_
  refine lv_iconst (v := 0) hx hb dL_thereShare_1 (by decide) ?_
  refine lv_aload_n hx hb dL_thereShare_2 rfl (lv_at hl 0 rfl) ?_
  refine g_afterX (A := fun q : Nat => A1 q ∨ q = ob) (st0 := [.ref (ar 0), .int 0, .ref ob]) (rest := [.int 0, .ref ob]) (g_VX X m_L_153 hM (hBr.recv X 0 rfl (q := (RX8, TX8, 9)) rfl) hT hS hA0 dL_thereShare_3 hl.1 rfl rfl ⟨Nat.le_of_ble_eq_true rfl, Nat.le_of_ble_eq_true rfl⟩ (Nat.le_of_ble_eq_true rfl) ⟨Nat.le_of_ble_eq_true rfl, Nat.le_of_ble_eq_true rfl⟩) hS (fun q h => Or.inl h) (fun u => [.float (ri u), .int 0, .ref ob]) (fun u => by rw [hrv u]; rfl) (fun k ce q9 H1 locs1 hx9 hz9 ho9 hS9 hce hcv hcl => ?_) (fun u H1 locs1 hp9 hP9 hz9 hk9 hS9 => ?_)
  · have ek := hxx k hx9
    subst ek
    refine g_catch (k := 5) X htab [] [] (a := 0) (b9 := 8) (hp := 11) (ct := 157) rfl (fun z hz => absurd hz List.not_mem_nil) rfl (by decide) xl_157 xc_5 hce hcv hcl ?_
    refine lv_astore_n (lv' := [(2, .ref q9), (0, .ref (ar 0)), (1, .ref ob)]) hx hb dL_thereShare_11 rfl hl (by decide) rfl (fun ls hl => ?_)
    refine lv_iconst (v := 1) hx hb dL_thereShare_12 (by decide) ?_
    exact e_i X hr dL_thereShare_13 hS9 (Sum.inr 5) rfl hx9 ⟨ho.kept (ho9 ob hoA2), ho9⟩ ⟨Nat.le_of_ble_eq_true rfl, Nat.le_of_ble_eq_true rfl⟩
  have hat9 := ho.kept (hk9 ob hoA2 hoA)
  refine lv_f2d hx hb dL_thereShare_6 (hnn u hp9) ?_
  refine x_dast (A := fun q : Nat => A1 q ∨ q = ob) X dL_thereShare_7 hat9 (Or.inr rfl) hS9 in01 (fun H2 locs2 hat2 oq2 hz2 hS2 => ?_)
  refine lv_goto (tgt := 14) hx hb dL_thereShare_8 (by decide) ?_
  refine lv_iconst (v := 0) hx hb dL_thereShare_14 (by decide) ?_
  exact e_i X hr dL_thereShare_15 hS2 (Sum.inl u) rfl hp9 ⟨hat2, H1, hP9, hz2, oq2⟩ ⟨Nat.le_of_ble_eq_true rfl, Nat.le_of_ble_eq_true rfl⟩
