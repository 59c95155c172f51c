/-! TEXTS: charAt, indexOf -/
def ch246 (x : Int32) : Int32 := ([50, 52, 54, 56, 57, 57] : List Int32).getD x.toNatClampNeg 0
def ixlti (c : Int32) : Int32 := if c = 108 then 0 else if c = 116 then 1 else if c = 105 then 2 else -1
theorem strv {h0 : Nat} {sa : Nat → Nat} {s : State} {A : Nat → Prop} {H : Heap} {locs : List Loc} (hT : ST h0 sa s s.heap) (hS : va_S A s.heap H locs) (hA : ∀ q, A q → h0 ≤ q) {i : Nat} (hi : i < 2) : ∃ cell : Cell, H[sa (10 + i)]? = some cell ∧ cell.vm.isStatics = false ∧ s.vm.findClass "java/lang/String" = some cell.cls := by
  obtain ⟨cell, h1, h2, h3, -⟩ := (hT.2.2.2.2.2.2.2.2.2.2.2.2.1.1 i hi).1.kept (fun a ha hn => hS.2.1 a ha (fun z => hn (hA a z)))
  exact ⟨cell, h1, h2, h3⟩
def byS : List (List Int32) := [[50, 52, 54, 56, 57, 57], [108, 116, 105]]
def leS : List Nat := [6, 3]
theorem str_co {h0 : Nat} {sa : Nat → Nat} {s : State} (hT : ST h0 sa s s.heap) {i : Nat} (hi : i < 2) : va_OF "java/lang/String" "coder" "B" (.int 0) (sa (10 + i)) (fun _ => False) s s.heap := (hT.2.2.2.2.2.2.2.2.2.2.2.2.1.1 i hi).2.1.narrow (fun _ h => h.elim)
theorem str_va {h0 : Nat} {sa : Nat → Nat} {s : State} (hT : ST h0 sa s s.heap) {i : Nat} (hi : i < 2) : va_OF "java/lang/String" "value" "[B" (.ref (sa (20 + i))) (sa (10 + i)) (fun _ => False) s s.heap := (hT.2.2.2.2.2.2.2.2.2.2.2.2.1.1 i hi).2.2.1.narrow (fun _ h => h.elim)
theorem str_by {h0 : Nat} {sa : Nat → Nat} {s : State} (hT : ST h0 sa s s.heap) {i : Nat} (hi : i < 2) : va_T .byte (sa (20 + i)) (leS.getD i 0) (fun j => .int ((byS.getD i []).getD j 0)) (fun _ => False) s s.heap := (hT.2.2.2.2.2.2.2.2.2.2.2.2.1.1 i hi).2.2.2.narrow (fun _ h => h.elim)
theorem str_cs {h0 : Nat} {sa : Nat → Nat} {s : State} (hT : ST h0 sa s s.heap) : va_Z "java/lang/String" "COMPACT_STRINGS" "Z" (.int 1) (old h0) s s.heap := hT.2.2.2.2.2.2.2.2.2.2.2.2.2.2.2.1
theorem str_fm {h0 : Nat} {sa : Nat → Nat} {s : State} (hT : ST h0 sa s s.heap) : va_Zq "jdk/internal/util/Preconditions" "SIOOBE_FORMATTER" "Ljava/util/function/BiFunction;" (old h0) s s.heap := hT.2.2.2.2.2.2.2.2.2.2.2.2.2.2.2.2.1

theorem vk_dummy : True := trivial
abbrev rm_isl  : Room := { frames := 0, cells := 0, slots := 0, locals := 0 }
set_option maxHeartbeats 4000000 in
theorem c_isl (l : Launch) (D : va_G) (tc : Nat → ClassId) (h0 : Nat) (sa : Nat → Nat) (H0 : Heap) (i : Nat) (hi : i < 2) : MB (S := Unit) l yJ0_isLatin1_aae02 cJ0_isLatin1_aae02 1 (Option.some FieldType.boolean) (rm_isl ) (fun _ : Nat => False) [.ref (sa (10 + i))] D tc h0 sa H0 (fun _ => True) (fun _ (H1 : Heap) => H1 = H0) (fun _ => some (.int 1)) := by
  refine MB.ofF RJ0 [(0, .ref (sa (10 + i)))] (by decide +kernel) rfl (Nat.le_of_ble_eq_true rfl) rfl ?_
  intro p e s m below meth c ls X hr hin hT hH hS hl
  subst hH
  have hx := X.1
  have hb := X.2.1
  have hown := X.2.2.2.1
  have hU := X.2.2.2.2.1.1
  have hA0 : ∀ q : Nat, (fun _ : Nat => False) q → h0 ≤ q := fun _ h => h.elim
  refine g_gets X dJ0_isLatin1_aae02_0 w_1354 (str_cs hT) hS hA0 ?_
  refine lv_if_eq (tgt := 17) hx hb dJ0_isLatin1_aae02_3 (by decide) (fun hc0 => absurd hc0 (show ¬ (1 : Int32) = 0 by decide)) (fun _ => ?_)
  refine lv_aload_n hx hb dJ0_isLatin1_aae02_6 rfl (lv_at hl 0 rfl) ?_
  refine vk_getf hx hb (str_co hT hi) hS hown (hU.use w_2080) (fun _ h => h) dJ0_isLatin1_aae02_7 ?_
  refine lv_if_ne (tgt := 17) hx hb dJ0_isLatin1_aae02_10 (by decide) (fun hc0 => absurd (rfl : (0 : Int32) = 0) hc0) (fun _ => ?_)
  refine lv_iconst (v := 1) hx hb dJ0_isLatin1_aae02_13 (by decide) ?_
  refine lv_goto (tgt := 18) hx hb dJ0_isLatin1_aae02_14 (by decide) ?_
  exact e_z X hr rfl dJ0_isLatin1_aae02_18 hS () rfl trivial rfl ⟨Nat.le_of_ble_eq_true rfl, Nat.le_of_ble_eq_true rfl⟩
abbrev rm_cod  : Room := { frames := 0, cells := 0, slots := 0, locals := 0 }
set_option maxHeartbeats 4000000 in
theorem c_cod (l : Launch) (D : va_G) (tc : Nat → ClassId) (h0 : Nat) (sa : Nat → Nat) (H0 : Heap) (i : Nat) (hi : i < 2) : MB (S := Unit) l yJ0_coder_7d493 cJ0_coder_7d493 1 (Option.some FieldType.byte) (rm_cod ) (fun _ : Nat => False) [.ref (sa (10 + i))] D tc h0 sa H0 (fun _ => True) (fun _ (H1 : Heap) => H1 = H0) (fun _ => some (.int 0)) := by
  refine MB.ofF RJ0 [(0, .ref (sa (10 + i)))] (by decide +kernel) rfl (Nat.le_of_ble_eq_true rfl) rfl ?_
  intro p e s m below meth c ls X hr hin hT hH hS hl
  subst hH
  have hx := X.1
  have hb := X.2.1
  have hown := X.2.2.2.1
  have hU := X.2.2.2.2.1.1
  have hA0 : ∀ q : Nat, (fun _ : Nat => False) q → h0 ≤ q := fun _ h => h.elim
  refine g_gets X dJ0_coder_7d493_0 w_1354 (str_cs hT) hS hA0 ?_
  refine lv_if_eq (tgt := 13) hx hb dJ0_coder_7d493_3 (by decide) (fun hc0 => absurd hc0 (show ¬ (1 : Int32) = 0 by decide)) (fun _ => ?_)
  refine lv_aload_n hx hb dJ0_coder_7d493_6 rfl (lv_at hl 0 rfl) ?_
  refine vk_getf hx hb (str_co hT hi) hS hown (hU.use w_2080) (fun _ h => h) dJ0_coder_7d493_7 ?_
  refine lv_goto (tgt := 14) hx hb dJ0_coder_7d493_10 (by decide) ?_
  exact e_z X hr rfl dJ0_coder_7d493_14 hS () rfl trivial rfl ⟨Nat.le_of_ble_eq_true rfl, Nat.le_of_ble_eq_true rfl⟩
abbrev rm_sln  : Room := { frames := 1, cells := 0, slots := 0, locals := 20 }
set_option maxHeartbeats 4000000 in
theorem c_sln (l : Launch) (D : va_G) (tc : Nat → ClassId) (h0 : Nat) (sa : Nat → Nat) (H0 : Heap) (i : Nat) (hi : i < 2) : MB (S := Unit) l yJ0_length_8abf5 cJ0_length_8abf5 1 (Option.some FieldType.int) (rm_sln ) (fun _ : Nat => False) [.ref (sa (10 + i))] D tc h0 sa H0 (fun _ => True) (fun _ (H1 : Heap) => H1 = H0) (fun _ => some (.int (nI (leS.getD i 0)))) := by
  refine MB.ofF RJ0 [(0, .ref (sa (10 + i)))] (by decide +kernel) rfl (Nat.le_of_ble_eq_true rfl) rfl ?_
  intro p e s m below meth c ls X hr hin hT hH hS hl
  subst hH
  have hx := X.1
  have hb := X.2.1
  have hown := X.2.2.2.1
  have hU := X.2.2.2.2.1.1
  have hA0 : ∀ q : Nat, (fun _ : Nat => False) q → h0 ≤ q := fun _ h => h.elim
  refine lv_aload_n hx hb dJ0_length_8abf5_0 rfl (lv_at hl 0 rfl) ?_
  refine vk_getf hx hb (str_va hT hi) hS hown (hU.use w_2081) (fun _ h => h) dJ0_length_8abf5_1 ?_
  refine va_tlen hx hb (str_by hT hi) hS (v := (nI (leS.getD i 0))) rfl dJ0_length_8abf5_4 ?_
  refine lv_aload_n hx hb dJ0_length_8abf5_5 rfl (lv_at hl 0 rfl) ?_
  refine g_after (st0 := [.ref (sa (10 + i)), .int (nI (leS.getD i 0))]) (rest := [.int (nI (leS.getD i 0))]) (g_V X m_J0_335 (c_cod l D tc h0 sa s.heap i hi) (strv hT hS (fun _ h => h.elim) hi) hT hS hA0 dJ0_length_8abf5_6 hl.1 rfl rfl ⟨Nat.le_of_ble_eq_true rfl, Nat.le_of_ble_eq_true rfl⟩ (Nat.le_of_ble_eq_true rfl) ⟨Nat.le_of_ble_eq_true rfl, Nat.le_of_ble_eq_true rfl⟩) hS (fun _ h => h.elim) (fun u => .int 0 :: [.int (nI (leS.getD i 0))]) (fun _ => rfl) (fun u H9 locs hw hP9 hz9 hk9 hS => ?_)
  have e9 : H9 = _ := hP9
  rw [e9] at hS ⊢
  refine lv_ishr hx hb dJ0_length_8abf5_9 ?_
  have hsh : (nI (leS.getD i 0)) >>> ((0 : Int32) &&& 31) = (nI (leS.getD i 0)) := by rcases (show i = 0 ∨ i = 1 by omega) with e | e <;> subst e <;> decide
  rw [hsh]
  exact e_i X hr dJ0_length_8abf5_10 hS () rfl trivial rfl ⟨Nat.le_of_ble_eq_true rfl, Nat.le_of_ble_eq_true rfl⟩
abbrev rm_pcr  : Room := { frames := 0, cells := 0, slots := 0, locals := 0 }
set_option maxHeartbeats 4000000 in
theorem c_pcr (l : Launch) (D : va_G) (tc : Nat → ClassId) (h0 : Nat) (sa : Nat → Nat) (H0 : Heap) {i k : Int32} (v : Nat) (h1 : ¬ i < 0) (h2 : i < k) : MB (S := Unit) l yJ3_checkIndex_8e157 cJ3_checkIndex_8e157 3 (Option.some FieldType.int) (rm_pcr ) (fun _ : Nat => False) [.int i, .int k, .ref v] D tc h0 sa H0 (fun _ => True) (fun _ (H1 : Heap) => H1 = H0) (fun _ => some (.int i)) := by
  refine MB.ofF RJ3 [(0, .int i), (1, .int k), (2, .ref v)] (by decide +kernel) rfl (Nat.le_of_ble_eq_true rfl) rfl ?_
  intro p e s m below meth c ls X hr hin hT hH hS hl
  subst hH
  have hx := X.1
  have hb := X.2.1
  have hown := X.2.2.2.1
  have hU := X.2.2.2.2.1.1
  have hA0 : ∀ q : Nat, (fun _ : Nat => False) q → h0 ≤ q := fun _ h => h.elim
  refine lv_iload_n hx hb dJ3_checkIndex_8e157_0 rfl (lv_at hl 0 rfl) ?_
  refine lv_if_lt (tgt := 9) hx hb dJ3_checkIndex_8e157_1 (by decide) (fun hc0 => absurd hc0 h1) (fun _ => ?_)
  refine lv_iload_n hx hb dJ3_checkIndex_8e157_4 rfl (lv_at hl 0 rfl) ?_
  refine lv_iload_n hx hb dJ3_checkIndex_8e157_5 rfl (lv_at hl 1 rfl) ?_
  refine lv_icmp_lt (tgt := 16) hx hb dJ3_checkIndex_8e157_6 (by decide) (fun _ => ?_) (fun hc0 => absurd h2 hc0)
  refine lv_iload_n hx hb dJ3_checkIndex_8e157_16 rfl (lv_at hl 0 rfl) ?_
  exact e_i X hr dJ3_checkIndex_8e157_17 hS () rfl trivial rfl ⟨Nat.le_of_ble_eq_true rfl, Nat.le_of_ble_eq_true rfl⟩
abbrev rm_sci  : Room := { frames := 1, cells := 0, slots := 0, locals := 22 }
set_option maxHeartbeats 4000000 in
theorem c_sci (l : Launch) (D : va_G) (tc : Nat → ClassId) (h0 : Nat) (sa : Nat → Nat) (H0 : Heap) {i k : Int32} (h1 : ¬ i < 0) (h2 : i < k) : MB (S := Unit) l yJ0_checkIndex_df160 cJ0_checkIndex_df160 2 (Option.none : Option FieldType) (rm_sci ) (fun _ : Nat => False) [.int i, .int k] D tc h0 sa H0 (fun _ => True) (fun _ (H1 : Heap) => H1 = H0) (fun _ => none) := by
  refine MB.ofF RJ0 [(0, .int i), (1, .int k)] (by decide +kernel) rfl (Nat.le_of_ble_eq_true rfl) rfl ?_
  intro p e s m below meth c ls X hr hin hT hH hS hl
  subst hH
  have hx := X.1
  have hb := X.2.1
  have hown := X.2.2.2.1
  have hU := X.2.2.2.2.1.1
  have hA0 : ∀ q : Nat, (fun _ : Nat => False) q → h0 ≤ q := fun _ h => h.elim
  refine lv_iload_n hx hb dJ0_checkIndex_df160_0 rfl (lv_at hl 0 rfl) ?_
  refine lv_iload_n hx hb dJ0_checkIndex_df160_1 rfl (lv_at hl 1 rfl) ?_
  rcases str_fm hT with hZ | ⟨v, hZ⟩
  · refine g_gets X dJ0_checkIndex_df160_2 w_1362 hZ hS hA0 ?_
    refine g_after (st0 := [.null, .int k, .int i]) (rest := []) (g_S X m_J0_1059 (c_pci l D tc h0 sa s.heap h1 h2) hT hS hA0 dJ0_checkIndex_df160_5 hl.1 rfl rfl ⟨Nat.le_of_ble_eq_true rfl, Nat.le_of_ble_eq_true rfl⟩ (Nat.le_of_ble_eq_true rfl) ⟨Nat.le_of_ble_eq_true rfl, Nat.le_of_ble_eq_true rfl⟩) hS (fun _ h => h.elim) (fun u => .int i :: []) (fun _ => rfl) (fun u H9 locs hw hP9 hz9 hk9 hS => ?_)
    have e9 : H9 = _ := hP9
    rw [e9] at hS ⊢
    refine lv_pop hx hb dJ0_checkIndex_df160_8 rfl ?_
    exact e_v X hr dJ0_checkIndex_df160_9 hS () rfl trivial rfl ⟨Nat.le_of_ble_eq_true rfl, Nat.le_of_ble_eq_true rfl⟩
  · refine g_gets X dJ0_checkIndex_df160_2 w_1362 hZ hS hA0 ?_
    refine g_after (st0 := [.ref v, .int k, .int i]) (rest := []) (g_S X m_J0_1059 (c_pcr l D tc h0 sa s.heap v h1 h2) hT hS hA0 dJ0_checkIndex_df160_5 hl.1 rfl rfl ⟨Nat.le_of_ble_eq_true rfl, Nat.le_of_ble_eq_true rfl⟩ (Nat.le_of_ble_eq_true rfl) ⟨Nat.le_of_ble_eq_true rfl, Nat.le_of_ble_eq_true rfl⟩) hS (fun _ h => h.elim) (fun u => .int i :: []) (fun _ => rfl) (fun u H9 locs hw hP9 hz9 hk9 hS => ?_)
    have e9 : H9 = _ := hP9
    rw [e9] at hS ⊢
    refine lv_pop hx hb dJ0_checkIndex_df160_8 rfl ?_
    exact e_v X hr dJ0_checkIndex_df160_9 hS () rfl trivial rfl ⟨Nat.le_of_ble_eq_true rfl, Nat.le_of_ble_eq_true rfl⟩
abbrev rm_lca  : Room := { frames := 2, cells := 0, slots := 0, locals := 43 }
set_option maxHeartbeats 4000000 in
theorem c_lca (l : Launch) (D : va_G) (tc : Nat → ClassId) (h0 : Nat) (sa : Nat → Nat) (H0 : Heap) (i : Nat) (hi : i < 2) {x y : Int32} (hix : vp_in x (leS.getD i 0)) (hy : ((((byS.getD i []).getD x.toNatClampNeg 0) &&& 255).toUInt32 % 65536).toInt32 = y) (hyn : narrow .char (.int y) = .int y) : MB (S := Unit) l yJ1_charAt_3b067 cJ1_charAt_3b067 2 (Option.some FieldType.char) (rm_lca ) (fun _ : Nat => False) [.ref (sa (20 + i)), .int x] D tc h0 sa H0 (fun _ => True) (fun _ (H1 : Heap) => H1 = H0) (fun _ => some (.int y)) := by
  refine MB.ofF RJ1 [(0, .ref (sa (20 + i))), (1, .int x)] (by decide +kernel) rfl (Nat.le_of_ble_eq_true rfl) rfl ?_
  intro p e s m below meth c ls X hr hin hT hH hS hl
  subst hH
  have hx := X.1
  have hb := X.2.1
  have hown := X.2.2.2.1
  have hU := X.2.2.2.2.1.1
  have hA0 : ∀ q : Nat, (fun _ : Nat => False) q → h0 ≤ q := fun _ h => h.elim
  have hn := in_lt hix (show leS.getD i 0 ≤ 1000 by rcases (show i = 0 ∨ i = 1 by omega) with e | e <;> subst e <;> decide)
  refine lv_iload_n hx hb dJ1_charAt_3b067_0 rfl (lv_at hl 1 rfl) ?_
  refine lv_aload_n hx hb dJ1_charAt_3b067_1 rfl (lv_at hl 0 rfl) ?_
  refine va_tlen hx hb (str_by hT hi) hS (v := (nI (leS.getD i 0))) rfl dJ1_charAt_3b067_2 ?_
  refine g_after (st0 := [.int (nI (leS.getD i 0)), .int x]) (rest := []) (g_S X m_J1_9 (c_sci l D tc h0 sa s.heap hn.1 hn.2.1) hT hS hA0 dJ1_charAt_3b067_3 hl.1 rfl rfl ⟨Nat.le_of_ble_eq_true rfl, Nat.le_of_ble_eq_true rfl⟩ (Nat.le_of_ble_eq_true rfl) ⟨Nat.le_of_ble_eq_true rfl, Nat.le_of_ble_eq_true rfl⟩) hS (fun _ h => h.elim) (fun u => []) (fun _ => rfl) (fun u H9 locs hw hP9 hz9 hk9 hS => ?_)
  have e9 : H9 = _ := hP9
  rw [e9] at hS ⊢
  refine lv_aload_n hx hb dJ1_charAt_3b067_6 rfl (lv_at hl 0 rfl) ?_
  refine lv_iload_n hx hb dJ1_charAt_3b067_7 rfl (lv_at hl 1 rfl) ?_
  refine va_tb hx hb (str_by hT hi) hS hix rfl dJ1_charAt_3b067_8 ?_
  refine lv_sipush (v := 255) hx hb dJ1_charAt_3b067_9 (by decide) ?_
  refine lv_iand hx hb dJ1_charAt_3b067_12 ?_
  refine lv_i2c (v := y) hx hb dJ1_charAt_3b067_13 hy ?_
  exact e_z X hr hyn dJ1_charAt_3b067_14 hS () rfl trivial rfl ⟨Nat.le_of_ble_eq_true rfl, Nat.le_of_ble_eq_true rfl⟩
abbrev rm_chi  : Room := { frames := 3, cells := 0, slots := 0, locals := 64 }
set_option maxHeartbeats 4000000 in
theorem c_chi (l : Launch) (D : va_G) (tc : Nat → ClassId) (h0 : Nat) (sa : Nat → Nat) (H0 : Heap) (i : Nat) (hi : i < 2) {x y : Int32} (hix : vp_in x (leS.getD i 0)) (hy : ((((byS.getD i []).getD x.toNatClampNeg 0) &&& 255).toUInt32 % 65536).toInt32 = y) (hyn : narrow .char (.int y) = .int y) : MB (S := Unit) l yJ0_charAt_5068e cJ0_charAt_5068e 2 (Option.some FieldType.char) (rm_chi ) (fun _ : Nat => False) [.ref (sa (10 + i)), .int x] D tc h0 sa H0 (fun _ => True) (fun _ (H1 : Heap) => H1 = H0) (fun _ => some (.int y)) := by
  refine MB.ofF RJ0 [(0, .ref (sa (10 + i))), (1, .int x)] (by decide +kernel) rfl (Nat.le_of_ble_eq_true rfl) rfl ?_
  intro p e s m below meth c ls X hr hin hT hH hS hl
  subst hH
  have hx := X.1
  have hb := X.2.1
  have hown := X.2.2.2.1
  have hU := X.2.2.2.2.1.1
  have hA0 : ∀ q : Nat, (fun _ : Nat => False) q → h0 ≤ q := fun _ h => h.elim
  refine lv_aload_n hx hb dJ0_charAt_5068e_0 rfl (lv_at hl 0 rfl) ?_
  refine g_after (st0 := [.ref (sa (10 + i))]) (rest := []) (g_V X m_J0_492 (c_isl l D tc h0 sa s.heap i hi) (strv hT hS (fun _ h => h.elim) hi) hT hS hA0 dJ0_charAt_5068e_1 hl.1 rfl rfl ⟨Nat.le_of_ble_eq_true rfl, Nat.le_of_ble_eq_true rfl⟩ (Nat.le_of_ble_eq_true rfl) ⟨Nat.le_of_ble_eq_true rfl, Nat.le_of_ble_eq_true rfl⟩) hS (fun _ h => h.elim) (fun u => .int 1 :: []) (fun _ => rfl) (fun u H9 locs hw hP9 hz9 hk9 hS => ?_)
  have e9 : H9 = _ := hP9
  rw [e9] at hS ⊢
  refine lv_if_eq (tgt := 16) hx hb dJ0_charAt_5068e_4 (by decide) (fun hc0 => absurd hc0 (show ¬ (1 : Int32) = 0 by decide)) (fun _ => ?_)
  refine lv_aload_n hx hb dJ0_charAt_5068e_7 rfl (lv_at hl 0 rfl) ?_
  refine vk_getf hx hb (str_va hT hi) hS hown (hU.use w_2081) (fun _ h => h) dJ0_charAt_5068e_8 ?_
  refine lv_iload_n hx hb dJ0_charAt_5068e_11 rfl (lv_at hl 1 rfl) ?_
  refine g_after (st0 := [.int x, .ref (sa (20 + i))]) (rest := []) (g_S X m_J0_495 (c_lca l D tc h0 sa s.heap i hi hix hy hyn) hT hS hA0 dJ0_charAt_5068e_12 hl.1 rfl rfl ⟨Nat.le_of_ble_eq_true rfl, Nat.le_of_ble_eq_true rfl⟩ (Nat.le_of_ble_eq_true rfl) ⟨Nat.le_of_ble_eq_true rfl, Nat.le_of_ble_eq_true rfl⟩) hS (fun _ h => h.elim) (fun u => .int y :: []) (fun _ => rfl) (fun u H9 locs hw hP9 hz9 hk9 hS => ?_)
  have e9 : H9 = _ := hP9
  rw [e9] at hS ⊢
  exact e_z X hr hyn dJ0_charAt_5068e_15 hS () rfl trivial rfl ⟨Nat.le_of_ble_eq_true rfl, Nat.le_of_ble_eq_true rfl⟩
theorem ch_ok : ∀ k : Fin 6, ((((byS.getD 0 []).getD k.1 0) &&& 255).toUInt32 % 65536).toInt32 = ([50, 52, 54, 56, 57, 57] : List Int32).getD k.1 0 ∧ narrow .char (.int (([50, 52, 54, 56, 57, 57] : List Int32).getD k.1 0)) = .int (([50, 52, 54, 56, 57, 57] : List Int32).getD k.1 0) := by decide +kernel
abbrev rm_cha : Room := rm_chi
theorem c_cha (l : Launch) (D : va_G) (tc : Nat → ClassId) (h0 : Nat) (sa : Nat → Nat) (H0 : Heap) (x : Int32) (hix : vp_in x 6) : MB (S := Unit) l yJ0_charAt_5068e cJ0_charAt_5068e 2 (Option.some FieldType.char) rm_cha (fun _ => False) [.ref (sa 10), .int x] D tc h0 sa H0 (fun _ => True) (fun _ H1 => H1 = H0) (fun _ => some (.int (ch246 x))) :=
  c_chi l D tc h0 sa H0 0 (by decide) hix (ch_ok ⟨x.toNatClampNeg, lt10 hix⟩).1 (ch_ok ⟨x.toNatClampNeg, lt10 hix⟩).2
abbrev rm_cen  : Room := { frames := 0, cells := 0, slots := 0, locals := 0 }
set_option maxHeartbeats 4000000 in
theorem c_cen (l : Launch) (D : va_G) (tc : Nat → ClassId) (h0 : Nat) (sa : Nat → Nat) (H0 : Heap) {x : Int32} : MB (S := Unit) l yJ1_canEncode_9a6ad cJ1_canEncode_9a6ad 1 (Option.some FieldType.boolean) (rm_cen ) (fun _ : Nat => False) [.int x] D tc h0 sa H0 (fun _ => True) (fun _ (H1 : Heap) => H1 = H0) (fun _ => some (.int (if ¬ x < 0 ∧ x ≤ 255 then 1 else 0))) := by
  refine MB.ofF RJ1 [(0, .int x)] (by decide +kernel) rfl (Nat.le_of_ble_eq_true rfl) rfl ?_
  intro p e s m below meth c ls X hr hin hT hH hS hl
  subst hH
  have hx := X.1
  have hb := X.2.1
  have hown := X.2.2.2.1
  have hU := X.2.2.2.2.1.1
  have hA0 : ∀ q : Nat, (fun _ : Nat => False) q → h0 ≤ q := fun _ h => h.elim
  refine lv_iload_n hx hb dJ1_canEncode_9a6ad_0 rfl (lv_at hl 0 rfl) ?_
  by_cases h1 : x < 0
  · rw [if_neg (fun z => absurd h1 z.1)]
    refine lv_if_lt (tgt := 15) hx hb dJ1_canEncode_9a6ad_1 (by decide) (fun _ => ?_) (fun hc0 => absurd h1 hc0)
    refine lv_iconst (v := 0) hx hb dJ1_canEncode_9a6ad_15 (by decide) ?_
    exact e_z X hr rfl dJ1_canEncode_9a6ad_16 hS () rfl trivial rfl ⟨Nat.le_of_ble_eq_true rfl, Nat.le_of_ble_eq_true rfl⟩
  · skip
    refine lv_if_lt (tgt := 15) hx hb dJ1_canEncode_9a6ad_1 (by decide) (fun hc0 => absurd hc0 h1) (fun _ => ?_)
    refine lv_iload_n hx hb dJ1_canEncode_9a6ad_4 rfl (lv_at hl 0 rfl) ?_
    refine lv_sipush (v := 255) hx hb dJ1_canEncode_9a6ad_5 (by decide) ?_
    by_cases h2 : 255 < x
    · rw [if_neg (fun z => absurd h2 (Int32.not_lt.mpr z.2))]
      refine lv_icmp_gt (tgt := 15) hx hb dJ1_canEncode_9a6ad_8 (by decide) (fun _ => ?_) (fun hc0 => absurd h2 hc0)
      refine lv_iconst (v := 0) hx hb dJ1_canEncode_9a6ad_15 (by decide) ?_
      exact e_z X hr rfl dJ1_canEncode_9a6ad_16 hS () rfl trivial rfl ⟨Nat.le_of_ble_eq_true rfl, Nat.le_of_ble_eq_true rfl⟩
    · rw [if_pos ⟨h1, Int32.not_lt.mp h2⟩]
      refine lv_icmp_gt (tgt := 15) hx hb dJ1_canEncode_9a6ad_8 (by decide) (fun hc0 => absurd hc0 h2) (fun _ => ?_)
      refine lv_iconst (v := 1) hx hb dJ1_canEncode_9a6ad_11 (by decide) ?_
      refine lv_goto (tgt := 16) hx hb dJ1_canEncode_9a6ad_12 (by decide) ?_
      exact e_z X hr rfl dJ1_canEncode_9a6ad_16 hS () rfl trivial rfl ⟨Nat.le_of_ble_eq_true rfl, Nat.le_of_ble_eq_true rfl⟩
abbrev rm_ioc  : Room := { frames := 0, cells := 0, slots := 0, locals := 0 }
set_option maxHeartbeats 4000000 in
theorem c_ioc (l : Launch) (D : va_G) (tc : Nat → ClassId) (h0 : Nat) (sa : Nat → Nat) (H0 : Heap) {x cb : Int32} (hcb : x.toInt8.toInt32 = cb) : MB (S := Unit) l yJ1_indexOfChar_4cfef cJ1_indexOfChar_4cfef 6 (Option.some FieldType.int) (rm_ioc ) (fun _ : Nat => False) [.ref (sa 21), .int x, .int 0, .int 3] D tc h0 sa H0 (fun _ => True) (fun _ (H1 : Heap) => H1 = H0) (fun _ => some (.int (if (108 : Int32) = cb then 0 else if (116 : Int32) = cb then (0 + 1) else if (105 : Int32) = cb then (0 + 1 + 1) else -1))) := by
  refine MB.ofF RJ1 [(0, .ref (sa 21)), (1, .int x), (2, .int 0), (3, .int 3)] (by decide +kernel) rfl (Nat.le_of_ble_eq_true rfl) rfl ?_
  intro p e s m below meth c ls X hr hin hT hH hS hl
  subst hH
  have hx := X.1
  have hb := X.2.1
  have hown := X.2.2.2.1
  have hU := X.2.2.2.2.1.1
  have hA0 : ∀ q : Nat, (fun _ : Nat => False) q → h0 ≤ q := fun _ h => h.elim
  have hby := str_by hT (i := 1) (by decide)
  refine lv_iload_n hx hb dJ1_indexOfChar_4cfef_0 rfl (lv_at hl 1 rfl) ?_
  refine lv_i2b (v := cb) hx hb dJ1_indexOfChar_4cfef_1 hcb ?_
  refine lv_istore (lv' := [(4, .int cb), (0, .ref (sa 21)), (1, .int x), (2, .int 0), (3, .int 3)]) hx hb dJ1_indexOfChar_4cfef_2 hl (by decide) rfl (fun ls hl => ?_)
  refine lv_iload_n hx hb dJ1_indexOfChar_4cfef_4 rfl (lv_at hl 3 rfl) ?_
  refine lv_istore (lv' := [(5, .int 0), (4, .int cb), (0, .ref (sa 21)), (1, .int x), (2, .int 0), (3, .int 3)]) hx hb dJ1_indexOfChar_4cfef_5 hl (by decide) rfl (fun ls hl => ?_)
  refine lv_iload hx hb dJ1_indexOfChar_4cfef_7 (lv_at hl 0 rfl) ?_
  refine lv_iload_n hx hb dJ1_indexOfChar_4cfef_9 rfl (lv_at hl 5 rfl) ?_
  refine lv_icmp_ge (tgt := 31) hx hb dJ1_indexOfChar_4cfef_10 (by decide) (fun hc0 => absurd hc0 (show ¬ (3 : Int32) ≤ 0 by decide)) (fun _ => ?_)
  refine lv_aload_n hx hb dJ1_indexOfChar_4cfef_13 rfl (lv_at hl 2 rfl) ?_
  refine lv_iload hx hb dJ1_indexOfChar_4cfef_14 (lv_at hl 0 rfl) ?_
  refine va_tb hx hb hby hS (show vp_in 0 3 by unfold vp_in; decide) (v := .int 108) rfl dJ1_indexOfChar_4cfef_16 ?_
  refine lv_iload hx hb dJ1_indexOfChar_4cfef_17 (lv_at hl 1 rfl) ?_
  by_cases g0 : (108 : Int32) = cb
  · rw [if_pos g0]
    refine lv_icmp_ne (tgt := 25) hx hb dJ1_indexOfChar_4cfef_19 (by decide) (fun hc0 => absurd g0 hc0) (fun _ => ?_)
    refine lv_iload hx hb dJ1_indexOfChar_4cfef_22 (lv_at hl 0 rfl) ?_
    exact e_i X hr dJ1_indexOfChar_4cfef_24 hS () rfl trivial rfl ⟨Nat.le_of_ble_eq_true rfl, Nat.le_of_ble_eq_true rfl⟩
  · rw [if_neg g0]
    refine lv_icmp_ne (tgt := 25) hx hb dJ1_indexOfChar_4cfef_19 (by decide) (fun _ => ?_) (fun hc0 => absurd hc0 g0)
    refine lv_iinc (lv' := [(5, .int (0 + 1)), (4, .int cb), (0, .ref (sa 21)), (1, .int x), (2, .int 0), (3, .int 3)]) hx hb dJ1_indexOfChar_4cfef_25 hl (k := 0) rfl (by rfl) (by decide) rfl (fun ls hl => ?_)
    refine lv_goto (tgt := 7) hx hb dJ1_indexOfChar_4cfef_28 (by decide) ?_
    refine lv_iload hx hb dJ1_indexOfChar_4cfef_7 (lv_at hl 0 rfl) ?_
    refine lv_iload_n hx hb dJ1_indexOfChar_4cfef_9 rfl (lv_at hl 5 rfl) ?_
    refine lv_icmp_ge (tgt := 31) hx hb dJ1_indexOfChar_4cfef_10 (by decide) (fun hc0 => absurd hc0 (show ¬ (3 : Int32) ≤ (0 + 1) by decide)) (fun _ => ?_)
    refine lv_aload_n hx hb dJ1_indexOfChar_4cfef_13 rfl (lv_at hl 2 rfl) ?_
    refine lv_iload hx hb dJ1_indexOfChar_4cfef_14 (lv_at hl 0 rfl) ?_
    refine va_tb hx hb hby hS (show vp_in (0 + 1) 3 by unfold vp_in; decide) (v := .int 116) rfl dJ1_indexOfChar_4cfef_16 ?_
    refine lv_iload hx hb dJ1_indexOfChar_4cfef_17 (lv_at hl 1 rfl) ?_
    by_cases g1 : (116 : Int32) = cb
    · rw [if_pos g1]
      refine lv_icmp_ne (tgt := 25) hx hb dJ1_indexOfChar_4cfef_19 (by decide) (fun hc0 => absurd g1 hc0) (fun _ => ?_)
      refine lv_iload hx hb dJ1_indexOfChar_4cfef_22 (lv_at hl 0 rfl) ?_
      exact e_i X hr dJ1_indexOfChar_4cfef_24 hS () rfl trivial rfl ⟨Nat.le_of_ble_eq_true rfl, Nat.le_of_ble_eq_true rfl⟩
    · rw [if_neg g1]
      refine lv_icmp_ne (tgt := 25) hx hb dJ1_indexOfChar_4cfef_19 (by decide) (fun _ => ?_) (fun hc0 => absurd hc0 g1)
      refine lv_iinc (lv' := [(5, .int ((0 + 1) + 1)), (4, .int cb), (0, .ref (sa 21)), (1, .int x), (2, .int 0), (3, .int 3)]) hx hb dJ1_indexOfChar_4cfef_25 hl (k := 0) rfl (by rfl) (by decide) rfl (fun ls hl => ?_)
      refine lv_goto (tgt := 7) hx hb dJ1_indexOfChar_4cfef_28 (by decide) ?_
      refine lv_iload hx hb dJ1_indexOfChar_4cfef_7 (lv_at hl 0 rfl) ?_
      refine lv_iload_n hx hb dJ1_indexOfChar_4cfef_9 rfl (lv_at hl 5 rfl) ?_
      refine lv_icmp_ge (tgt := 31) hx hb dJ1_indexOfChar_4cfef_10 (by decide) (fun hc0 => absurd hc0 (show ¬ (3 : Int32) ≤ ((0 + 1) + 1) by decide)) (fun _ => ?_)
      refine lv_aload_n hx hb dJ1_indexOfChar_4cfef_13 rfl (lv_at hl 2 rfl) ?_
      refine lv_iload hx hb dJ1_indexOfChar_4cfef_14 (lv_at hl 0 rfl) ?_
      refine va_tb hx hb hby hS (show vp_in ((0 + 1) + 1) 3 by unfold vp_in; decide) (v := .int 105) rfl dJ1_indexOfChar_4cfef_16 ?_
      refine lv_iload hx hb dJ1_indexOfChar_4cfef_17 (lv_at hl 1 rfl) ?_
      by_cases g2 : (105 : Int32) = cb
      · rw [if_pos g2]
        refine lv_icmp_ne (tgt := 25) hx hb dJ1_indexOfChar_4cfef_19 (by decide) (fun hc0 => absurd g2 hc0) (fun _ => ?_)
        refine lv_iload hx hb dJ1_indexOfChar_4cfef_22 (lv_at hl 0 rfl) ?_
        exact e_i X hr dJ1_indexOfChar_4cfef_24 hS () rfl trivial rfl ⟨Nat.le_of_ble_eq_true rfl, Nat.le_of_ble_eq_true rfl⟩
      · rw [if_neg g2]
        refine lv_icmp_ne (tgt := 25) hx hb dJ1_indexOfChar_4cfef_19 (by decide) (fun _ => ?_) (fun hc0 => absurd hc0 g2)
        refine lv_iinc (lv' := [(5, .int (((0 + 1) + 1) + 1)), (4, .int cb), (0, .ref (sa 21)), (1, .int x), (2, .int 0), (3, .int 3)]) hx hb dJ1_indexOfChar_4cfef_25 hl (k := 0) rfl (by rfl) (by decide) rfl (fun ls hl => ?_)
        refine lv_goto (tgt := 7) hx hb dJ1_indexOfChar_4cfef_28 (by decide) ?_
        refine lv_iload hx hb dJ1_indexOfChar_4cfef_7 (lv_at hl 0 rfl) ?_
        refine lv_iload_n hx hb dJ1_indexOfChar_4cfef_9 rfl (lv_at hl 5 rfl) ?_
        refine lv_icmp_ge (tgt := 31) hx hb dJ1_indexOfChar_4cfef_10 (by decide) (fun _ => ?_) (fun hc0 => absurd (show (3 : Int32) ≤ (((0 + 1) + 1) + 1) by decide) hc0)
        refine lv_iconst (v := (-1)) hx hb dJ1_indexOfChar_4cfef_31 (by decide) ?_
        exact e_i X hr dJ1_indexOfChar_4cfef_32 hS () rfl trivial rfl ⟨Nat.le_of_ble_eq_true rfl, Nat.le_of_ble_eq_true rfl⟩
theorem ix_fin : ∀ k : Fin 256, (if (108 : Int32) = (nI k.1).toInt8.toInt32 then (0 : Int32) else if (116 : Int32) = (nI k.1).toInt8.toInt32 then (0 + 1) else if (105 : Int32) = (nI k.1).toInt8.toInt32 then (0 + 1 + 1) else -1) = ixlti (nI k.1) := by decide +kernel
theorem ix_ok {x : Int32} (h : ¬ x < 0 ∧ x ≤ 255) : (if (108 : Int32) = x.toInt8.toInt32 then (0 : Int32) else if (116 : Int32) = x.toInt8.toInt32 then (0 + 1) else if (105 : Int32) = x.toInt8.toInt32 then (0 + 1 + 1) else -1) = ixlti x := by
  have e := nI_ofc h.1
  have hl : x.toNatClampNeg < 256 := by
    have h2 := Int32.le_iff_toInt_le.mp h.2
    have h3 := cl_nn h.1
    have : (255 : Int32).toInt = 255 := rfl
    omega
  have := ix_fin ⟨x.toNatClampNeg, hl⟩
  rw [e] at this
  exact this
theorem ix_no {x : Int32} (h : ¬ (¬ x < 0 ∧ x ≤ 255)) : ixlti x = -1 := by
  unfold ixlti
  rw [if_neg (fun e => h (by subst e; decide)), if_neg (fun e => h (by subst e; decide)), if_neg (fun e => h (by subst e; decide))]
abbrev rm_lix  : Room := { frames := 1, cells := 0, slots := 0, locals := 25 }
set_option maxHeartbeats 4000000 in
theorem c_lix (l : Launch) (D : va_G) (tc : Nat → ClassId) (h0 : Nat) (sa : Nat → Nat) (H0 : Heap) {x : Int32} : MB (S := Unit) l yJ1_indexOf_4cfef cJ1_indexOf_4cfef 4 (Option.some FieldType.int) (rm_lix ) (fun _ : Nat => False) [.ref (sa 21), .int x, .int 0, .int 3] D tc h0 sa H0 (fun _ => True) (fun _ (H1 : Heap) => H1 = H0) (fun _ => some (.int (ixlti x))) := by
  refine MB.ofF RJ1 [(0, .ref (sa 21)), (1, .int x), (2, .int 0), (3, .int 3)] (by decide +kernel) rfl (Nat.le_of_ble_eq_true rfl) rfl ?_
  intro p e s m below meth c ls X hr hin hT hH hS hl
  subst hH
  have hx := X.1
  have hb := X.2.1
  have hown := X.2.2.2.1
  have hU := X.2.2.2.2.1.1
  have hA0 : ∀ q : Nat, (fun _ : Nat => False) q → h0 ≤ q := fun _ h => h.elim
  refine lv_iload_n hx hb dJ1_indexOf_4cfef_0 rfl (lv_at hl 1 rfl) ?_
  refine g_after (st0 := [.int x]) (rest := []) (g_S X m_J1_88 (c_cen l D tc h0 sa s.heap (x := x)) hT hS hA0 dJ1_indexOf_4cfef_1 hl.1 rfl rfl ⟨Nat.le_of_ble_eq_true rfl, Nat.le_of_ble_eq_true rfl⟩ (Nat.le_of_ble_eq_true rfl) ⟨Nat.le_of_ble_eq_true rfl, Nat.le_of_ble_eq_true rfl⟩) hS (fun _ h => h.elim) (fun u => .int (if ¬ x < 0 ∧ x ≤ 255 then 1 else 0) :: []) (fun _ => rfl) (fun u H9 locs hw hP9 hz9 hk9 hS => ?_)
  have e9 : H9 = _ := hP9
  rw [e9] at hS ⊢
  by_cases h1 : ¬ x < 0 ∧ x ≤ 255
  · rw [if_pos h1]
    refine lv_if_ne (tgt := 9) hx hb dJ1_indexOf_4cfef_4 (by decide) (fun _ => ?_) (fun hc0 => absurd hc0 (show ¬ (1 : Int32) = 0 by decide))
    refine lv_iload_n hx hb dJ1_indexOf_4cfef_9 rfl (lv_at hl 2 rfl) ?_
    refine lv_iconst (v := 0) hx hb dJ1_indexOf_4cfef_10 (by decide) ?_
    refine g_max X hl.1 dJ1_indexOf_4cfef_11 w_1856 w_604 w_21 w_605 ⟨Nat.le_of_ble_eq_true rfl, Nat.le_of_ble_eq_true rfl, Nat.le_of_ble_eq_true rfl, Nat.le_of_ble_eq_true rfl⟩ ?_
    rw [show (if (0 : Int32) < 0 then (0 : Int32) else 0) = 0 from rfl]
    refine lv_istore_n (lv' := [(2, .int 0), (0, .ref (sa 21)), (1, .int x), (3, .int 3)]) hx hb dJ1_indexOf_4cfef_14 rfl hl (by decide) rfl (fun ls hl => ?_)
    refine lv_iload_n hx hb dJ1_indexOf_4cfef_15 rfl (lv_at hl 3 rfl) ?_
    refine lv_aload_n hx hb dJ1_indexOf_4cfef_16 rfl (lv_at hl 1 rfl) ?_
    refine va_tlen hx hb (str_by hT (i := 1) (by decide)) hS (v := 3) rfl dJ1_indexOf_4cfef_17 ?_
    refine g_min X hl.1 dJ1_indexOf_4cfef_18 w_1857 w_607 w_21 w_608 ⟨Nat.le_of_ble_eq_true rfl, Nat.le_of_ble_eq_true rfl, Nat.le_of_ble_eq_true rfl, Nat.le_of_ble_eq_true rfl⟩ ?_
    rw [show (if (3 : Int32) < 3 then (3 : Int32) else 3) = 3 from rfl]
    refine lv_istore_n (lv' := [(3, .int 3), (2, .int 0), (0, .ref (sa 21)), (1, .int x)]) hx hb dJ1_indexOf_4cfef_21 rfl hl (by decide) rfl (fun ls hl => ?_)
    refine lv_iload_n hx hb dJ1_indexOf_4cfef_22 rfl (lv_at hl 1 rfl) ?_
    refine lv_iload_n hx hb dJ1_indexOf_4cfef_23 rfl (lv_at hl 0 rfl) ?_
    refine lv_icmp_lt (tgt := 29) hx hb dJ1_indexOf_4cfef_24 (by decide) (fun _ => ?_) (fun hc0 => absurd (show (0 : Int32) < 3 by decide) hc0)
    refine lv_aload_n hx hb dJ1_indexOf_4cfef_29 rfl (lv_at hl 2 rfl) ?_
    refine lv_iload_n hx hb dJ1_indexOf_4cfef_30 rfl (lv_at hl 3 rfl) ?_
    refine lv_iload_n hx hb dJ1_indexOf_4cfef_31 rfl (lv_at hl 1 rfl) ?_
    refine lv_iload_n hx hb dJ1_indexOf_4cfef_32 rfl (lv_at hl 0 rfl) ?_
    refine g_after (st0 := [.int 3, .int 0, .int x, .ref (sa 21)]) (rest := []) (g_S X m_J1_95 (c_ioc l D tc h0 sa s.heap (x := x) rfl) hT hS hA0 dJ1_indexOf_4cfef_33 hl.1 rfl rfl ⟨Nat.le_of_ble_eq_true rfl, Nat.le_of_ble_eq_true rfl⟩ (Nat.le_of_ble_eq_true rfl) ⟨Nat.le_of_ble_eq_true rfl, Nat.le_of_ble_eq_true rfl⟩) hS (fun _ h => h.elim) (fun u => .int (if (108 : Int32) = x.toInt8.toInt32 then 0 else if (116 : Int32) = x.toInt8.toInt32 then (0 + 1) else if (105 : Int32) = x.toInt8.toInt32 then (0 + 1 + 1) else -1) :: []) (fun _ => rfl) (fun u H9 locs hw hP9 hz9 hk9 hS => ?_)
    have e9 : H9 = _ := hP9
    rw [e9] at hS ⊢
    rw [ix_ok h1]
    exact e_i X hr dJ1_indexOf_4cfef_36 hS () rfl trivial rfl ⟨Nat.le_of_ble_eq_true rfl, Nat.le_of_ble_eq_true rfl⟩
  · rw [if_neg h1, ix_no h1]
    refine lv_if_ne (tgt := 9) hx hb dJ1_indexOf_4cfef_4 (by decide) (fun hc0 => absurd (rfl : (0 : Int32) = 0) hc0) (fun _ => ?_)
    refine lv_iconst (v := (-1)) hx hb dJ1_indexOf_4cfef_7 (by decide) ?_
    exact e_i X hr dJ1_indexOf_4cfef_8 hS () rfl trivial rfl ⟨Nat.le_of_ble_eq_true rfl, Nat.le_of_ble_eq_true rfl⟩
abbrev rm_sii  : Room := { frames := 2, cells := 0, slots := 0, locals := 48 }
set_option maxHeartbeats 4000000 in
theorem c_sii (l : Launch) (D : va_G) (tc : Nat → ClassId) (h0 : Nat) (sa : Nat → Nat) (H0 : Heap) {x : Int32} : MB (S := Unit) l yJ0_indexOf_7cf53 cJ0_indexOf_7cf53 3 (Option.some FieldType.int) (rm_sii ) (fun _ : Nat => False) [.ref (sa 11), .int x, .int 0] D tc h0 sa H0 (fun _ => True) (fun _ (H1 : Heap) => H1 = H0) (fun _ => some (.int (ixlti x))) := by
  refine MB.ofF RJ0 [(0, .ref (sa 11)), (1, .int x), (2, .int 0)] (by decide +kernel) rfl (Nat.le_of_ble_eq_true rfl) rfl ?_
  intro p e s m below meth c ls X hr hin hT hH hS hl
  subst hH
  have hx := X.1
  have hb := X.2.1
  have hown := X.2.2.2.1
  have hU := X.2.2.2.2.1.1
  have hA0 : ∀ q : Nat, (fun _ : Nat => False) q → h0 ≤ q := fun _ h => h.elim
  have hi : 1 < 2 := by decide
  refine lv_aload_n hx hb dJ0_indexOf_7cf53_0 rfl (lv_at hl 0 rfl) ?_
  refine g_after (st0 := [.ref (sa 11)]) (rest := []) (g_V X m_J0_492 (c_isl l D tc h0 sa s.heap 1 (by decide)) (strv hT hS (fun _ h => h.elim) (i := 1) (by decide)) hT hS hA0 dJ0_indexOf_7cf53_1 hl.1 rfl rfl ⟨Nat.le_of_ble_eq_true rfl, Nat.le_of_ble_eq_true rfl⟩ (Nat.le_of_ble_eq_true rfl) ⟨Nat.le_of_ble_eq_true rfl, Nat.le_of_ble_eq_true rfl⟩) hS (fun _ h => h.elim) (fun u => .int 1 :: []) (fun _ => rfl) (fun u H9 locs hw hP9 hz9 hk9 hS => ?_)
  have e9 : H9 = _ := hP9
  rw [e9] at hS ⊢
  refine lv_if_eq (tgt := 23) hx hb dJ0_indexOf_7cf53_4 (by decide) (fun hc0 => absurd hc0 (show ¬ (1 : Int32) = 0 by decide)) (fun _ => ?_)
  refine lv_aload_n hx hb dJ0_indexOf_7cf53_7 rfl (lv_at hl 0 rfl) ?_
  refine vk_getf hx hb (str_va hT (i := 1) (by decide)) hS hown (hU.use w_2081) (fun _ h => h) dJ0_indexOf_7cf53_8 ?_
  refine lv_iload_n hx hb dJ0_indexOf_7cf53_11 rfl (lv_at hl 1 rfl) ?_
  refine lv_iload_n hx hb dJ0_indexOf_7cf53_12 rfl (lv_at hl 2 rfl) ?_
  refine lv_aload_n hx hb dJ0_indexOf_7cf53_13 rfl (lv_at hl 0 rfl) ?_
  refine g_after (st0 := [.ref (sa 11), .int 0, .int x, .ref (sa 21)]) (rest := [.int 0, .int x, .ref (sa 21)]) (g_V X m_J0_505 (c_sln l D tc h0 sa s.heap 1 (by decide)) (strv hT hS (fun _ h => h.elim) (i := 1) (by decide)) hT hS hA0 dJ0_indexOf_7cf53_14 hl.1 rfl rfl ⟨Nat.le_of_ble_eq_true rfl, Nat.le_of_ble_eq_true rfl⟩ (Nat.le_of_ble_eq_true rfl) ⟨Nat.le_of_ble_eq_true rfl, Nat.le_of_ble_eq_true rfl⟩) hS (fun _ h => h.elim) (fun u => .int 3 :: [.int 0, .int x, .ref (sa 21)]) (fun _ => rfl) (fun u H9 locs hw hP9 hz9 hk9 hS => ?_)
  have e9 : H9 = _ := hP9
  rw [e9] at hS ⊢
  refine g_after (st0 := [.int 3, .int 0, .int x, .ref (sa 21)]) (rest := []) (g_S X m_J0_637 (c_lix l D tc h0 sa s.heap (x := x)) hT hS hA0 dJ0_indexOf_7cf53_17 hl.1 rfl rfl ⟨Nat.le_of_ble_eq_true rfl, Nat.le_of_ble_eq_true rfl⟩ (Nat.le_of_ble_eq_true rfl) ⟨Nat.le_of_ble_eq_true rfl, Nat.le_of_ble_eq_true rfl⟩) hS (fun _ h => h.elim) (fun u => .int (ixlti x) :: []) (fun _ => rfl) (fun u H9 locs hw hP9 hz9 hk9 hS => ?_)
  have e9 : H9 = _ := hP9
  rw [e9] at hS ⊢
  refine lv_goto (tgt := 36) hx hb dJ0_indexOf_7cf53_20 (by decide) ?_
  exact e_i X hr dJ0_indexOf_7cf53_36 hS () rfl trivial rfl ⟨Nat.le_of_ble_eq_true rfl, Nat.le_of_ble_eq_true rfl⟩
abbrev rm_ixo  : Room := { frames := 3, cells := 0, slots := 0, locals := 70 }
set_option maxHeartbeats 4000000 in
theorem c_ixo (l : Launch) (D : va_G) (tc : Nat → ClassId) (h0 : Nat) (sa : Nat → Nat) (H0 : Heap) (x : Int32) : MB (S := Unit) l yJ0_indexOf_0f7a4 cJ0_indexOf_0f7a4 2 (Option.some FieldType.int) (rm_ixo ) (fun _ : Nat => False) [.ref (sa 11), .int x] D tc h0 sa H0 (fun _ => True) (fun _ (H1 : Heap) => H1 = H0) (fun _ => some (.int (ixlti x))) := by
  refine MB.ofF RJ0 [(0, .ref (sa 11)), (1, .int x)] (by decide +kernel) rfl (Nat.le_of_ble_eq_true rfl) rfl ?_
  intro p e s m below meth c ls X hr hin hT hH hS hl
  subst hH
  have hx := X.1
  have hb := X.2.1
  have hown := X.2.2.2.1
  have hU := X.2.2.2.2.1.1
  have hA0 : ∀ q : Nat, (fun _ : Nat => False) q → h0 ≤ q := fun _ h => h.elim
  refine lv_aload_n hx hb dJ0_indexOf_0f7a4_0 rfl (lv_at hl 0 rfl) ?_
  refine lv_iload_n hx hb dJ0_indexOf_0f7a4_1 rfl (lv_at hl 1 rfl) ?_
  refine lv_iconst (v := 0) hx hb dJ0_indexOf_0f7a4_2 (by decide) ?_
  refine g_after (st0 := [.int 0, .int x, .ref (sa 11)]) (rest := []) (g_V X m_J0_633 (c_sii l D tc h0 sa s.heap (x := x)) (strv hT hS (fun _ h => h.elim) (i := 1) (by decide)) hT hS hA0 dJ0_indexOf_0f7a4_3 hl.1 rfl rfl ⟨Nat.le_of_ble_eq_true rfl, Nat.le_of_ble_eq_true rfl⟩ (Nat.le_of_ble_eq_true rfl) ⟨Nat.le_of_ble_eq_true rfl, Nat.le_of_ble_eq_true rfl⟩) hS (fun _ h => h.elim) (fun u => .int (ixlti x) :: []) (fun _ => rfl) (fun u H9 locs hw hP9 hz9 hk9 hS => ?_)
  have e9 : H9 = _ := hP9
  rw [e9] at hS ⊢
  exact e_i X hr dJ0_indexOf_0f7a4_6 hS () rfl trivial rfl ⟨Nat.le_of_ble_eq_true rfl, Nat.le_of_ble_eq_true rfl⟩
