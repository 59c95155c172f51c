/-! THE MODEL: a copy of a world -/
abbrev rm_X12_copy (b0 s0 : Nat) : Room := { frames := 7, cells := b0, slots := s0, locals := 191 }
def wp_X12_copy_173 (post : Nat → (Nat → Nat) → (Nat → Nat) → (Nat → Nat → Nat) → Dt → Prop)   : Nat → (Nat) → (Nat) → (Nat) → (Int32) → (Int32) → (Nat → Nat) → (Nat → Nat) → (Nat → Nat → Nat) → (Dt) → (Nat) → (Nat) → Prop
  | 0, _, _, _, _, _, _, _, _, _, _, _ => False
  | n9 + 1, y0, y1, ay2, cy2, my2, tS, nS, rS, wS, bS, sS => (cy2 = nI (nS ay2) → nS (rS y1 10) = 0 ∧ (¬ (rS y0 10) = (rS y1 10) ∧ (nS (rS y0 10) < 400 ∧ (2 ≤ bS ∧ ((3 * (nS (rS y0 10)) + 10) ≤ sS ∧ (∀ nS38 : Nat → Nat, nS38 = va_up nS (rS y1 10) (nS (rS y0 10)) → (∀ rS39 : Nat → Nat → Nat, rS39 = va_up rS (rS y1 10) (rS (rS y0 10)) → (∀ wS40 : Dt, wS40 = up2 wS (rS y1 10) 0 (wS (rS y1 10) 0 + 1) → (∀ wS42 : Dt, wS42 = up2 wS40 y1 11 (wS40 y0 11) → (post y1 tS nS38 rS39 wS42)))))))))) ∧ (¬ cy2 = nI (nS ay2) → vp_in cy2 (nS ay2) ∧ (wS ay2 0 = my2 ∧ (1 ≤ bS ∧ (3 ≤ sS ∧ (∀ q49 : Nat, tS q49 = 0 → (∀ tS52 : Nat → Nat, tS52 = va_up tS q49 23 → (∀ wS53 : Dt, wS53 = va_up wS q49 (wS (rS ay2 cy2.toNatClampNeg)) → (nS (rS y1 9) < 400 ∧ (1 ≤ (bS - 1) ∧ ((2 * (nS (rS y1 9)) + 10) ≤ (sS - 3) ∧ (∀ nS62 : Nat → Nat, nS62 = va_up nS (rS y1 9) (nS (rS y1 9) + 1) → (∀ rS63 : Nat → Nat → Nat, rS63 = va_up rS (rS y1 9) (va_up (rS (rS y1 9)) (nS (rS y1 9)) q49) → (∀ wS64 : Dt, wS64 = up2 wS53 (rS y1 9) 0 (wS53 (rS y1 9) 0 + 1) → (wp_X12_copy_173 post   n9 y0 y1 ay2 (cy2 + 1) my2 tS52 nS62 rS63 wS64 ((bS - 1) - 1) ((sS - 3) - (2 * (nS (rS y1 9)) + 10))))))))))))))))
set_option maxHeartbeats 4000000 in
set_option maxRecDepth 100000 in
theorem t_X12_copy_173 : ∀ {p : Program} {l : Launch} {e : Env} {s : State} {m : MethodId} {args : Array Value} {below : List Frame} {meth : Method} {c : Code} {D : va_G} {tc : Nat → ClassId} {h0 : Nat} {sa : Nat → Nat} {Am : Nat → Prop} {b0 s0 : Nat} {t0 : Nat → Nat} {post : Nat → (Nat → Nat) → (Nat → Nat) → (Nat → Nat → Nat) → Dt → Prop}   (X : Cx p c s m meth cX12_copy 4 RX12 D tc) (hr : meth.sig.returnType = (Option.some (FieldType.object "BandworldModel$World"))) (hT : ST h0 sa s s.heap) (hA0 : ∀ q, Am q → h0 ≤ q) (hAm9 : ∀ x, s.heap.size ≤ x → Am x)  (n9 : Nat), ∀ (qy2 : Nat) (y0 : Nat) (y1 : Nat) (ay2 : Nat) (cy2 : Int32) (my2 : Int32) (tS : Nat → Nat) (nS : Nat → Nat) (rS : Nat → Nat → Nat) (wS : Dt) (bS : Nat) (sS : Nat) (H : Heap) (locs : List Loc) (ls : Array Slot) (AS : Nat → Prop) (cells slots : Nat), wp_X12_copy_173 post   n9 y0 y1 ay2 cy2 my2 tS nS rS wS bS sS → SB D tc (sa 3) AS tS nS rS wS H → (tS y0 = 4) → (tS y1 = 4) → (tS ay2 = 9) → (IT D qy2 ay2 cy2 my2 H) → (¬ AS qy2) → (Am qy2) → (∀ x, AS x → Am x) → (∀ x, H.size ≤ x → AS x) → Ext t0 tS → cells + bS ≤ b0 → slots + sS ≤ s0 → va_S Am s.heap H locs → lv_has ls 4 [(0, .ref y0), (1, .ref y1), (2, .ref qy2)] → W p l e (rm_X12_copy b0 s0) s m args below meth c H locs cells slots (MQ below (QB (fun u : Nat × (Nat → Nat) × (Nat → Nat) × (Nat → Nat → Nat) × Dt => post u.1 u.2.1 u.2.2.1 u.2.2.2.1 u.2.2.2.2) (fun (u : Nat × (Nat → Nat) × (Nat → Nat) × (Nat → Nat → Nat) × Dt) (H1 : Heap) => SB D tc (sa 3) Am u.2.1 u.2.2.1 u.2.2.2.1 u.2.2.2.2 H1 ∧ Ext t0 u.2.1 ∧ u.2.1 u.1 = 4) (fun u : Nat × (Nat → Nat) × (Nat → Nat) × (Nat → Nat → Nat) × Dt => some (.ref u.1)) Am) args s (rm_X12_copy b0 s0).cells (rm_X12_copy b0 s0).slots Am) (F0 m 173 ls []) := by
  intro p l e s m args below meth c D tc h0 sa Am b0 s0 t0 post   X hr hT hA0 hAm9  n9
  have hx := X.1
  have hb := X.2.1
  have hown := X.2.2.2.1
  have hU := X.2.2.2.2.1.1
  induction n9 with
  | zero =>
    intro qy2 y0 y1 ay2 cy2 my2 tS nS rS wS bS sS H locs ls AS cells slots hw
    exact hw.elim
  | succ n9 ih =>
    intro qy2 y0 y1 ay2 cy2 my2 tS nS rS wS bS sS H locs ls AS cells slots hw hB hky0 hky1 hky2 hIy2 hny2 hmy2 hAS hAF hX hc hs hS hl
    unfold wp_X12_copy_173 at hw
    refine lv_aload_n hx hb dX12_copy_173 rfl (lv_at hl 2 rfl) ?_
    have hI9 := hIy2
    obtain ⟨lr9, hat9⟩ := hI9
    refine g_after5 (st0 := [.ref qy2]) (rest := []) (g_F X mf_X12_65 (c_hn l D tc h0 sa _ qy2 ay2 hB (isL_of hky2) hIy2) rfl hat9 hT hS hA0 dX12_copy_174 hl.1 rfl rfl ⟨Nat.le_of_ble_eq_true rfl, Nat.le_of_ble_eq_true rfl⟩ (Nat.le_of_ble_eq_true rfl) ⟨show cells + 0 ≤ b0 by omega, show slots + 0 ≤ s0 by omega⟩) hS (fun _ h => h.elim) (fun u => .int (if cy2 = nI (nS ay2) then 0 else 1) :: []) (fun _ => rfl) (fun u H9 locs hu hP9 hz9 hk9 hS => ?_)
    have e9 : H9 = _ := hP9
    rw [e9] at hS ⊢
    refine W.widen (k := cells) (n := slots) (Nat.le_refl _) (Nat.le_refl _) ?_
    refine lv_if_eq (tgt := 212) hx hb dX12_copy_179 (by decide) (fun c30 => ?_) (fun c30 => ?_)
    · have hw := hw.1 (hn_eq c30)
      refine lv_aload_n hx hb dX12_copy_212 rfl (lv_at hl 1 rfl) ?_
      refine g_get X dX12_copy_213 f_X12_40 (hB.one (k := 4) hky1 rfl) 0 (v := .ref (rS y1 10)) rfl rfl ?_
      have k31 : tS (rS y1 10) = 15 := (hB.wtk hky1).2.2.2.2.2.2
      refine lv_aload_n hx hb dX12_copy_216 rfl (lv_at hl 0 rfl) ?_
      refine g_get X dX12_copy_217 f_X12_40 (hB.one (k := 4) hky0 rfl) 0 (v := .ref (rS y0 10)) rfl rfl ?_
      have k32 : tS (rS y0 10) = 15 := (hB.wtk hky0).2.2.2.2.2.2
      obtain ⟨fs9, hat9⟩ := hB.lat (isL_of k31)
      obtain ⟨o33, hw⟩ := hw
      obtain ⟨o34, hw⟩ := hw
      obtain ⟨o35, hw⟩ := hw
      obtain ⟨o36, hw⟩ := hw
      obtain ⟨o37, hw⟩ := hw
      refine g_after5 (st0 := [.ref (rS y0 10), .ref (rS y1 10)]) (rest := []) (g_F X mf_X12_89 (c_aa l D tc h0 sa _ (rS y1 10) (rS y0 10) hB (isL_of k31) (by rw [k32, k31]) o33 o34 o35 (fun x h => hA0 x (hAS x h)) hAF) rfl hat9 hT hS hA0 dX12_copy_220 hl.1 rfl rfl ⟨Nat.le_of_ble_eq_true rfl, Nat.le_of_ble_eq_true rfl⟩ (Nat.le_of_ble_eq_true rfl) ⟨show cells + 2 ≤ b0 by omega, show slots + (3 * (nS (rS y0 10)) + 10) ≤ s0 by omega⟩) hS hAS (fun u => .int (if nS (rS y0 10) = 0 then 0 else 1) :: []) (fun _ => rfl) (fun u H locs hu hP9 hz9 hk9 hS => ?_)
      have hB := hP9
      have hIy2 := hIy2.kept (fun x hx e => hk9 x hx (fun hA => hny2 (e ▸ hA)))
      have hAF : ∀ x, H.size ≤ x → AS x := fun x h => hAF x (by omega)
      refine W_bud (b := (bS - 2)) (s1 := (sS - (3 * (nS (rS y0 10)) + 10))) (B := b0) (S := s0) (show (cells + 2) + (bS - 2) ≤ b0 by omega) (show (slots + (3 * (nS (rS y0 10)) + 10)) + (sS - (3 * (nS (rS y0 10)) + 10)) ≤ s0 by omega) (fun cells slots hc hs => ?_)
      obtain ⟨nS38, enS38⟩ : ∃ z : Nat → Nat, z = va_up nS (rS y1 10) (nS (rS y0 10)) := ⟨_, rfl⟩
      rw [← enS38] at hB
      have hw := hw nS38 enS38
      obtain ⟨rS39, erS39⟩ : ∃ z : Nat → Nat → Nat, z = va_up rS (rS y1 10) (rS (rS y0 10)) := ⟨_, rfl⟩
      rw [← erS39] at hB
      have hw := hw rS39 erS39
      obtain ⟨wS40, ewS40⟩ : ∃ z : Dt, z = up2 wS (rS y1 10) 0 (wS (rS y1 10) 0 + 1) := ⟨_, rfl⟩
      rw [← ewS40] at hB
      have hw := hw wS40 ewS40
      refine lv_pop hx hb dX12_copy_225 rfl ?_
      refine lv_aload_n hx hb dX12_copy_226 rfl (lv_at hl 1 rfl) ?_
      refine lv_aload_n hx hb dX12_copy_227 rfl (lv_at hl 0 rfl) ?_
      refine g_get X dX12_copy_228 f_X12_93 (hB.one (k := 4) hky0 rfl) 0 (v := .int (wS40 y0 11)) rfl rfl ?_
      have A41 := (hB.lt (by rw [hky1]; decide)).2
      refine g_puti X dX12_copy_231 f_X12_93 (hB.oneB (k := 4) hAS hky1 rfl) hS 0 rfl (x := (wS40 y0 11)) rfl rfl rfl (fun H locs hb9 oq hS => ?_)
      have hB := hB.putB hky1 rfl hb9 oq
      have hIy2 := hIy2.kept (fun x hx e => oq x (fun e9 => hny2 (by rw [← e, e9]; exact A41)))
      have hAF : ∀ x, H.size ≤ x → AS x := fun x h => hAF x (Nat.le_trans (sz_of oq (hB.lt (by rw [hky1]; decide)).1) h)
      obtain ⟨wS42, ewS42⟩ : ∃ z : Dt, z = up2 wS40 y1 11 (wS40 y0 11) := ⟨_, rfl⟩
      rw [← ewS42] at hB
      have hw := hw wS42 ewS42
      refine lv_aload_n hx hb dX12_copy_234 rfl (lv_at hl 1 rfl) ?_
      exact e_a X hr (Or.inl ⟨_, rfl⟩) (Or.inr ⟨_, rfl⟩) dX12_copy_235 hS (y1, tS, nS38, rS39, wS42) rfl hw ⟨hB.regs hAS, hX, hky1⟩ ⟨show cells ≤ b0 by omega, show slots ≤ s0 by omega⟩
    · have hw := hw.2 (hn_ne c30)
      refine lv_aload_n hx hb dX12_copy_182 rfl (lv_at hl 2 rfl) ?_
      have hI9 := hIy2
      obtain ⟨lr9, hat9⟩ := hI9
      obtain ⟨o43, hw⟩ := hw
      obtain ⟨o44, hw⟩ := hw
      refine g_after5 (st0 := [.ref qy2]) (rest := []) (g_F X mf_X12_71 (c_nx l D tc h0 sa _ qy2 ay2 hB (isL_of hky2) hIy2 o44 o43 hny2 (hA0 _ hmy2)) rfl hat9 hT hS hA0 dX12_copy_183 hl.1 rfl rfl ⟨Nat.le_of_ble_eq_true rfl, Nat.le_of_ble_eq_true rfl⟩ (Nat.le_of_ble_eq_true rfl) ⟨show cells + 0 ≤ b0 by omega, show slots + 0 ≤ s0 by omega⟩) hS (fun x h => h ▸ hmy2) (fun u => .ref (rS ay2 cy2.toNatClampNeg) :: []) (fun _ => rfl) (fun u H locs hu hP9 hz9 hk9 hS => ?_)
      refine W.widen (k := cells) (n := slots) (Nat.le_refl _) (Nat.le_refl _) ?_
      have hB := hB.kept (fun x hx hA => hk9 x hx (fun e => hny2 (e ▸ hA)))
      have hAF : ∀ x, H.size ≤ x → AS x := fun x h => hAF x (by omega)
      have hIy2 := hP9
      have k45 : tS (rS ay2 cy2.toNatClampNeg) = 23 := hB.elt hky2 (lt10 o43)
      refine x_casta X w_1746 (hB.at (k := 23) k45 rfl) dX12_copy_188 ?_
      refine lv_astore_n (lv' := [(3, .ref (rS ay2 cy2.toNatClampNeg)), (0, .ref y0), (1, .ref y1), (2, .ref qy2)]) hx hb dX12_copy_191 rfl hl (by decide) rfl (fun ls hl => ?_)
      refine lv_aload_n hx hb dX12_copy_192 rfl (lv_at hl 2 rfl) ?_
      refine g_get X dX12_copy_193 f_X12_37 (hB.one (k := 4) hky1 rfl) 0 (v := .ref (rS y1 9)) rfl rfl ?_
      have k46 : tS (rS y1 9) = 9 := (hB.wtk hky1).2.2.2.2.2.1
      refine lv_aload_n hx hb dX12_copy_196 rfl (lv_at hl 0 rfl) ?_
      obtain ⟨o47, hw⟩ := hw
      obtain ⟨o48, hw⟩ := hw
      refine x_clone (A := Am) X hl.1 w_1973 w_1974 w_1976 w_1977 w_1978 (hB.at (k := 23) k45 rfl) hS hAm9 ⟨Nat.le_of_ble_eq_true rfl, Nat.le_of_ble_eq_true rfl⟩ ⟨show cells + 1 ≤ b0 by omega, show slots + 3 ≤ s0 by omega⟩ dX12_copy_197 (fun q49 H hq9 hat9 hAq hz9 hqz o1 hS => ?_)
      obtain ⟨z50, hB, hX9, k51⟩ := hB.make (k := 23) (W := (wS (rS ay2 cy2.toNatClampNeg))) (hAF q49 hq9) hq9 o1 rfl hat9 trivial
      have hIy2 := hIy2.kept (fun x hx e => o1 x hx)
      have hAF : ∀ x, H.size ≤ x → AS x := fun x h => hAF x (by omega)
      have hw := hw q49 z50
      obtain ⟨tS52, etS52⟩ : ∃ z : Nat → Nat, z = va_up tS q49 23 := ⟨_, rfl⟩
      rw [← etS52] at hB hX9 k51
      have hw := hw tS52 etS52
      obtain ⟨wS53, ewS53⟩ : ∃ z : Dt, z = va_up wS q49 (wS (rS ay2 cy2.toNatClampNeg)) := ⟨_, rfl⟩
      rw [← ewS53] at hB
      have hw := hw wS53 ewS53
      have hX := hX.trans hX9
      have k54 : tS52 (rS ay2 cy2.toNatClampNeg) = 23 := hX9.to k45
      have k55 : tS52 y0 = 4 := hX9.to hky0
      have k56 : tS52 y1 = 4 := hX9.to hky1
      have k57 : tS52 (rS y1 9) = 9 := hX9.to k46
      have k58 := hX9.to hky2
      refine W_bud (b := (bS - 1)) (s1 := (sS - 3)) (B := b0) (S := s0) (show (cells + 1) + (bS - 1) ≤ b0 by omega) (show (slots + 3) + (sS - 3) ≤ s0 by omega) (fun cells slots hc hs => ?_)
      refine x_casta X w_1746 (hB.at (k := 23) k51 rfl) dX12_copy_200 ?_
      obtain ⟨fs9, hat9⟩ := hB.lat (isL_of k57)
      obtain ⟨o59, hw⟩ := hw
      obtain ⟨o60, hw⟩ := hw
      obtain ⟨o61, hw⟩ := hw
      refine g_after5 (st0 := [.ref q49, .ref (rS y1 9)]) (rest := []) (g_F X mf_X12_81 (c_add l D tc h0 sa _ (rS y1 9) q49 hB (isL_of k57) (by rw [k57, k51]; rfl) o59 (fun x h => hA0 x (hAS x h)) hAF) rfl hat9 hT hS hA0 dX12_copy_203 hl.1 rfl rfl ⟨Nat.le_of_ble_eq_true rfl, Nat.le_of_ble_eq_true rfl⟩ (Nat.le_of_ble_eq_true rfl) ⟨show cells + 1 ≤ b0 by omega, show slots + (2 * (nS (rS y1 9)) + 10) ≤ s0 by omega⟩) hS hAS (fun u => .int 1 :: []) (fun _ => rfl) (fun u H locs hu hP9 hz9 hk9 hS => ?_)
      have hB := hP9
      have hIy2 := hIy2.kept (fun x hx e => hk9 x hx (fun hA => hny2 (e ▸ hA)))
      have hAF : ∀ x, H.size ≤ x → AS x := fun x h => hAF x (by omega)
      refine W_bud (b := ((bS - 1) - 1)) (s1 := ((sS - 3) - (2 * (nS (rS y1 9)) + 10))) (B := b0) (S := s0) (show (cells + 1) + ((bS - 1) - 1) ≤ b0 by omega) (show (slots + (2 * (nS (rS y1 9)) + 10)) + ((sS - 3) - (2 * (nS (rS y1 9)) + 10)) ≤ s0 by omega) (fun cells slots hc hs => ?_)
      obtain ⟨nS62, enS62⟩ : ∃ z : Nat → Nat, z = va_up nS (rS y1 9) (nS (rS y1 9) + 1) := ⟨_, rfl⟩
      rw [← enS62] at hB
      have hw := hw nS62 enS62
      obtain ⟨rS63, erS63⟩ : ∃ z : Nat → Nat → Nat, z = va_up rS (rS y1 9) (va_up (rS (rS y1 9)) (nS (rS y1 9)) q49) := ⟨_, rfl⟩
      rw [← erS63] at hB
      have hw := hw rS63 erS63
      obtain ⟨wS64, ewS64⟩ : ∃ z : Dt, z = up2 wS53 (rS y1 9) 0 (wS53 (rS y1 9) 0 + 1) := ⟨_, rfl⟩
      rw [← ewS64] at hB
      have hw := hw wS64 ewS64
      refine lv_pop hx hb dX12_copy_208 rfl ?_
      refine lv_goto (tgt := 173) hx hb dX12_copy_209 (by decide) ?_
      exact ih qy2 y0 y1 ay2 (cy2 + 1) my2 tS52 nS62 rS63 wS64 ((bS - 1) - 1) ((sS - 3) - (2 * (nS (rS y1 9)) + 10)) _ _ _ _ _ _ hw hB k55 k56 k58 hIy2 hny2 hmy2 hAS hAF hX hc hs hS (lv_sub hl [1, 2, 3] rfl)
def wp_X12_copy_127 (post : Nat → (Nat → Nat) → (Nat → Nat) → (Nat → Nat → Nat) → Dt → Prop)   : Nat → (Nat) → (Nat) → (Nat) → (Int32) → (Int32) → (Nat → Nat) → (Nat → Nat) → (Nat → Nat → Nat) → (Dt) → (Nat) → (Nat) → Prop
  | 0, _, _, _, _, _, _, _, _, _, _, _ => False
  | n9 + 1, y0, y1, ay2, cy2, my2, tS, nS, rS, wS, bS, sS => (cy2 = nI (nS ay2) → 1 ≤ bS ∧ (4 ≤ sS ∧ (∃ k9 : Nat, wp_X12_copy_173 post   k9 y0 y1 (rS y0 9) (0 : Int32) (wS (rS y0 9) 0) tS nS rS wS (bS - 1) (sS - 4)))) ∧ (¬ cy2 = nI (nS ay2) → vp_in cy2 (nS ay2) ∧ (wS ay2 0 = my2 ∧ (∃ b69 s70 : Nat, b69 ≤ bS ∧ s70 ≤ sS ∧ (wp_X11_copy (fun r73 tS74 nS75 rS76 wS77 => nS75 (rS y1 8) < 400 ∧ (1 ≤ (bS - b69) ∧ ((2 * (nS75 (rS y1 8)) + 10) ≤ (sS - s70) ∧ (∀ nS87 : Nat → Nat, nS87 = va_up nS75 (rS y1 8) (nS75 (rS y1 8) + 1) → (∀ rS88 : Nat → Nat → Nat, rS88 = va_up rS76 (rS y1 8) (va_up (rS76 (rS y1 8)) (nS75 (rS y1 8)) r73) → (∀ wS89 : Dt, wS89 = up2 wS77 (rS y1 8) 0 (wS77 (rS y1 8) 0 + 1) → (wp_X12_copy_127 post   n9 y0 y1 ay2 (cy2 + 1) my2 tS74 nS87 rS88 wS89 ((bS - b69) - 1) ((sS - s70) - (2 * (nS75 (rS y1 8)) + 10))))))))) tS nS rS wS b69 s70 (rS ay2 cy2.toNatClampNeg)))))
set_option maxHeartbeats 4000000 in
set_option maxRecDepth 100000 in
theorem t_X12_copy_127 : ∀ {p : Program} {l : Launch} {e : Env} {s : State} {m : MethodId} {args : Array Value} {below : List Frame} {meth : Method} {c : Code} {D : va_G} {tc : Nat → ClassId} {h0 : Nat} {sa : Nat → Nat} {Am : Nat → Prop} {b0 s0 : Nat} {t0 : Nat → Nat} {post : Nat → (Nat → Nat) → (Nat → Nat) → (Nat → Nat → Nat) → Dt → Prop}   (X : Cx p c s m meth cX12_copy 4 RX12 D tc) (hr : meth.sig.returnType = (Option.some (FieldType.object "BandworldModel$World"))) (hT : ST h0 sa s s.heap) (hA0 : ∀ q, Am q → h0 ≤ q) (hAm9 : ∀ x, s.heap.size ≤ x → Am x)  (n9 : Nat), ∀ (qy2 : Nat) (y0 : Nat) (y1 : Nat) (ay2 : Nat) (cy2 : Int32) (my2 : Int32) (tS : Nat → Nat) (nS : Nat → Nat) (rS : Nat → Nat → Nat) (wS : Dt) (bS : Nat) (sS : Nat) (H : Heap) (locs : List Loc) (ls : Array Slot) (AS : Nat → Prop) (cells slots : Nat), wp_X12_copy_127 post   n9 y0 y1 ay2 cy2 my2 tS nS rS wS bS sS → SB D tc (sa 3) AS tS nS rS wS H → (tS y0 = 4) → (tS y1 = 4) → (tS ay2 = 8) → (IT D qy2 ay2 cy2 my2 H) → (¬ AS qy2) → (Am qy2) → (∀ x, AS x → Am x) → (∀ x, H.size ≤ x → AS x) → Ext t0 tS → cells + bS ≤ b0 → slots + sS ≤ s0 → va_S Am s.heap H locs → lv_has ls 4 [(0, .ref y0), (1, .ref y1), (2, .ref qy2)] → W p l e (rm_X12_copy b0 s0) s m args below meth c H locs cells slots (MQ below (QB (fun u : Nat × (Nat → Nat) × (Nat → Nat) × (Nat → Nat → Nat) × Dt => post u.1 u.2.1 u.2.2.1 u.2.2.2.1 u.2.2.2.2) (fun (u : Nat × (Nat → Nat) × (Nat → Nat) × (Nat → Nat → Nat) × Dt) (H1 : Heap) => SB D tc (sa 3) Am u.2.1 u.2.2.1 u.2.2.2.1 u.2.2.2.2 H1 ∧ Ext t0 u.2.1 ∧ u.2.1 u.1 = 4) (fun u : Nat × (Nat → Nat) × (Nat → Nat) × (Nat → Nat → Nat) × Dt => some (.ref u.1)) Am) args s (rm_X12_copy b0 s0).cells (rm_X12_copy b0 s0).slots Am) (F0 m 127 ls []) := by
  intro p l e s m args below meth c D tc h0 sa Am b0 s0 t0 post   X hr hT hA0 hAm9  n9
  have hx := X.1
  have hb := X.2.1
  have hown := X.2.2.2.1
  have hU := X.2.2.2.2.1.1
  induction n9 with
  | zero =>
    intro qy2 y0 y1 ay2 cy2 my2 tS nS rS wS bS sS H locs ls AS cells slots hw
    exact hw.elim
  | succ n9 ih =>
    intro qy2 y0 y1 ay2 cy2 my2 tS nS rS wS bS sS H locs ls AS cells slots hw hB hky0 hky1 hky2 hIy2 hny2 hmy2 hAS hAF hX hc hs hS hl
    unfold wp_X12_copy_127 at hw
    refine lv_aload_n hx hb dX12_copy_127 rfl (lv_at hl 2 rfl) ?_
    have hI9 := hIy2
    obtain ⟨lr9, hat9⟩ := hI9
    refine g_after5 (st0 := [.ref qy2]) (rest := []) (g_F X mf_X12_65 (c_hn l D tc h0 sa _ qy2 ay2 hB (isL_of hky2) hIy2) rfl hat9 hT hS hA0 dX12_copy_128 hl.1 rfl rfl ⟨Nat.le_of_ble_eq_true rfl, Nat.le_of_ble_eq_true rfl⟩ (Nat.le_of_ble_eq_true rfl) ⟨show cells + 0 ≤ b0 by omega, show slots + 0 ≤ s0 by omega⟩) hS (fun _ h => h.elim) (fun u => .int (if cy2 = nI (nS ay2) then 0 else 1) :: []) (fun _ => rfl) (fun u H9 locs hu hP9 hz9 hk9 hS => ?_)
    have e9 : H9 = _ := hP9
    rw [e9] at hS ⊢
    refine W.widen (k := cells) (n := slots) (Nat.le_refl _) (Nat.le_refl _) ?_
    refine lv_if_eq (tgt := 163) hx hb dX12_copy_133 (by decide) (fun c24 => ?_) (fun c24 => ?_)
    · have hw := hw.1 (hn_eq c24)
      refine lv_aload_n hx hb dX12_copy_163 rfl (lv_at hl 0 rfl) ?_
      refine g_get X dX12_copy_164 f_X12_37 (hB.one (k := 4) hky0 rfl) 0 (v := .ref (rS y0 9)) rfl rfl ?_
      have k25 : tS (rS y0 9) = 9 := (hB.wtk hky0).2.2.2.2.2.1
      obtain ⟨fs9, hat9⟩ := hB.lat (isL_of k25)
      obtain ⟨o26, hw⟩ := hw
      obtain ⟨o27, hw⟩ := hw
      refine g_after5 (st0 := [.ref (rS y0 9)]) (rest := []) (g_F X mf_X12_59 (c_itr l D tc h0 sa _ (rS y0 9) hB (isL_of k25) (fun x h => hA0 x (hAS x (hAF x h)))) rfl hat9 hT hS hA0 dX12_copy_167 hl.1 rfl rfl ⟨Nat.le_of_ble_eq_true rfl, Nat.le_of_ble_eq_true rfl⟩ (Nat.le_of_ble_eq_true rfl) ⟨show cells + 1 ≤ b0 by omega, show slots + 4 ≤ s0 by omega⟩) hS (fun x h => hAS x (hAF x h)) (fun qi28 => .ref qi28 :: []) (fun _ => rfl) (fun qi28 H9 locs hu hP9 hz9 hk9 hS => ?_)
      obtain ⟨hq9, hqz, hIi28⟩ := hP9
      have o1 := fun x hx => hk9 x hx (fun h => by omega)
      have hmi28 : Am qi28 := hAS _ (hAF _ hq9)
      have hB := hB.off hq9 o1
      have hIy2 := hIy2.kept (fun x hx e => o1 x hx)
      have hny2 : ¬ (fun x => AS x ∧ x ≠ qi28) qy2 := fun h => hny2 h.1
      have hni28 : ¬ (fun x => AS x ∧ x ≠ qi28) qi28 := fun h => h.2 rfl
      have hAF : ∀ x, H9.size ≤ x → (fun x => AS x ∧ x ≠ qi28) x := fun x h => ⟨hAF x (by omega), fun e => by omega⟩
      have hAS : ∀ x, (fun x => AS x ∧ x ≠ qi28) x → Am x := fun x h => hAS x h.1
      obtain ⟨AS29, eAS29⟩ : ∃ z : Nat → Prop, z = (fun x => AS x ∧ x ≠ qi28) := ⟨_, rfl⟩
      rw [← eAS29] at hB hAF hAS hni28 hny2
      refine W_bud (b := (bS - 1)) (s1 := (sS - 4)) (B := b0) (S := s0) (show (cells + 1) + (bS - 1) ≤ b0 by omega) (show (slots + 4) + (sS - 4) ≤ s0 by omega) (fun cells slots hc hs => ?_)
      refine lv_astore_n (lv' := [(2, .ref qi28), (0, .ref y0), (1, .ref y1)]) hx hb dX12_copy_172 rfl hl (by decide) rfl (fun ls hl => ?_)
      obtain ⟨k9, hw⟩ := hw
      exact t_X12_copy_173 X hr hT hA0 hAm9  k9 qi28 y0 y1 (rS y0 9) (0 : Int32) (wS (rS y0 9) 0) tS nS rS wS (bS - 1) (sS - 4) _ _ _ _ _ _ hw hB hky0 hky1 k25 hIi28 hni28 hmi28 hAS hAF hX hc hs hS (lv_sub hl [1, 2, 0] rfl)
    · have hw := hw.2 (hn_ne c24)
      refine lv_aload_n hx hb dX12_copy_136 rfl (lv_at hl 2 rfl) ?_
      have hI9 := hIy2
      obtain ⟨lr9, hat9⟩ := hI9
      obtain ⟨o65, hw⟩ := hw
      obtain ⟨o66, hw⟩ := hw
      refine g_after5 (st0 := [.ref qy2]) (rest := []) (g_F X mf_X12_71 (c_nx l D tc h0 sa _ qy2 ay2 hB (isL_of hky2) hIy2 o66 o65 hny2 (hA0 _ hmy2)) rfl hat9 hT hS hA0 dX12_copy_137 hl.1 rfl rfl ⟨Nat.le_of_ble_eq_true rfl, Nat.le_of_ble_eq_true rfl⟩ (Nat.le_of_ble_eq_true rfl) ⟨show cells + 0 ≤ b0 by omega, show slots + 0 ≤ s0 by omega⟩) hS (fun x h => h ▸ hmy2) (fun u => .ref (rS ay2 cy2.toNatClampNeg) :: []) (fun _ => rfl) (fun u H locs hu hP9 hz9 hk9 hS => ?_)
      refine W.widen (k := cells) (n := slots) (Nat.le_refl _) (Nat.le_refl _) ?_
      have hB := hB.kept (fun x hx hA => hk9 x hx (fun e => hny2 (e ▸ hA)))
      have hAF : ∀ x, H.size ≤ x → AS x := fun x h => hAF x (by omega)
      have hIy2 := hP9
      have k67 : tS (rS ay2 cy2.toNatClampNeg) = 3 := hB.elt hky2 (lt10 o65)
      refine x_cast X w_1731 rfl (hB.at (k := 3) k67 rfl) dX12_copy_142 ?_
      refine lv_astore_n (lv' := [(3, .ref (rS ay2 cy2.toNatClampNeg)), (0, .ref y0), (1, .ref y1), (2, .ref qy2)]) hx hb dX12_copy_145 rfl hl (by decide) rfl (fun ls hl => ?_)
      refine lv_aload_n hx hb dX12_copy_146 rfl (lv_at hl 2 rfl) ?_
      refine g_get X dX12_copy_147 f_X12_33 (hB.one (k := 4) hky1 rfl) 0 (v := .ref (rS y1 8)) rfl rfl ?_
      have k68 : tS (rS y1 8) = 8 := (hB.wtk hky1).2.2.2.2.1
      refine lv_aload_n hx hb dX12_copy_150 rfl (lv_at hl 0 rfl) ?_
      obtain ⟨b69, s70, o71, o72, hw⟩ := hw
      refine g_after (st0 := [.ref (rS ay2 cy2.toNatClampNeg), .ref (rS y1 8)]) (rest := [.ref (rS y1 8)]) (g_V X m_X12_77 (c_X11_copy l D tc h0 sa (rS ay2 cy2.toNatClampNeg) b69 s70 _ hB k67 (fun x h => hA0 x (hAS x h)) hAF hw) (recv1 X.2.2.2.2.1 rfl (hB.at (k := 3) k67 rfl)) hT hS hA0 dX12_copy_151 hl.1 rfl rfl ⟨Nat.le_of_ble_eq_true rfl, Nat.le_of_ble_eq_true rfl⟩ (Nat.le_of_ble_eq_true rfl) ⟨show cells + b69 ≤ b0 by omega, show slots + s70 ≤ s0 by omega⟩) hS hAS (fun u => .ref u.1 :: [.ref (rS y1 8)]) (fun _ => rfl) (fun u H locs hw hP9 hz9 hk9 hS => ?_)
      obtain ⟨r73, tS74, nS75, rS76, wS77⟩ := u
      try dsimp only at hw hP9
      obtain ⟨hB, hX9, hkr⟩ := hP9
      have hIy2 := hIy2.kept (fun x hx e => hk9 x hx (fun hA => hny2 (e ▸ hA)))
      have hAF : ∀ x, H.size ≤ x → AS x := fun x h => hAF x (by omega)
      have hX := hX.trans hX9
      refine W_bud (b := (bS - b69)) (s1 := (sS - s70)) (B := b0) (S := s0) (show (cells + b69) + (bS - b69) ≤ b0 by omega) (show (slots + s70) + (sS - s70) ≤ s0 by omega) (fun cells slots hc hs => ?_)
      have k78 : tS74 (rS ay2 cy2.toNatClampNeg) = 3 := hX9.to k67
      have k79 : tS74 y0 = 4 := hX9.to hky0
      have k80 : tS74 y1 = 4 := hX9.to hky1
      have k81 : tS74 (rS y1 8) = 8 := hX9.to k68
      have k82 := hX9.to hky2
      have k83 := hkr
      obtain ⟨fs9, hat9⟩ := hB.lat (isL_of k81)
      obtain ⟨o84, hw⟩ := hw
      obtain ⟨o85, hw⟩ := hw
      obtain ⟨o86, hw⟩ := hw
      refine g_after5 (st0 := [.ref r73, .ref (rS y1 8)]) (rest := []) (g_F X mf_X12_81 (c_add l D tc h0 sa _ (rS y1 8) r73 hB (isL_of k81) (by rw [k81, k83]; rfl) o84 (fun x h => hA0 x (hAS x h)) hAF) rfl hat9 hT hS hA0 dX12_copy_154 hl.1 rfl rfl ⟨Nat.le_of_ble_eq_true rfl, Nat.le_of_ble_eq_true rfl⟩ (Nat.le_of_ble_eq_true rfl) ⟨show cells + 1 ≤ b0 by omega, show slots + (2 * (nS75 (rS y1 8)) + 10) ≤ s0 by omega⟩) hS hAS (fun u => .int 1 :: []) (fun _ => rfl) (fun u H locs hu hP9 hz9 hk9 hS => ?_)
      have hB := hP9
      have hIy2 := hIy2.kept (fun x hx e => hk9 x hx (fun hA => hny2 (e ▸ hA)))
      have hAF : ∀ x, H.size ≤ x → AS x := fun x h => hAF x (by omega)
      refine W_bud (b := ((bS - b69) - 1)) (s1 := ((sS - s70) - (2 * (nS75 (rS y1 8)) + 10))) (B := b0) (S := s0) (show (cells + 1) + ((bS - b69) - 1) ≤ b0 by omega) (show (slots + (2 * (nS75 (rS y1 8)) + 10)) + ((sS - s70) - (2 * (nS75 (rS y1 8)) + 10)) ≤ s0 by omega) (fun cells slots hc hs => ?_)
      obtain ⟨nS87, enS87⟩ : ∃ z : Nat → Nat, z = va_up nS75 (rS y1 8) (nS75 (rS y1 8) + 1) := ⟨_, rfl⟩
      rw [← enS87] at hB
      have hw := hw nS87 enS87
      obtain ⟨rS88, erS88⟩ : ∃ z : Nat → Nat → Nat, z = va_up rS76 (rS y1 8) (va_up (rS76 (rS y1 8)) (nS75 (rS y1 8)) r73) := ⟨_, rfl⟩
      rw [← erS88] at hB
      have hw := hw rS88 erS88
      obtain ⟨wS89, ewS89⟩ : ∃ z : Dt, z = up2 wS77 (rS y1 8) 0 (wS77 (rS y1 8) 0 + 1) := ⟨_, rfl⟩
      rw [← ewS89] at hB
      have hw := hw wS89 ewS89
      refine lv_pop hx hb dX12_copy_159 rfl ?_
      refine lv_goto (tgt := 127) hx hb dX12_copy_160 (by decide) ?_
      exact ih qy2 y0 y1 ay2 (cy2 + 1) my2 tS74 nS87 rS88 wS89 ((bS - b69) - 1) ((sS - s70) - (2 * (nS75 (rS y1 8)) + 10)) _ _ _ _ _ _ hw hB k79 k80 k82 hIy2 hny2 hmy2 hAS hAF hX hc hs hS (lv_sub hl [1, 2, 3] rfl)
def wp_X12_copy_10 (post : Nat → (Nat → Nat) → (Nat → Nat) → (Nat → Nat → Nat) → Dt → Prop)   : Nat → (Nat) → (Nat) → (Int32) → (Nat → Nat) → (Nat → Nat) → (Nat → Nat → Nat) → (Dt) → (Nat) → (Nat) → Prop
  | 0, _, _, _, _, _, _, _, _, _ => False
  | n9 + 1, y0, y1, y2, tS, nS, rS, wS, bS, sS => (10 ≤ y2 → ∀ wS12 : Dt, wS12 = up2 wS y1 3 (wS y0 3) → (∀ wS13 : Dt, wS13 = up2 wS12 y1 4 (wS12 y0 4) → (∀ wS16 : Dt, wS16 = va_up wS13 (rS y1 5) (va_cpy (wS13 (rS y0 5)) (wS13 (rS y1 5)) 0 0 12) → (∀ wS17 : Dt, wS17 = up2 wS16 y1 6 (wS16 y0 6) → (∀ wS18 : Dt, wS18 = up2 wS17 y1 7 (wS17 y0 7) → (1 ≤ bS ∧ (4 ≤ sS ∧ (∃ k9 : Nat, wp_X12_copy_127 post   k9 y0 y1 (rS y0 8) (0 : Int32) (wS18 (rS y0 8) 0) tS nS rS wS18 (bS - 1) (sS - 4))))))))) ∧ (¬ 10 ≤ y2 → vp_in y2 10 ∧ (∀ wS93 : Dt, wS93 = up2 wS (rS y1 0) y2.toNatClampNeg (wS (rS y0 0) y2.toNatClampNeg) → (∀ wS98 : Dt, wS98 = va_up wS93 (rS (rS y1 1) y2.toNatClampNeg) (va_cpy (wS93 (rS (rS y0 1) y2.toNatClampNeg)) (wS93 (rS (rS y1 1) y2.toNatClampNeg)) 0 0 3) → (∀ wS103 : Dt, wS103 = va_up wS98 (rS (rS y1 2) y2.toNatClampNeg) (va_cpy (wS98 (rS (rS y0 2) y2.toNatClampNeg)) (wS98 (rS (rS y1 2) y2.toNatClampNeg)) 0 0 3) → (wp_X12_copy_10 post   n9 y0 y1 (y2 + 1) tS nS rS wS103 bS sS)))))
set_option maxHeartbeats 4000000 in
set_option maxRecDepth 100000 in
theorem t_X12_copy_10 : ∀ {p : Program} {l : Launch} {e : Env} {s : State} {m : MethodId} {args : Array Value} {below : List Frame} {meth : Method} {c : Code} {D : va_G} {tc : Nat → ClassId} {h0 : Nat} {sa : Nat → Nat} {Am : Nat → Prop} {b0 s0 : Nat} {t0 : Nat → Nat} {post : Nat → (Nat → Nat) → (Nat → Nat) → (Nat → Nat → Nat) → Dt → Prop}   (X : Cx p c s m meth cX12_copy 4 RX12 D tc) (hr : meth.sig.returnType = (Option.some (FieldType.object "BandworldModel$World"))) (hT : ST h0 sa s s.heap) (hA0 : ∀ q, Am q → h0 ≤ q) (hAm9 : ∀ x, s.heap.size ≤ x → Am x)  (n9 : Nat), ∀ (y0 : Nat) (y1 : Nat) (y2 : Int32) (tS : Nat → Nat) (nS : Nat → Nat) (rS : Nat → Nat → Nat) (wS : Dt) (bS : Nat) (sS : Nat) (H : Heap) (locs : List Loc) (ls : Array Slot) (AS : Nat → Prop) (cells slots : Nat), wp_X12_copy_10 post   n9 y0 y1 y2 tS nS rS wS bS sS → SB D tc (sa 3) AS tS nS rS wS H → (tS y0 = 4) → (tS y1 = 4) → (∀ x, AS x → Am x) → (∀ x, H.size ≤ x → AS x) → Ext t0 tS → cells + bS ≤ b0 → slots + sS ≤ s0 → va_S Am s.heap H locs → lv_has ls 4 [(0, .ref y0), (1, .ref y1), (2, .int y2)] → W p l e (rm_X12_copy b0 s0) s m args below meth c H locs cells slots (MQ below (QB (fun u : Nat × (Nat → Nat) × (Nat → Nat) × (Nat → Nat → Nat) × Dt => post u.1 u.2.1 u.2.2.1 u.2.2.2.1 u.2.2.2.2) (fun (u : Nat × (Nat → Nat) × (Nat → Nat) × (Nat → Nat → Nat) × Dt) (H1 : Heap) => SB D tc (sa 3) Am u.2.1 u.2.2.1 u.2.2.2.1 u.2.2.2.2 H1 ∧ Ext t0 u.2.1 ∧ u.2.1 u.1 = 4) (fun u : Nat × (Nat → Nat) × (Nat → Nat) × (Nat → Nat → Nat) × Dt => some (.ref u.1)) Am) args s (rm_X12_copy b0 s0).cells (rm_X12_copy b0 s0).slots Am) (F0 m 10 ls []) := by
  intro p l e s m args below meth c D tc h0 sa Am b0 s0 t0 post   X hr hT hA0 hAm9  n9
  have hx := X.1
  have hb := X.2.1
  have hown := X.2.2.2.1
  have hU := X.2.2.2.2.1.1
  induction n9 with
  | zero =>
    intro  y0 y1 y2 tS nS rS wS bS sS H locs ls AS cells slots hw
    exact hw.elim
  | succ n9 ih =>
    intro  y0 y1 y2 tS nS rS wS bS sS H locs ls AS cells slots hw hB hky0 hky1 hAS hAF hX hc hs hS hl
    unfold wp_X12_copy_10 at hw
    refine lv_iload_n hx hb dX12_copy_10 rfl (lv_at hl 2 rfl) ?_
    refine lv_bipush (v := 10) hx hb dX12_copy_11 (by decide) ?_
    refine lv_icmp_ge (tgt := 70) hx hb dX12_copy_13 (by decide) (fun c11 => ?_) (fun c11 => ?_)
    · have hw := hw.1 c11
      refine lv_aload_n hx hb dX12_copy_70 rfl (lv_at hl 1 rfl) ?_
      refine lv_aload_n hx hb dX12_copy_71 rfl (lv_at hl 0 rfl) ?_
      refine g_get X dX12_copy_72 f_X12_23 (hB.one (k := 4) hky0 rfl) 0 (v := .int (wS y0 3)) rfl rfl ?_
      refine g_puti X dX12_copy_75 f_X12_23 (hB.oneB (k := 4) hAS hky1 rfl) hS 0 rfl (x := (wS y0 3)) rfl rfl rfl (fun H locs hb9 oq hS => ?_)
      have hB := hB.putB hky1 rfl hb9 oq
      have hAF : ∀ x, H.size ≤ x → AS x := fun x h => hAF x (Nat.le_trans (sz_of oq (hB.lt (by rw [hky1]; decide)).1) h)
      obtain ⟨wS12, ewS12⟩ : ∃ z : Dt, z = up2 wS y1 3 (wS y0 3) := ⟨_, rfl⟩
      rw [← ewS12] at hB
      have hw := hw wS12 ewS12
      refine lv_aload_n hx hb dX12_copy_78 rfl (lv_at hl 1 rfl) ?_
      refine lv_aload_n hx hb dX12_copy_79 rfl (lv_at hl 0 rfl) ?_
      refine g_get X dX12_copy_80 f_X12_50 (hB.one (k := 4) hky0 rfl) 0 (v := .int (wS12 y0 4)) rfl rfl ?_
      refine g_puti X dX12_copy_83 f_X12_50 (hB.oneB (k := 4) hAS hky1 rfl) hS 0 rfl (x := (wS12 y0 4)) rfl rfl rfl (fun H locs hb9 oq hS => ?_)
      have hB := hB.putB hky1 rfl hb9 oq
      have hAF : ∀ x, H.size ≤ x → AS x := fun x h => hAF x (Nat.le_trans (sz_of oq (hB.lt (by rw [hky1]; decide)).1) h)
      obtain ⟨wS13, ewS13⟩ : ∃ z : Dt, z = up2 wS12 y1 4 (wS12 y0 4) := ⟨_, rfl⟩
      rw [← ewS13] at hB
      have hw := hw wS13 ewS13
      refine lv_aload_n hx hb dX12_copy_86 rfl (lv_at hl 0 rfl) ?_
      refine g_get X dX12_copy_87 f_X12_27 (hB.one (k := 4) hky0 rfl) 0 (v := .ref (rS y0 5)) rfl rfl ?_
      have k14 : tS (rS y0 5) = 22 := (hB.wtk hky0).2.2.2.1
      refine lv_iconst (v := 0) hx hb dX12_copy_90 (by decide) ?_
      refine lv_aload_n hx hb dX12_copy_91 rfl (lv_at hl 1 rfl) ?_
      refine g_get X dX12_copy_92 f_X12_27 (hB.one (k := 4) hky1 rfl) 0 (v := .ref (rS y1 5)) rfl rfl ?_
      have k15 : tS (rS y1 5) = 22 := (hB.wtk hky1).2.2.2.1
      refine lv_iconst (v := 0) hx hb dX12_copy_95 (by decide) ?_
      refine lv_bipush (v := 12) hx hb dX12_copy_96 (by decide) ?_
      refine x_copyi (A := Am) X hl.1 w_1971 w_1545 w_29 (hB.at (k := 22) k14 rfl) (hB.at (k := 22) k15 rfl) (hAS _ (hB.lt (by rw [k15]; decide)).2) hS (sp := 0) (dp := 0) (n := 12) (by decide) (by decide) (by decide) (by decide) (by decide) ⟨Nat.le_of_ble_eq_true rfl, Nat.le_of_ble_eq_true rfl⟩ dX12_copy_98 (fun H locs hat9 oq hz9 hS => ?_)
      have hB := hB.putr (W := va_cpy (wS13 (rS y0 5)) (wS13 (rS y1 5)) 0 0 12) k15 rfl hat9 oq
      have hAF : ∀ x, H.size ≤ x → AS x := fun x h => hAF x (Nat.le_trans (sz_of oq (hB.lt (by rw [k15]; decide)).1) h)
      obtain ⟨wS16, ewS16⟩ : ∃ z : Dt, z = va_up wS13 (rS y1 5) (va_cpy (wS13 (rS y0 5)) (wS13 (rS y1 5)) 0 0 12) := ⟨_, rfl⟩
      rw [← ewS16] at hB
      have hw := hw wS16 ewS16
      refine lv_aload_n hx hb dX12_copy_101 rfl (lv_at hl 1 rfl) ?_
      refine lv_aload_n hx hb dX12_copy_102 rfl (lv_at hl 0 rfl) ?_
      refine g_get X dX12_copy_103 f_X12_53 (hB.one (k := 4) hky0 rfl) 0 (v := .int (wS16 y0 6)) rfl rfl ?_
      refine g_puti X dX12_copy_106 f_X12_53 (hB.oneB (k := 4) hAS hky1 rfl) hS 0 rfl (x := (wS16 y0 6)) rfl rfl rfl (fun H locs hb9 oq hS => ?_)
      have hB := hB.putB hky1 rfl hb9 oq
      have hAF : ∀ x, H.size ≤ x → AS x := fun x h => hAF x (Nat.le_trans (sz_of oq (hB.lt (by rw [hky1]; decide)).1) h)
      obtain ⟨wS17, ewS17⟩ : ∃ z : Dt, z = up2 wS16 y1 6 (wS16 y0 6) := ⟨_, rfl⟩
      rw [← ewS17] at hB
      have hw := hw wS17 ewS17
      refine lv_aload_n hx hb dX12_copy_109 rfl (lv_at hl 1 rfl) ?_
      refine lv_aload_n hx hb dX12_copy_110 rfl (lv_at hl 0 rfl) ?_
      refine g_get X dX12_copy_111 f_X12_56 (hB.one (k := 4) hky0 rfl) 0 (v := .int (wS17 y0 7)) rfl rfl ?_
      refine g_puti X dX12_copy_114 f_X12_56 (hB.oneB (k := 4) hAS hky1 rfl) hS 0 rfl (x := (wS17 y0 7)) rfl rfl rfl (fun H locs hb9 oq hS => ?_)
      have hB := hB.putB hky1 rfl hb9 oq
      have hAF : ∀ x, H.size ≤ x → AS x := fun x h => hAF x (Nat.le_trans (sz_of oq (hB.lt (by rw [hky1]; decide)).1) h)
      obtain ⟨wS18, ewS18⟩ : ∃ z : Dt, z = up2 wS17 y1 7 (wS17 y0 7) := ⟨_, rfl⟩
      rw [← ewS18] at hB
      have hw := hw wS18 ewS18
      refine lv_aload_n hx hb dX12_copy_117 rfl (lv_at hl 0 rfl) ?_
      refine g_get X dX12_copy_118 f_X12_33 (hB.one (k := 4) hky0 rfl) 0 (v := .ref (rS y0 8)) rfl rfl ?_
      have k19 : tS (rS y0 8) = 8 := (hB.wtk hky0).2.2.2.2.1
      obtain ⟨fs9, hat9⟩ := hB.lat (isL_of k19)
      obtain ⟨o20, hw⟩ := hw
      obtain ⟨o21, hw⟩ := hw
      refine g_after5 (st0 := [.ref (rS y0 8)]) (rest := []) (g_F X mf_X12_59 (c_itr l D tc h0 sa _ (rS y0 8) hB (isL_of k19) (fun x h => hA0 x (hAS x (hAF x h)))) rfl hat9 hT hS hA0 dX12_copy_121 hl.1 rfl rfl ⟨Nat.le_of_ble_eq_true rfl, Nat.le_of_ble_eq_true rfl⟩ (Nat.le_of_ble_eq_true rfl) ⟨show cells + 1 ≤ b0 by omega, show slots + 4 ≤ s0 by omega⟩) hS (fun x h => hAS x (hAF x h)) (fun qi22 => .ref qi22 :: []) (fun _ => rfl) (fun qi22 H9 locs hu hP9 hz9 hk9 hS => ?_)
      obtain ⟨hq9, hqz, hIi22⟩ := hP9
      have o1 := fun x hx => hk9 x hx (fun h => by omega)
      have hmi22 : Am qi22 := hAS _ (hAF _ hq9)
      have hB := hB.off hq9 o1
      have hni22 : ¬ (fun x => AS x ∧ x ≠ qi22) qi22 := fun h => h.2 rfl
      have hAF : ∀ x, H9.size ≤ x → (fun x => AS x ∧ x ≠ qi22) x := fun x h => ⟨hAF x (by omega), fun e => by omega⟩
      have hAS : ∀ x, (fun x => AS x ∧ x ≠ qi22) x → Am x := fun x h => hAS x h.1
      obtain ⟨AS23, eAS23⟩ : ∃ z : Nat → Prop, z = (fun x => AS x ∧ x ≠ qi22) := ⟨_, rfl⟩
      rw [← eAS23] at hB hAF hAS hni22 
      refine W_bud (b := (bS - 1)) (s1 := (sS - 4)) (B := b0) (S := s0) (show (cells + 1) + (bS - 1) ≤ b0 by omega) (show (slots + 4) + (sS - 4) ≤ s0 by omega) (fun cells slots hc hs => ?_)
      refine lv_astore_n (lv' := [(2, .ref qi22), (0, .ref y0), (1, .ref y1)]) hx hb dX12_copy_126 rfl hl (by decide) rfl (fun ls hl => ?_)
      obtain ⟨k9, hw⟩ := hw
      exact t_X12_copy_127 X hr hT hA0 hAm9  k9 qi22 y0 y1 (rS y0 8) (0 : Int32) (wS18 (rS y0 8) 0) tS nS rS wS18 (bS - 1) (sS - 4) _ _ _ _ _ _ hw hB hky0 hky1 k19 hIi22 hni22 hmi22 hAS hAF hX hc hs hS (lv_sub hl [1, 2, 0] rfl)
    · have hw := hw.2 c11
      refine lv_aload_n hx hb dX12_copy_16 rfl (lv_at hl 1 rfl) ?_
      refine g_get X dX12_copy_17 f_X12_9 (hB.one (k := 4) hky1 rfl) 0 (v := .ref (rS y1 0)) rfl rfl ?_
      have k90 : tS (rS y1 0) = 1 := (hB.wtk hky1).1
      refine lv_iload_n hx hb dX12_copy_20 rfl (lv_at hl 2 rfl) ?_
      refine lv_aload_n hx hb dX12_copy_21 rfl (lv_at hl 0 rfl) ?_
      refine g_get X dX12_copy_22 f_X12_9 (hB.one (k := 4) hky0 rfl) 0 (v := .ref (rS y0 0)) rfl rfl ?_
      have k91 : tS (rS y0 0) = 1 := (hB.wtk hky0).1
      refine lv_iload_n hx hb dX12_copy_25 rfl (lv_at hl 2 rfl) ?_
      obtain ⟨o92, hw⟩ := hw
      refine g_iald X dX12_copy_26 (hB.one (k := 1) k91 rfl) 0 rfl o92 rfl ?_
      refine g_iast X dX12_copy_27 (hB.oneB (k := 1) hAS k90 rfl) hS 0 rfl o92 rfl (fun H locs hb9 oq hS => ?_)
      have hB := hB.putB k90 rfl hb9 oq
      have hAF : ∀ x, H.size ≤ x → AS x := fun x h => hAF x (Nat.le_trans (sz_of oq (hB.lt (by rw [k90]; decide)).1) h)
      obtain ⟨wS93, ewS93⟩ : ∃ z : Dt, z = up2 wS (rS y1 0) y2.toNatClampNeg (wS (rS y0 0) y2.toNatClampNeg) := ⟨_, rfl⟩
      rw [← ewS93] at hB
      have hw := hw wS93 ewS93
      refine lv_aload_n hx hb dX12_copy_28 rfl (lv_at hl 0 rfl) ?_
      refine g_get X dX12_copy_29 f_X12_17 (hB.one (k := 4) hky0 rfl) 0 (v := .ref (rS y0 1)) rfl rfl ?_
      have k94 : tS (rS y0 1) = 2 := (hB.wtk hky0).2.1
      refine lv_iload_n hx hb dX12_copy_32 rfl (lv_at hl 2 rfl) ?_
      refine g_aaldA X dX12_copy_33 (hB.one (k := 2) k94 rfl) 0 rfl o92 (v := .ref (rS (rS y0 1) y2.toNatClampNeg)) (row_at (lt10 o92)) ?_
      have k95 : tS (rS (rS y0 1) y2.toNatClampNeg) = 23 := (hB.wtk k94) _ (lt10 o92)
      refine lv_iconst (v := 0) hx hb dX12_copy_34 (by decide) ?_
      refine lv_aload_n hx hb dX12_copy_35 rfl (lv_at hl 1 rfl) ?_
      refine g_get X dX12_copy_36 f_X12_17 (hB.one (k := 4) hky1 rfl) 0 (v := .ref (rS y1 1)) rfl rfl ?_
      have k96 : tS (rS y1 1) = 2 := (hB.wtk hky1).2.1
      refine lv_iload_n hx hb dX12_copy_39 rfl (lv_at hl 2 rfl) ?_
      refine g_aaldA X dX12_copy_40 (hB.one (k := 2) k96 rfl) 0 rfl o92 (v := .ref (rS (rS y1 1) y2.toNatClampNeg)) (row_at (lt10 o92)) ?_
      have k97 : tS (rS (rS y1 1) y2.toNatClampNeg) = 23 := (hB.wtk k96) _ (lt10 o92)
      refine lv_iconst (v := 0) hx hb dX12_copy_41 (by decide) ?_
      refine lv_iconst (v := 3) hx hb dX12_copy_42 (by decide) ?_
      refine x_copyi (A := Am) X hl.1 w_1971 w_1545 w_29 (hB.at (k := 23) k95 rfl) (hB.at (k := 23) k97 rfl) (hAS _ (hB.lt (by rw [k97]; decide)).2) hS (sp := 0) (dp := 0) (n := 3) (by decide) (by decide) (by decide) (by decide) (by decide) ⟨Nat.le_of_ble_eq_true rfl, Nat.le_of_ble_eq_true rfl⟩ dX12_copy_43 (fun H locs hat9 oq hz9 hS => ?_)
      have hB := hB.putr (W := va_cpy (wS93 (rS (rS y0 1) y2.toNatClampNeg)) (wS93 (rS (rS y1 1) y2.toNatClampNeg)) 0 0 3) k97 rfl hat9 oq
      have hAF : ∀ x, H.size ≤ x → AS x := fun x h => hAF x (Nat.le_trans (sz_of oq (hB.lt (by rw [k97]; decide)).1) h)
      obtain ⟨wS98, ewS98⟩ : ∃ z : Dt, z = va_up wS93 (rS (rS y1 1) y2.toNatClampNeg) (va_cpy (wS93 (rS (rS y0 1) y2.toNatClampNeg)) (wS93 (rS (rS y1 1) y2.toNatClampNeg)) 0 0 3) := ⟨_, rfl⟩
      rw [← ewS98] at hB
      have hw := hw wS98 ewS98
      refine lv_aload_n hx hb dX12_copy_46 rfl (lv_at hl 0 rfl) ?_
      refine g_get X dX12_copy_47 f_X12_20 (hB.one (k := 4) hky0 rfl) 0 (v := .ref (rS y0 2)) rfl rfl ?_
      have k99 : tS (rS y0 2) = 2 := (hB.wtk hky0).2.2.1
      refine lv_iload_n hx hb dX12_copy_50 rfl (lv_at hl 2 rfl) ?_
      refine g_aaldA X dX12_copy_51 (hB.one (k := 2) k99 rfl) 0 rfl o92 (v := .ref (rS (rS y0 2) y2.toNatClampNeg)) (row_at (lt10 o92)) ?_
      have k100 : tS (rS (rS y0 2) y2.toNatClampNeg) = 23 := (hB.wtk k99) _ (lt10 o92)
      refine lv_iconst (v := 0) hx hb dX12_copy_52 (by decide) ?_
      refine lv_aload_n hx hb dX12_copy_53 rfl (lv_at hl 1 rfl) ?_
      refine g_get X dX12_copy_54 f_X12_20 (hB.one (k := 4) hky1 rfl) 0 (v := .ref (rS y1 2)) rfl rfl ?_
      have k101 : tS (rS y1 2) = 2 := (hB.wtk hky1).2.2.1
      refine lv_iload_n hx hb dX12_copy_57 rfl (lv_at hl 2 rfl) ?_
      refine g_aaldA X dX12_copy_58 (hB.one (k := 2) k101 rfl) 0 rfl o92 (v := .ref (rS (rS y1 2) y2.toNatClampNeg)) (row_at (lt10 o92)) ?_
      have k102 : tS (rS (rS y1 2) y2.toNatClampNeg) = 23 := (hB.wtk k101) _ (lt10 o92)
      refine lv_iconst (v := 0) hx hb dX12_copy_59 (by decide) ?_
      refine lv_iconst (v := 3) hx hb dX12_copy_60 (by decide) ?_
      refine x_copyi (A := Am) X hl.1 w_1971 w_1545 w_29 (hB.at (k := 23) k100 rfl) (hB.at (k := 23) k102 rfl) (hAS _ (hB.lt (by rw [k102]; decide)).2) hS (sp := 0) (dp := 0) (n := 3) (by decide) (by decide) (by decide) (by decide) (by decide) ⟨Nat.le_of_ble_eq_true rfl, Nat.le_of_ble_eq_true rfl⟩ dX12_copy_61 (fun H locs hat9 oq hz9 hS => ?_)
      have hB := hB.putr (W := va_cpy (wS98 (rS (rS y0 2) y2.toNatClampNeg)) (wS98 (rS (rS y1 2) y2.toNatClampNeg)) 0 0 3) k102 rfl hat9 oq
      have hAF : ∀ x, H.size ≤ x → AS x := fun x h => hAF x (Nat.le_trans (sz_of oq (hB.lt (by rw [k102]; decide)).1) h)
      obtain ⟨wS103, ewS103⟩ : ∃ z : Dt, z = va_up wS98 (rS (rS y1 2) y2.toNatClampNeg) (va_cpy (wS98 (rS (rS y0 2) y2.toNatClampNeg)) (wS98 (rS (rS y1 2) y2.toNatClampNeg)) 0 0 3) := ⟨_, rfl⟩
      rw [← ewS103] at hB
      have hw := hw wS103 ewS103
      refine lv_iinc (lv' := [(2, .int (y2 + 1)), (0, .ref y0), (1, .ref y1)]) hx hb dX12_copy_64 hl (k := 2) rfl (by rfl) (by decide) rfl (fun ls hl => ?_)
      refine lv_goto (tgt := 10) hx hb dX12_copy_67 (by decide) ?_
      exact ih y0 y1 (y2 + 1) tS nS rS wS103 bS sS _ _ _ _ _ _ hw hB hky0 hky1 hAS hAF hX hc hs hS (lv_sub hl [1, 2, 0] rfl)
def wp_X12_copy (post : Nat → (Nat → Nat) → (Nat → Nat) → (Nat → Nat → Nat) → Dt → Prop)  (tS : Nat → Nat) (nS : Nat → Nat) (rS : Nat → Nat → Nat) (wS : Dt) (bS : Nat) (sS : Nat) (x0 : Nat) : Prop := 28 ≤ bS ∧ (123 ≤ sS ∧ (∀ (q1 : Nat) (tS5 nS6 : Nat → Nat) (rS7 : Nat → Nat → Nat) (wS8 : Dt), NEW4 tS nS rS wS q1 tS5 nS6 rS7 wS8 → (∃ k9 : Nat, wp_X12_copy_10 post   k9 x0 q1 0 tS5 nS6 rS7 wS8 (bS - 28) (sS - 123))))
set_option maxHeartbeats 4000000 in
set_option maxRecDepth 100000 in
theorem c_X12_copy (l : Launch) (D : va_G) (tc : Nat → ClassId) (h0 : Nat) (sa : Nat → Nat) (x0 : Nat) (b0 s0 : Nat) {Am : Nat → Prop} (H0 : Heap) {tS nS : Nat → Nat} {rS : Nat → Nat → Nat} {wS : Dt} (hB : SB D tc (sa 3) Am tS nS rS wS H0) (hkx0 : tS x0 = 4) (hA0 : ∀ q, Am q → h0 ≤ q) (hAF : ∀ x, H0.size ≤ x → Am x) {post : Nat → (Nat → Nat) → (Nat → Nat) → (Nat → Nat → Nat) → Dt → Prop} (hw : wp_X12_copy post  tS nS rS wS b0 s0 x0) : MB l yX12_copy cX12_copy 4 (Option.some (FieldType.object "BandworldModel$World")) (rm_X12_copy b0 s0) Am [.ref x0] D tc h0 sa H0 (fun u : Nat × (Nat → Nat) × (Nat → Nat) × (Nat → Nat → Nat) × Dt => post u.1 u.2.1 u.2.2.1 u.2.2.2.1 u.2.2.2.2) (fun (u : Nat × (Nat → Nat) × (Nat → Nat) × (Nat → Nat → Nat) × Dt) (H1 : Heap) => SB D tc (sa 3) Am u.2.1 u.2.2.1 u.2.2.2.1 u.2.2.2.2 H1 ∧ Ext tS u.2.1 ∧ u.2.1 u.1 = 4) (fun u : Nat × (Nat → Nat) × (Nat → Nat) × (Nat → Nat → Nat) × Dt => some (.ref u.1)) := by
  refine MB.of RX12 [(0, .ref x0)] (by decide +kernel) rfl (Nat.le_of_ble_eq_true rfl) rfl ?_
  intro p e s m below meth c ls X hr hin hT hH hS hl
  subst hH
  have hx := X.1
  have hb := X.2.1
  have hown := X.2.2.2.1
  have hU := X.2.2.2.2.1.1
  unfold wp_X12_copy at hw
  obtain ⟨A, eA⟩ : ∃ z, z = Am := ⟨_, rfl⟩
  have hB : SB D tc (sa 3) A tS nS rS wS s.heap := by rw [eA]; exact hB
  have hAm9 := hAF
  have hAF : ∀ x, s.heap.size ≤ x → A x := by rw [eA]; exact hAF
  have hAS : ∀ x, A x → Am x := by rw [eA]; exact fun _ h => h
  have hX : Ext tS tS := Ext.rf
  obtain ⟨bS, ebS⟩ : ∃ z, z = b0 := ⟨_, rfl⟩
  obtain ⟨sS, esS⟩ : ∃ z, z = s0 := ⟨_, rfl⟩
  rw [← ebS, ← esS] at hw
  refine W_bud (b := bS) (s1 := sS) (B := b0) (S := s0) (show 0 + bS ≤ b0 by omega) (show 0 + sS ≤ s0 by omega) (fun cells slots hc hs => ?_)
  obtain ⟨o2, hw⟩ := hw
  obtain ⟨o3, hw⟩ := hw
  refine x_new (A := Am) X nw_X12_10 (fs := [.null, .null, .null, .int 0, .int 0, .null, .int 0, .int 0, .null, .null, .null, .int 0]) (fun j hj => by rcases (show j = 0 ∨ j = 1 ∨ j = 2 ∨ j = 3 ∨ j = 4 ∨ j = 5 ∨ j = 6 ∨ j = 7 ∨ j = 8 ∨ j = 9 ∨ j = 10 ∨ j = 11 by omega) with e | e | e | e | e | e | e | e | e | e | e | e <;> subst e <;> rfl) hS hAm9 ⟨show cells + 1 ≤ b0 by omega, show slots + 12 ≤ s0 by omega⟩ dX12_copy_0 (fun q1 H hq9 hat9 hAq hz9 hqz o1 hS => ?_)
  refine lv_dup hx hb dX12_copy_3 rfl ?_
  refine g_after (st0 := .ref q1 :: [.ref q1]) (rest := [.ref q1]) (g_I X m_X12_43 (c_in4 l D tc h0 sa _ q1 hat9 (hA0 _ hAq) (fun x h => hA0 x (hAm9 x (Nat.le_trans hS.1 h)))) hT hS hA0 dX12_copy_4 hl.1 rfl rfl ⟨Nat.le_of_ble_eq_true rfl, Nat.le_of_ble_eq_true rfl⟩ (Nat.le_of_ble_eq_true rfl) ⟨show (cells + 1) + 27 ≤ b0 by omega, show (slots + 12) + 111 ≤ s0 by omega⟩) hS (fun x h => h.elim (fun e => e ▸ hAq) (fun h => hAm9 x (Nat.le_trans hS.1 h))) (fun u => [.ref q1]) (fun _ => rfl) (fun u H locs hu hP9 hz8 hk9 hS => ?_)
  have o2 := fun x hx => (hk9 x (by omega) (fun h => h.elim (fun e => by omega) (fun h => by omega))).trans (o1 x hx)
  obtain ⟨tS5, nS6, rS7, wS8, hB, z9, hX9, k4⟩ := hB.make4 (hAF q1 hq9) hAF hq9 o2 hP9 (by omega)
  have hAF : ∀ x, H.size ≤ x → A x := fun x h => hAF x (by omega)
  have hw := hw q1 tS5 nS6 rS7 wS8 z9
  have hX := hX.trans hX9
  have k10 : tS5 x0 = 4 := hX9.to hkx0
  refine W_bud (b := (bS - 28)) (s1 := (sS - 123)) (B := b0) (S := s0) (show (cells + 1 + 27) + (bS - 28) ≤ b0 by omega) (show (slots + 12 + 111) + (sS - 123) ≤ s0 by omega) (fun cells slots hc hs => ?_)
  refine lv_astore_n (lv' := [(1, .ref q1), (0, .ref x0)]) hx hb dX12_copy_7 rfl hl (by decide) rfl (fun ls hl => ?_)
  refine lv_iconst (v := 0) hx hb dX12_copy_8 (by decide) ?_
  refine lv_istore_n (lv' := [(2, .int 0), (1, .ref q1), (0, .ref x0)]) hx hb dX12_copy_9 rfl hl (by decide) rfl (fun ls hl => ?_)
  obtain ⟨k9, hw⟩ := hw
  exact t_X12_copy_10 X hr hT hA0 hAm9  k9 x0 q1 0 tS5 nS6 rS7 wS8 (bS - 28) (sS - 123) _ _ _ _ _ _ hw hB k10 k4 hAS hAF hX hc hs hS (lv_sub hl [2, 1, 0] rfl)
