/-! THE LAW'S BEGINNING -/
section NEWD
variable {p : Program} {l : Launch} {e : Env} {R : Room} {s : State} {m : MethodId} {args : Array Value} {below : List Frame} {meth : Method} {c : Code} {H : Heap} {locs : List Loc} {cells slots : Nat} {Q : State → Prop}
variable {cc : ByteArray} {nL : Nat} {own : String} {D : va_G} {tc : Nat → ClassId} {pc : Nat} {ls : Array Slot} {rest : List Value} {A : Nat → Prop} {H0 : Heap}
theorem x_newd (X : Cx p c s m meth cc nL own D tc) {n : Int32} {N : Nat} (hn : ¬ n < 0) (hN : n.toNatClampNeg = N) (hb4 : N * 8 ≤ 536870912) (hS : va_S A H0 H locs) (hA : ∀ q, H0.size ≤ q → A q) (hcs : cells + 1 ≤ R.cells ∧ slots + N ≤ R.slots) (hd : decode cc pc = .ok (.newarray .double, 2))
    (kk : ∀ (q : Nat) (H1 : Heap), H.size ≤ q → va_at D vwCl (q, .inl (tc 4, N, .inr (.inr (.inr (.inl (fun _ => 0)))))) H1 → A q → H.size ≤ H1.size → q < H1.size → (∀ x, x < H.size → H1[x]? = H[x]?) → va_S A H0 H1 locs → W p l e R s m args below meth c H1 locs (cells + 1) (slots + N) Q (F0 m (pc + 2) ls (.ref q :: rest))) : W p l e R s m args below meth c H locs cells slots Q (F0 m pc ls (.int n :: rest)) := by
  obtain ⟨hx, hb, -, hown, hK, -⟩ := X
  have harr : (Cond.arrayClass (newarray.typeOf .double)).before args s = true := va_arr (hK.2.2.2.1 .double (by decide))
  refine va_newaK hx hb harr rfl hd rfl hn hN (Nat.le_trans (Nat.mul_le_mul_left N (show componentBytes (newarray.typeOf .double) ≤ 8 by decide)) hb4) hcs.1 hcs.2 rfl fun H1 cA e1 z1 o1 hAr hNm => ?_
  cases ((hK.2.1.2 4 _ rfl).2 : s.vm.findClass _ = some (tc 4)).symm.trans hNm
  exact kk H.size H1 (Nat.le_refl _) e1 (hA _ hS.1) (by omega) (by omega) o1 ⟨Nat.le_trans hS.1 (by omega), fun x h1 h2 => (o1 x (Nat.lt_of_lt_of_le h1 hS.1)).trans (hS.2.1 x h1 h2), hS.2.2⟩
end NEWD
theorem lw_b1 {k : Nat} (h : k ≤ 512) : 84 + 1520 * k ≤ room_1.cells := Nat.le_trans (Nat.add_le_add_left (Nat.mul_le_mul_left 1520 h) 84) (Nat.le_of_ble_eq_true rfl)
theorem lw_b2 {k : Nat} (h : k ≤ 512) : 620 + 13000 * k ≤ room_1.slots := Nat.le_trans (Nat.add_le_add_left (Nat.mul_le_mul_left 13000 h) 620) (Nat.le_of_ble_eq_true rfl)
/-- the relation at the start -/
def RL0 (Rel : RLT) : Prop := ∀ (q : Nat) (t n : Nat → Nat) (rr : Nat → Nat → Nat) (ww : Dt), NEW7 q t n rr ww → Rel 0 (fun _ _ => 0) cw0 (fun _ => 0) 0 (fun _ => cw0) 0 (fun _ => cw0) 0 (fun _ => cw0) cw0 q t n rr ww
set_option maxHeartbeats 4000000 in
theorem lw_begin {p : Program} {l : Launch} {e : Env} {s : State} {m : MethodId} {args : Array Value} {below : List Frame} {meth : Method} {c : Code} {Q : State → Prop} {D : va_G} {tc : Nat → ClassId} {sa : Nat → Nat} {b L : Nat} {xs : Nat → Int32} {ls : Array Slot} (Rel : RLT) (hs : SIMS Rel) (hrb : RLB Rel) (hr0 : RL0 Rel) (X : Cx p c s m meth cL_law 10 RL D tc) (hN : NC s) (hT : ST s.heap.size sa s s.heap) (hlf : l.stackTraces = false) (hX : va_X b L xs s s.heap) (hbl : b < s.heap.size) (hL : L ≤ 2560) (hl : lv_has ls 10 [(0, .ref b)]) (fin : ∀ (H1 : Heap) (locs1 : List Loc) (ls1 : Array Slot), va_S (old s.heap.size) s.heap H1 locs1 → W p l e room_1 s m args below meth c H1 locs1 room_1.cells room_1.slots Q (F0 m 2995 ls1 [])) : W p l e room_1 s m args below meth c s.heap [] 0 0 Q (F0 m 0 ls []) := by
  have hx := X.1
  have hb := X.2.1
  have hS : va_S (old s.heap.size) s.heap s.heap [] := va_S.rf
  have hA : ∀ x : Nat, s.heap.size ≤ x → old s.heap.size x := fun _ h => h
  refine x_new X nw_L_8 (fs := [.null, .null, .null, .int 0, .null, .null, .int 0, .null, .int 0]) (fun j hj => by rcases (show j = 0 ∨ j = 1 ∨ j = 2 ∨ j = 3 ∨ j = 4 ∨ j = 5 ∨ j = 6 ∨ j = 7 ∨ j = 8 by omega) with rfl | rfl | rfl | rfl | rfl | rfl | rfl | rfl | rfl <;> rfl) hS hA ⟨Nat.le_of_ble_eq_true rfl, Nat.le_of_ble_eq_true rfl⟩ dL_law_0 (fun q1 H1 hq1 hat1 _ hz1 hl1 o1 hS => ?_)
  refine lv_dup hx hb dL_law_3 rfl ?_
  refine g_after (A := old s.heap.size) (st0 := [.ref q1, .ref q1]) (rest := [.ref q1]) (g_I X m_L_159 (c_k8 l D tc s.heap.size sa _ q1 hat1 (by omega) (fun x h => by omega)) hT hS (fun _ h => h) dL_law_4 hl.1 rfl rfl ⟨Nat.le_of_ble_eq_true rfl, Nat.le_of_ble_eq_true rfl⟩ (Nat.le_of_ble_eq_true rfl) ⟨Nat.le_of_ble_eq_true rfl, Nat.le_of_ble_eq_true rfl⟩) hS (fun x h => (show s.heap.size ≤ x from h.elim (fun e => by omega) (fun e => by omega))) (fun _ => [.ref q1]) (fun _ => rfl) (fun u H2 locs _ hP2 hz2 hk2 hS => ?_)
  obtain ⟨aw, ar, zw⟩ := u
  obtain ⟨hqz, hBw, har, hBr⟩ := hP2
  dsimp only at hqz hBw har hBr
  have hBr := hBr (fun _ _ => 0) (fun _ _ => 0) (fun _ _ => 0)
  have hzz : zw < H2.size := by
    have e1 := hBr.lt (i := 1) rfl
    rcases hBr.in (i := 1) rfl with e2 | e2
    · exact absurd (hBr.2 1 0 _ _ rfl rfl (e2.trans har.symm)) (by decide)
    · omega
  refine lv_astore_n (lv' := [(1, .ref q1), (0, .ref b)]) hx hb dL_law_7 rfl hl (by decide) rfl (fun ls hl => ?_)
  refine x_new X nw_L_160 (fs := [.int 0, .null, .null, .null, .null]) (fun j hj => by rcases (show j = 0 ∨ j = 1 ∨ j = 2 ∨ j = 3 ∨ j = 4 by omega) with rfl | rfl | rfl | rfl | rfl <;> rfl) hS hA ⟨Nat.le_of_ble_eq_true rfl, Nat.le_of_ble_eq_true rfl⟩ dL_law_8 (fun q3 H3 hq3 hat3 _ hz3 hl3 o3 hS => ?_)
  refine lv_dup hx hb dL_law_11 rfl ?_
  refine g_after (A := old s.heap.size) (st0 := [.ref q3, .ref q3]) (rest := [.ref q3]) (g_I X m_L_162 (c_in7 l D tc s.heap.size sa _ q3 hat3 (by omega) (fun x h => by omega)) hT hS (fun _ h => h) dL_law_12 hl.1 rfl rfl ⟨Nat.le_of_ble_eq_true rfl, Nat.le_of_ble_eq_true rfl⟩ (Nat.le_of_ble_eq_true rfl) ⟨Nat.le_of_ble_eq_true rfl, Nat.le_of_ble_eq_true rfl⟩) hS (fun x h => (show s.heap.size ≤ x from h.elim (fun e => by omega) (fun e => by omega))) (fun _ => [.ref q3]) (fun _ => rfl) (fun u H4 locs _ hP4 hz4 hk4 hS => ?_)
  obtain ⟨t, n, rr, ww⟩ := u
  obtain ⟨hB4, h7, hnew⟩ := hP4
  dsimp only at hB4 h7 hnew
  refine lv_astore_n (lv' := [(2, .ref q3), (1, .ref q1), (0, .ref b)]) hx hb dL_law_15 rfl hl (by decide) rfl (fun ls hl => ?_)
  refine lv_iconst (v := 1) hx hb dL_law_16 (by decide) ?_
  refine x_newl X (n := 1) (N := 1) (by decide) (by decide) (by decide) hS hA ⟨Nat.le_of_ble_eq_true rfl, Nat.le_of_ble_eq_true rfl⟩ dL_law_17 (fun ob H5 hq5 hat5 _ hz5 hl5 o5 hS => ?_)
  refine lv_astore_n (lv' := [(3, .ref ob), (2, .ref q3), (1, .ref q1), (0, .ref b)]) hx hb dL_law_19 rfl hl (by decide) rfl (fun ls hl => ?_)
  refine lv_iconst (v := 1) hx hb dL_law_20 (by decide) ?_
  refine x_newd X (n := 1) (N := 1) (by decide) (by decide) (by decide) hS hA ⟨Nat.le_of_ble_eq_true rfl, Nat.le_of_ble_eq_true rfl⟩ dL_law_21 (fun od H6 hq6 hat6 _ hz6 hl6 o6 hS => ?_)
  refine lv_astore (lv' := [(4, .ref od), (3, .ref ob), (2, .ref q3), (1, .ref q1), (0, .ref b)]) hx hb dL_law_23 hl (by decide) rfl (fun ls hl => ?_)
  refine lv_iconst (v := 0) hx hb dL_law_25 (by decide) ?_
  refine lv_istore (lv' := [(5, .int 0), (4, .ref od), (3, .ref ob), (2, .ref q3), (1, .ref q1), (0, .ref b)]) hx hb dL_law_26 hl (by decide) rfl (fun ls hl => ?_)
  obtain ⟨O, hO⟩ : ∃ O : Nat → Nat, ∀ x, O x = if x = q1 then 1 else if x < zw then 2 else if x < H2.size then 1 else if x < H4.size then 4 else if x = ob then 5 else 6 := ⟨_, fun _ => rfl⟩
  have h20 : ∀ x, x < H2.size → H6[x]? = H2[x]? := fun x h => by rw [o6 x (by omega), o5 x (by omega), hk4 x (by omega) (fun z => by omega), o3 x h]
  have h64 : ∀ x, x < H4.size → H6[x]? = H4[x]? := fun x h => by rw [o6 x (by omega), o5 x h]
  have hBw6 : Blk D tc (Rg s.heap.size O H6.size 2) (shW aw) aw cw0 H6 := (hBw.kept fun x h _ => h20 x h).mono fun i c hc h => ⟨by rw [hO]; (repeat' split) <;> omega, by omega, by omega⟩
  have hBr6 : Blk D tc (Rg s.heap.size O H6.size 1) (shR (aw 0) none 0 0 0 (fun _ _ => 0) (fun _ _ => 0) (fun _ _ => 0) (fun _ => 0) ar) ar (fun _ _ => 0) H6 := (hBr.kept fun x h _ => h20 x h).mono fun i c hc h => (by
    have hlt := hBr.lt hc
    exact ⟨by rw [hO]; (repeat' split) <;> omega, by omega, by omega⟩)
  have hB6 : SB D tc (sa 3) (Rg s.heap.size O H6.size 4) t n rr ww H6 := (hB4.mono (B := Rg s.heap.size O H6.size 4) (fun x hx4 h => (by
    exact ⟨by rw [hO]; (repeat' split) <;> omega, by omega, by omega⟩))).kept fun x h _ => h64 x h
  have ho6 : Rg s.heap.size O H6.size 5 ob := ⟨by rw [hO]; (repeat' split) <;> omega, by omega, by omega⟩
  have hd6 : Rg s.heap.size O H6.size 6 od := ⟨by rw [hO]; (repeat' split) <;> omega, by omega, by omega⟩
  refine W.widen (k := 84) (n := 620) (Nat.le_of_ble_eq_true rfl) (Nat.le_of_ble_eq_true rfl) ?_
  rw [← har] at hl
  have hLH : LH Rel D tc s.heap.size (sa 3) q3 ob od aw ar 0 H6 := ⟨O, fun _ => 0, fun _ => 0, none, fun _ _ => 0, fun _ _ => 0, fun _ _ => 0, fun _ => 0, fun _ _ => 0, cw0, 0, fun _ => cw0, 0, fun _ => cw0, 0, fun _ => cw0, cw0, t, n, rr, ww, ⟨⟨hBr6, hBw6, fun k h => absurd h (Nat.not_lt_zero _), fun k h => absurd h (Nat.not_lt_zero _), fun k h => absurd h (Nat.not_lt_zero _), ⟨fun _ => rfl, fun a h => nomatch h⟩⟩, ⟨hB6, h7⟩, ⟨hat5.kept (o6 ob (by omega)), ho6⟩, ⟨hat6, hd6⟩, by omega⟩, hr0 q3 t n rr ww hnew⟩
  have hk5 : L / 5 ≤ 512 := by omega
  exact lw_loop Rel hs hrb X hN hT hlf hX hbl hL fin (L / 5) 0 H6 locs 84 620 ls (by omega) (by omega) (lw_b1 hk5) (lw_b2 hk5) hS hLH (lv_sub hl [0, 5, 4, 3, 2, 1] rfl)
