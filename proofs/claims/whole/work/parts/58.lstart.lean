/-! WHAT HOLDS AT THE START -/
theorem st_overA {args : Array Value} {s : State} {t : FieldType} (h : (Cond.arrayOver (.array t)).before args s = true) : ∃ comp c k, s.vm.classes[c]? = some k ∧ k.kind = .array comp (.array t) ∧ s.vm.findClass ("[" ++ (FieldType.array t).toString) = some c := by
  simp only [Cond.before, Cond.holds, Cond.value, beq_iff_eq] at h
  cases hc : s.vm.findClass (FieldType.array t).toString with
  | none => simp [hc] at h
  | some comp =>
    simp only [hc, Option.bind_some, Option.bind_eq_some_iff, Option.map_eq_some_iff] at h
    obtain ⟨c, hi, k, hk, hb⟩ := h
    obtain ⟨hlt, hp, -⟩ := Array.findIdx?_eq_some_iff_getElem.mp hi
    have hkk : s.vm.classes[c] = k := (Array.getElem?_eq_some_iff.mp hk).2
    rw [hkk] at hp
    cases hkind : k.kind with
    | array component ty =>
      rw [hkind] at hb hp
      simp at hb hp
      exact ⟨comp, c, k, hk, by rw [hkind, hp, hb.1], hb.2⟩
    | _ => rw [hkind] at hb; simp at hb
theorem st_K {s : State} (hU : KW s) : ∃ D : va_G, ∀ (c : Nat) (q : vw_C), vwCl[c]? = some q → u_Kn s q.1 q.2.1 q.2.2 (D.1 c) (D.2 c) := by
  have h : ∀ c : Nat, ∃ x : ClassId × (Nat → Nat), ∀ q : vw_C, vwCl[c]? = some q → u_Kn s q.1 q.2.1 q.2.2 x.1 x.2 := by
    intro c
    by_cases e0 : c = 0
    · subst e0
      obtain ⟨cC, iS, h⟩ := u_known (args := #[]) (fun w hw => hU.use (args := #[]) hw) ck0.2.1 (hU.use (args := #[]) w_442)
      exact ⟨(cC, iS), fun q hq => by cases hq; exact h⟩
    by_cases e1 : c = 1
    · subst e1
      obtain ⟨cC, iS, h⟩ := u_known (args := #[]) (fun w hw => hU.use (args := #[]) hw) ck1.2.1 (hU.use (args := #[]) w_369)
      exact ⟨(cC, iS), fun q hq => by cases hq; exact h⟩
    by_cases e2 : c = 2
    · subst e2
      obtain ⟨cC, iS, h⟩ := u_known (args := #[]) (fun w hw => hU.use (args := #[]) hw) ck2.2.1 (hU.use (args := #[]) w_1679)
      exact ⟨(cC, iS), fun q hq => by cases hq; exact h⟩
    by_cases e3 : c = 3
    · subst e3
      obtain ⟨cC, iS, h⟩ := u_known (args := #[]) (fun w hw => hU.use (args := #[]) hw) ck3.2.1 (hU.use (args := #[]) w_1162)
      exact ⟨(cC, iS), fun q hq => by cases hq; exact h⟩
    by_cases e4 : c = 4
    · subst e4
      obtain ⟨cC, iS, h⟩ := u_known (args := #[]) (fun w hw => hU.use (args := #[]) hw) ck4.2.1 (hU.use (args := #[]) w_94)
      exact ⟨(cC, iS), fun q hq => by cases hq; exact h⟩
    by_cases e5 : c = 5
    · subst e5
      obtain ⟨cC, iS, h⟩ := u_known (args := #[]) (fun w hw => hU.use (args := #[]) hw) ck5.2.1 (hU.use (args := #[]) w_54)
      exact ⟨(cC, iS), fun q hq => by cases hq; exact h⟩
    by_cases e6 : c = 6
    · subst e6
      obtain ⟨cC, iS, h⟩ := u_known (args := #[]) (fun w hw => hU.use (args := #[]) hw) ck6.2.1 (hU.use (args := #[]) w_1024)
      exact ⟨(cC, iS), fun q hq => by cases hq; exact h⟩
    by_cases e7 : c = 7
    · subst e7
      obtain ⟨cC, iS, h⟩ := u_known (args := #[]) (fun w hw => hU.use (args := #[]) hw) ck7.2.1 (hU.use (args := #[]) w_180)
      exact ⟨(cC, iS), fun q hq => by cases hq; exact h⟩
    by_cases e8 : c = 8
    · subst e8
      obtain ⟨cC, iS, h⟩ := u_known (args := #[]) (fun w hw => hU.use (args := #[]) hw) ck8.2.1 (hU.use (args := #[]) w_901)
      exact ⟨(cC, iS), fun q hq => by cases hq; exact h⟩
    by_cases e9 : c = 9
    · subst e9
      obtain ⟨cC, iS, h⟩ := u_known (args := #[]) (fun w hw => hU.use (args := #[]) hw) ck9.2.1 (hU.use (args := #[]) w_159)
      exact ⟨(cC, iS), fun q hq => by cases hq; exact h⟩
    by_cases e10 : c = 10
    · subst e10
      obtain ⟨cC, iS, h⟩ := u_known (args := #[]) (fun w hw => hU.use (args := #[]) hw) ck10.2.1 (hU.use (args := #[]) w_116)
      exact ⟨(cC, iS), fun q hq => by cases hq; exact h⟩
    by_cases e11 : c = 11
    · subst e11
      obtain ⟨cC, iS, h⟩ := u_known (args := #[]) (fun w hw => hU.use (args := #[]) hw) ck11.2.1 (hU.use (args := #[]) w_48)
      exact ⟨(cC, iS), fun q hq => by cases hq; exact h⟩
    by_cases e12 : c = 12
    · subst e12
      obtain ⟨cC, iS, h⟩ := u_known (args := #[]) (fun w hw => hU.use (args := #[]) hw) ck12.2.1 (hU.use (args := #[]) w_40)
      exact ⟨(cC, iS), fun q hq => by cases hq; exact h⟩
    by_cases e13 : c = 13
    · subst e13
      obtain ⟨cC, iS, h⟩ := u_known (args := #[]) (fun w hw => hU.use (args := #[]) hw) ck13.2.1 (hU.use (args := #[]) w_1905)
      exact ⟨(cC, iS), fun q hq => by cases hq; exact h⟩
    by_cases e14 : c = 14
    · subst e14
      obtain ⟨cC, iS, h⟩ := u_known (args := #[]) (fun w hw => hU.use (args := #[]) hw) ck14.2.1 (hU.use (args := #[]) w_1754)
      exact ⟨(cC, iS), fun q hq => by cases hq; exact h⟩
    by_cases e15 : c = 15
    · subst e15
      obtain ⟨cC, iS, h⟩ := u_known (args := #[]) (fun w hw => hU.use (args := #[]) hw) ck15.2.1 (hU.use (args := #[]) w_1436)
      exact ⟨(cC, iS), fun q hq => by cases hq; exact h⟩
    by_cases e16 : c = 16
    · subst e16
      obtain ⟨cC, iS, h⟩ := u_known (args := #[]) (fun w hw => hU.use (args := #[]) hw) ck16.2.1 (hU.use (args := #[]) w_1155)
      exact ⟨(cC, iS), fun q hq => by cases hq; exact h⟩
    by_cases e17 : c = 17
    · subst e17
      obtain ⟨cC, iS, h⟩ := u_known (args := #[]) (fun w hw => hU.use (args := #[]) hw) ck17.2.1 (hU.use (args := #[]) w_1149)
      exact ⟨(cC, iS), fun q hq => by cases hq; exact h⟩
    exact ⟨(0, fun _ => 0), fun q hq => by
      have := (List.getElem?_eq_some_iff.mp hq).1
      have e : vwCl.length = 18 := rfl
      omega⟩
  obtain ⟨f, hf⟩ := Classical.axiomOfChoice h
  exact ⟨(fun c => (f c).1, fun c => (f c).2), hf⟩
theorem st_T {s : State} {b : Nat} (hts : ∀ w ∈ lw_tbl, w.before #[Value.ref b] s = true) : ∃ tc : Nat → ClassId, ∀ (k : Nat) (q : ClassId × FieldType), (TY tc)[k]? = some q → ArrOfT s q.1 q.2 ∧ va_RA s q.1 q.2 := by
  obtain ⟨c0, k0, p0, a0, b0, d0⟩ := Cond.arrayClass_spec (show (Cond.arrayClass .int).before #[Value.ref b] s = true from (hts _ (List.mem_append_right _ (List.mem_of_getElem? (i := 92) (by decide +kernel)))))
  obtain ⟨c1, k1, p1, a1, b1, d1⟩ := Cond.arrayClass_spec (show (Cond.arrayClass .boolean).before #[Value.ref b] s = true from (hts _ (List.mem_append_right _ (List.mem_of_getElem? (i := 157) (by decide +kernel)))))
  obtain ⟨c2, k2, p2, a2, b2, d2⟩ := Cond.arrayClass_spec (show (Cond.arrayClass .char).before #[Value.ref b] s = true from (hts _ (List.mem_append_right _ (List.mem_of_getElem? (i := 156) (by decide +kernel)))))
  obtain ⟨c3, k3, p3, a3, b3, d3⟩ := Cond.arrayClass_spec (show (Cond.arrayClass .long).before #[Value.ref b] s = true from (hts _ (List.mem_append_right _ (List.mem_of_getElem? (i := 256) (by decide +kernel)))))
  obtain ⟨c4, k4, p4, a4, b4, d4⟩ := Cond.arrayClass_spec (show (Cond.arrayClass .double).before #[Value.ref b] s = true from (hts _ (List.mem_append_right _ (List.mem_of_getElem? (i := 2038) (by decide +kernel)))))
  obtain ⟨p5, c5, k5, b5, d5, a5⟩ := st_overA (show (Cond.arrayOver (.array .int)).before #[Value.ref b] s = true from (hts _ (List.mem_append_right _ (List.mem_of_getElem? (i := 60) (by decide +kernel)))))
  obtain ⟨p6, c6, k6, g6, -, b6, d6, a6⟩ := Cond.arrayOver_spec (show (Cond.arrayOver (.object "Bandworld$World")).before #[Value.ref b] s = true from (hts _ (List.mem_append_right _ (List.mem_of_getElem? (i := 223) (by decide +kernel)))))
  obtain ⟨p7, c7, k7, g7, -, b7, d7, a7⟩ := Cond.arrayOver_spec (show (Cond.arrayOver (.object "Bandworld$Probe")).before #[Value.ref b] s = true from (hts _ (List.mem_append_right _ (List.mem_of_getElem? (i := 225) (by decide +kernel)))))
  obtain ⟨p8, c8, k8, g8, -, b8, d8, a8⟩ := Cond.arrayOver_spec (show (Cond.arrayOver (.object "Bandworld$Frame")).before #[Value.ref b] s = true from (hts _ (List.mem_append_right _ (List.mem_of_getElem? (i := 227) (by decide +kernel)))))
  obtain ⟨p9, c9, k9, g9, -, b9, d9, a9⟩ := Cond.arrayOver_spec (show (Cond.arrayOver (.object "java/lang/Object")).before #[Value.ref b] s = true from (hts _ (List.mem_append_right _ (List.mem_of_getElem? (i := 1541) (by decide +kernel)))))
  refine ⟨fun k => match k with | 0 => c0 | 1 => c1 | 2 => c2 | 3 => c3 | 4 => c4 | 5 => c5 | 6 => c6 | 7 => c7 | 8 => c8 | _ => c9, fun k q hq => ?_⟩
  have hk : k < 10 := (List.getElem?_eq_some_iff.mp hq).1
  rcases (show k = 0 ∨ k = 1 ∨ k = 2 ∨ k = 3 ∨ k = 4 ∨ k = 5 ∨ k = 6 ∨ k = 7 ∨ k = 8 ∨ k = 9 by omega) with rfl | rfl | rfl | rfl | rfl | rfl | rfl | rfl | rfl | rfl
  · cases hq
    exact ⟨fun n z => ⟨fun k h => (by cases h), k0, b0, p0, d0⟩, a0⟩
  · cases hq
    exact ⟨fun n z => ⟨fun k h => (by cases h), k1, b1, p1, d1⟩, a1⟩
  · cases hq
    exact ⟨fun n z => ⟨fun k h => (by cases h), k2, b2, p2, d2⟩, a2⟩
  · cases hq
    exact ⟨fun n z => ⟨fun k h => (by cases h), k3, b3, p3, d3⟩, a3⟩
  · cases hq
    exact ⟨fun n z => ⟨fun k h => (by cases h), k4, b4, p4, d4⟩, a4⟩
  · cases hq
    exact ⟨fun n z => ⟨fun k h => (by cases h), k5, b5, p5, d5⟩, a5⟩
  · cases hq
    exact ⟨fun n z => ⟨fun k h => (by cases h), k6, b6, p6, d6⟩, k6, p6, b6, d6, g6, a6⟩
  · cases hq
    exact ⟨fun n z => ⟨fun k h => (by cases h), k7, b7, p7, d7⟩, k7, p7, b7, d7, g7, a7⟩
  · cases hq
    exact ⟨fun n z => ⟨fun k h => (by cases h), k8, b8, p8, d8⟩, k8, p8, b8, d8, g8, a8⟩
  · cases hq
    exact ⟨fun n z => ⟨fun k h => (by cases h), k9, b9, p9, d9⟩, k9, p9, b9, d9, g9, a9⟩
abbrev nrw : List Cond := flatC (Jvm.Cond.and given_1 narrow_1)
theorem st_NC {s : State} {b : Nat} (hn : ∀ w ∈ nrw, w.before #[Value.ref b] s = true) : NC s := by
  intro i j hi hj hij
  rcases (show i = 0 ∨ i = 1 ∨ i = 2 ∨ i = 3 ∨ i = 4 ∨ i = 5 by omega) with rfl | rfl | rfl | rfl | rfl | rfl <;> rcases (show j = 0 ∨ j = 1 ∨ j = 2 ∨ j = 3 ∨ j = 4 ∨ j = 5 by omega) with rfl | rfl | rfl | rfl | rfl | rfl
  · exact absurd rfl hij
  · exact va_Nc.of (args := #[Value.ref b]) (hn (Cond.not (Cond.castable "java/lang/IndexOutOfBoundsException" "java/lang/IllegalArgumentException")) (by decide +kernel))
  · exact va_Nc.of (args := #[Value.ref b]) (hn (Cond.not (Cond.castable "java/lang/IndexOutOfBoundsException" "java/lang/IllegalStateException")) (by decide +kernel))
  · exact va_Nc.of (args := #[Value.ref b]) (hn (Cond.not (Cond.castable "java/lang/IndexOutOfBoundsException" "java/lang/UnsupportedOperationException")) (by decide +kernel))
  · exact va_Nc.of (args := #[Value.ref b]) (hn (Cond.not (Cond.castable "java/lang/IndexOutOfBoundsException" "java/util/NoSuchElementException")) (by decide +kernel))
  · exact va_Nc.of (args := #[Value.ref b]) (hn (Cond.not (Cond.castable "java/lang/IndexOutOfBoundsException" "java/lang/ArithmeticException")) (by decide +kernel))
  · exact va_Nc.of (args := #[Value.ref b]) (hn (Cond.not (Cond.castable "java/lang/IllegalArgumentException" "java/lang/IndexOutOfBoundsException")) (by decide +kernel))
  · exact absurd rfl hij
  · exact va_Nc.of (args := #[Value.ref b]) (hn (Cond.not (Cond.castable "java/lang/IllegalArgumentException" "java/lang/IllegalStateException")) (by decide +kernel))
  · exact va_Nc.of (args := #[Value.ref b]) (hn (Cond.not (Cond.castable "java/lang/IllegalArgumentException" "java/lang/UnsupportedOperationException")) (by decide +kernel))
  · exact va_Nc.of (args := #[Value.ref b]) (hn (Cond.not (Cond.castable "java/lang/IllegalArgumentException" "java/util/NoSuchElementException")) (by decide +kernel))
  · exact va_Nc.of (args := #[Value.ref b]) (hn (Cond.not (Cond.castable "java/lang/IllegalArgumentException" "java/lang/ArithmeticException")) (by decide +kernel))
  · exact va_Nc.of (args := #[Value.ref b]) (hn (Cond.not (Cond.castable "java/lang/IllegalStateException" "java/lang/IndexOutOfBoundsException")) (by decide +kernel))
  · exact va_Nc.of (args := #[Value.ref b]) (hn (Cond.not (Cond.castable "java/lang/IllegalStateException" "java/lang/IllegalArgumentException")) (by decide +kernel))
  · exact absurd rfl hij
  · exact va_Nc.of (args := #[Value.ref b]) (hn (Cond.not (Cond.castable "java/lang/IllegalStateException" "java/lang/UnsupportedOperationException")) (by decide +kernel))
  · exact va_Nc.of (args := #[Value.ref b]) (hn (Cond.not (Cond.castable "java/lang/IllegalStateException" "java/util/NoSuchElementException")) (by decide +kernel))
  · exact va_Nc.of (args := #[Value.ref b]) (hn (Cond.not (Cond.castable "java/lang/IllegalStateException" "java/lang/ArithmeticException")) (by decide +kernel))
  · exact va_Nc.of (args := #[Value.ref b]) (hn (Cond.not (Cond.castable "java/lang/UnsupportedOperationException" "java/lang/IndexOutOfBoundsException")) (by decide +kernel))
  · exact va_Nc.of (args := #[Value.ref b]) (hn (Cond.not (Cond.castable "java/lang/UnsupportedOperationException" "java/lang/IllegalArgumentException")) (by decide +kernel))
  · exact va_Nc.of (args := #[Value.ref b]) (hn (Cond.not (Cond.castable "java/lang/UnsupportedOperationException" "java/lang/IllegalStateException")) (by decide +kernel))
  · exact absurd rfl hij
  · exact va_Nc.of (args := #[Value.ref b]) (hn (Cond.not (Cond.castable "java/lang/UnsupportedOperationException" "java/util/NoSuchElementException")) (by decide +kernel))
  · exact va_Nc.of (args := #[Value.ref b]) (hn (Cond.not (Cond.castable "java/lang/UnsupportedOperationException" "java/lang/ArithmeticException")) (by decide +kernel))
  · exact va_Nc.of (args := #[Value.ref b]) (hn (Cond.not (Cond.castable "java/util/NoSuchElementException" "java/lang/IndexOutOfBoundsException")) (by decide +kernel))
  · exact va_Nc.of (args := #[Value.ref b]) (hn (Cond.not (Cond.castable "java/util/NoSuchElementException" "java/lang/IllegalArgumentException")) (by decide +kernel))
  · exact va_Nc.of (args := #[Value.ref b]) (hn (Cond.not (Cond.castable "java/util/NoSuchElementException" "java/lang/IllegalStateException")) (by decide +kernel))
  · exact va_Nc.of (args := #[Value.ref b]) (hn (Cond.not (Cond.castable "java/util/NoSuchElementException" "java/lang/UnsupportedOperationException")) (by decide +kernel))
  · exact absurd rfl hij
  · exact va_Nc.of (args := #[Value.ref b]) (hn (Cond.not (Cond.castable "java/util/NoSuchElementException" "java/lang/ArithmeticException")) (by decide +kernel))
  · exact va_Nc.of (args := #[Value.ref b]) (hn (Cond.not (Cond.castable "java/lang/ArithmeticException" "java/lang/IndexOutOfBoundsException")) (by decide +kernel))
  · exact va_Nc.of (args := #[Value.ref b]) (hn (Cond.not (Cond.castable "java/lang/ArithmeticException" "java/lang/IllegalArgumentException")) (by decide +kernel))
  · exact va_Nc.of (args := #[Value.ref b]) (hn (Cond.not (Cond.castable "java/lang/ArithmeticException" "java/lang/IllegalStateException")) (by decide +kernel))
  · exact va_Nc.of (args := #[Value.ref b]) (hn (Cond.not (Cond.castable "java/lang/ArithmeticException" "java/lang/UnsupportedOperationException")) (by decide +kernel))
  · exact va_Nc.of (args := #[Value.ref b]) (hn (Cond.not (Cond.castable "java/lang/ArithmeticException" "java/util/NoSuchElementException")) (by decide +kernel))
  · exact absurd rfl hij
