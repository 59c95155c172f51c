/-! WHAT HOLDS AT THE START: the words, the statics -/
theorem st_W {s : State} {b : Nat} (hts : ∀ w ∈ lw_tbl, w.before #[Value.ref b] s = true) : KW s := fun w hw => by
  have h := List.mem_filter.mp hw
  have h1 := h.2
  simp only [wx_ok, Bool.and_eq_true] at h1
  exact va_tabs h1.1 rfl (hts w h.1)
theorem st_R {s : State} {b k : Nat} {tx : String} (h1 : (Cond.stringRef "Bandworld" k tx).before #[Value.ref b] s = true) (h2 : (Cond.exactly (.string "Bandworld" k) "java/lang/String").before #[Value.ref b] s = true) : ∃ a, vk_R "Bandworld" k tx a s := by
  obtain ⟨a, c, cA, kA, q1, -⟩ := Cond.exactly_spec (args := #[Value.ref b]) (first := s) (o := none) (s := s) (idx := []) (t := .string "Bandworld" k) (cls := "java/lang/String") h2
  exact ⟨a, vk_R.of h1 q1⟩
theorem st_S {s : State} {b : Nat} (hts : ∀ w ∈ lw_tbl, w.before #[Value.ref b] s = true) (hn : ∀ w ∈ nrw, w.before #[Value.ref b] s = true) : ∀ z ∈ strX, ∃ a, vk_R "Bandworld" z.1 z.2 a s := by
  exact List.forall_mem_cons.mpr ⟨st_R (k := 357) (tx := "there is no such number") (hts _ (List.mem_append_right _ (List.mem_of_getElem? (i := 465) (by decide +kernel)))) (hn (Cond.exactly (.string "Bandworld" 357) "java/lang/String") (by decide +kernel)), List.forall_mem_cons.mpr ⟨st_R (k := 359) (tx := "a number is out of range") (hts _ (List.mem_append_right _ (List.mem_of_getElem? (i := 481) (by decide +kernel)))) (hn (Cond.exactly (.string "Bandworld" 359) "java/lang/String") (by decide +kernel)), List.forall_mem_cons.mpr ⟨st_R (k := 75) (tx := "there is no ice of this vapour") (hts _ (List.mem_append_right _ (List.mem_of_getElem? (i := 545) (by decide +kernel)))) (hn (Cond.exactly (.string "Bandworld" 75) "java/lang/String") (by decide +kernel)), List.forall_mem_cons.mpr ⟨st_R (k := 113) (tx := "both belts are no neighbours") (hts _ (List.mem_append_right _ (List.mem_of_getElem? (i := 621) (by decide +kernel)))) (hn (Cond.exactly (.string "Bandworld" 113) "java/lang/String") (by decide +kernel)), List.forall_mem_cons.mpr ⟨st_R (k := 365) (tx := "there is no room for another one") (hts _ (List.mem_append_right _ (List.mem_of_getElem? (i := 652) (by decide +kernel)))) (hn (Cond.exactly (.string "Bandworld" 365) "java/lang/String") (by decide +kernel)), List.forall_mem_cons.mpr ⟨st_R (k := 361) (tx := "there is no such name") (hts _ (List.mem_append_right _ (List.mem_of_getElem? (i := 679) (by decide +kernel)))) (hn (Cond.exactly (.string "Bandworld" 361) "java/lang/String") (by decide +kernel)), List.forall_mem_cons.mpr ⟨st_R (k := 158) (tx := "the storm is gone, or another one has the name") (hts _ (List.mem_append_right _ (List.mem_of_getElem? (i := 690) (by decide +kernel)))) (hn (Cond.exactly (.string "Bandworld" 158) "java/lang/String") (by decide +kernel)), List.forall_mem_cons.mpr ⟨st_R (k := 165) (tx := "no storm that is there has the name") (hts _ (List.mem_append_right _ (List.mem_of_getElem? (i := 704) (by decide +kernel)))) (hn (Cond.exactly (.string "Bandworld" 165) "java/lang/String") (by decide +kernel)), List.forall_mem_cons.mpr ⟨st_R (k := 353) (tx := "the storm is gone") (hts _ (List.mem_append_right _ (List.mem_of_getElem? (i := 716) (by decide +kernel)))) (hn (Cond.exactly (.string "Bandworld" 353) "java/lang/String") (by decide +kernel)), List.forall_mem_cons.mpr ⟨st_R (k := 182) (tx := "the storm lives on in none that is there") (hts _ (List.mem_append_right _ (List.mem_of_getElem? (i := 749) (by decide +kernel)))) (hn (Cond.exactly (.string "Bandworld" 182) "java/lang/String") (by decide +kernel)), List.forall_mem_cons.mpr ⟨st_R (k := 188) (tx := "the column is not warm enough") (hts _ (List.mem_append_right _ (List.mem_of_getElem? (i := 761) (by decide +kernel)))) (hn (Cond.exactly (.string "Bandworld" 188) "java/lang/String") (by decide +kernel)), List.forall_mem_cons.mpr ⟨st_R (k := 349) (tx := "there is no such probe") (hts _ (List.mem_append_right _ (List.mem_of_getElem? (i := 971) (by decide +kernel)))) (hn (Cond.exactly (.string "Bandworld" 349) "java/lang/String") (by decide +kernel)), List.forall_mem_cons.mpr ⟨st_R (k := 242) (tx := "the probe is dead") (hts _ (List.mem_append_right _ (List.mem_of_getElem? (i := 972) (by decide +kernel)))) (hn (Cond.exactly (.string "Bandworld" 242) "java/lang/String") (by decide +kernel)), List.forall_mem_cons.mpr ⟨st_R (k := 253) (tx := "a record has no such thing") (hts _ (List.mem_append_right _ (List.mem_of_getElem? (i := 1008) (by decide +kernel)))) (hn (Cond.exactly (.string "Bandworld" 253) "java/lang/String") (by decide +kernel)), List.forall_mem_cons.mpr ⟨st_R (k := 255) (tx := "there is no such record") (hts _ (List.mem_append_right _ (List.mem_of_getElem? (i := 1009) (by decide +kernel)))) (hn (Cond.exactly (.string "Bandworld" 255) "java/lang/String") (by decide +kernel)), List.forall_mem_cons.mpr ⟨st_R (k := 351) (tx := "there is no such frame") (hts _ (List.mem_append_right _ (List.mem_of_getElem? (i := 1060) (by decide +kernel)))) (hn (Cond.exactly (.string "Bandworld" 351) "java/lang/String") (by decide +kernel)), List.forall_mem_cons.mpr ⟨st_R (k := 286) (tx := "the frame does not have the name") (hts _ (List.mem_append_right _ (List.mem_of_getElem? (i := 1072) (by decide +kernel)))) (hn (Cond.exactly (.string "Bandworld" 286) "java/lang/String") (by decide +kernel)), List.forall_mem_cons.mpr ⟨st_R (k := 291) (tx := "a frame does not have the name, or no turn is between") (hts _ (List.mem_append_right _ (List.mem_of_getElem? (i := 1080) (by decide +kernel)))) (hn (Cond.exactly (.string "Bandworld" 291) "java/lang/String") (by decide +kernel)), List.forall_mem_cons.mpr ⟨st_R (k := 309) (tx := "there is no such save") (hts _ (List.mem_append_right _ (List.mem_of_getElem? (i := 1096) (by decide +kernel)))) (hn (Cond.exactly (.string "Bandworld" 309) "java/lang/String") (by decide +kernel)), List.forall_mem_cons.mpr ⟨st_R (k := 355) (tx := "there is no such happening") (hts _ (List.mem_append_right _ (List.mem_of_getElem? (i := 1108) (by decide +kernel)))) (hn (Cond.exactly (.string "Bandworld" 355) "java/lang/String") (by decide +kernel)), List.forall_mem_cons.mpr ⟨st_R (k := 324) (tx := "there were no storms") (hts _ (List.mem_append_right _ (List.mem_of_getElem? (i := 1138) (by decide +kernel)))) (hn (Cond.exactly (.string "Bandworld" 324) "java/lang/String") (by decide +kernel)), fun _ h => absurd h List.not_mem_nil⟩⟩⟩⟩⟩⟩⟩⟩⟩⟩⟩⟩⟩⟩⟩⟩⟩⟩⟩⟩⟩
theorem st_N {s : State} {b : Nat} (hts : ∀ w ∈ lw_tbl, w.before #[Value.ref b] s = true) (hn : ∀ w ∈ nrw, w.before #[Value.ref b] s = true) : KN s := by
  refine ⟨List.forall_mem_cons.mpr ⟨va_any rfl (hts _ (List.mem_append_right _ (List.mem_of_getElem? (i := 1546) (by decide +kernel)))), List.forall_mem_cons.mpr ⟨va_any rfl (hts _ (List.mem_append_right _ (List.mem_of_getElem? (i := 1536) (by decide +kernel)))), List.forall_mem_cons.mpr ⟨va_any rfl (hts _ (List.mem_append_right _ (List.mem_of_getElem? (i := 1975) (by decide +kernel)))), fun _ h => absurd h List.not_mem_nil⟩⟩⟩, va_Dc.of (A := #[Value.ref b]) (hts _ (List.mem_append_right _ (List.mem_of_getElem? (i := 2068) (by decide +kernel)))), va_Mi.of (args := #[Value.ref b]) (hn (Cond.isRef (.mirror "[Ljava/lang/Object;")) (by decide +kernel))⟩
theorem st_KK {s : State} {b : Nat} (hts : ∀ w ∈ lw_tbl, w.before #[Value.ref b] s = true) (hn : ∀ w ∈ nrw, w.before #[Value.ref b] s = true) : ∃ (D : va_G) (tc : Nat → ClassId), KK D tc s := by
  have hU := st_W hts
  obtain ⟨D, hD⟩ := st_K hU
  obtain ⟨tc, hT⟩ := st_T hts
  exact ⟨D, tc, hU, ⟨hD, hT⟩, List.forall_mem_cons.mpr ⟨va_AO.of (A := #[Value.ref b]) (hts _ (List.mem_append_right _ (List.mem_of_getElem? (i := 223) (by decide +kernel)))), List.forall_mem_cons.mpr ⟨va_AO.of (A := #[Value.ref b]) (hts _ (List.mem_append_right _ (List.mem_of_getElem? (i := 225) (by decide +kernel)))), List.forall_mem_cons.mpr ⟨va_AO.of (A := #[Value.ref b]) (hts _ (List.mem_append_right _ (List.mem_of_getElem? (i := 227) (by decide +kernel)))), List.forall_mem_cons.mpr ⟨va_AO.of (A := #[Value.ref b]) (hts _ (List.mem_append_right _ (List.mem_of_getElem? (i := 1541) (by decide +kernel)))), fun _ h => absurd h List.not_mem_nil⟩⟩⟩⟩, List.forall_mem_cons.mpr ⟨(show (Cond.arrayClass .int).before #[Value.ref b] s = true from (hts _ (List.mem_append_right _ (List.mem_of_getElem? (i := 92) (by decide +kernel))))), List.forall_mem_cons.mpr ⟨(show (Cond.arrayClass .boolean).before #[Value.ref b] s = true from (hts _ (List.mem_append_right _ (List.mem_of_getElem? (i := 157) (by decide +kernel))))), List.forall_mem_cons.mpr ⟨(show (Cond.arrayClass .char).before #[Value.ref b] s = true from (hts _ (List.mem_append_right _ (List.mem_of_getElem? (i := 156) (by decide +kernel))))), List.forall_mem_cons.mpr ⟨(show (Cond.arrayClass .long).before #[Value.ref b] s = true from (hts _ (List.mem_append_right _ (List.mem_of_getElem? (i := 256) (by decide +kernel))))), List.forall_mem_cons.mpr ⟨(show (Cond.arrayClass .double).before #[Value.ref b] s = true from (hts _ (List.mem_append_right _ (List.mem_of_getElem? (i := 2038) (by decide +kernel))))), fun _ h => absurd h List.not_mem_nil⟩⟩⟩⟩⟩, (show (Cond.arrayOver (.array .int)).before #[Value.ref b] s = true from (hts _ (List.mem_append_right _ (List.mem_of_getElem? (i := 60) (by decide +kernel))))), st_S hts hn, st_N hts hn⟩
set_option maxHeartbeats 4000000 in
theorem st_ST {s : State} {b : Nat} (hts : ∀ w ∈ lw_tbl, w.before #[Value.ref b] s = true) (hn : ∀ w ∈ nrw, w.before #[Value.ref b] s = true) : ∃ sa : Nat → Nat, ST s.heap.size sa s s.heap := by
  have hA : ∀ a : Nat, a < s.heap.size → ¬ old s.heap.size a := fun a h z => absurd z (Nat.not_le.mpr h)
  have x0e : ∀ j : Nat, j < 12 → (Term.elem (.static "Bandworld$Belts" "WIDTHS" "[I") (.int (Int32.ofNat j))).eval #[Value.ref b] s none [] s = some (.int (fWid j)) := by
    intro j hj
    rcases (show j = 0 ∨ j = 1 ∨ j = 2 ∨ j = 3 ∨ j = 4 ∨ j = 5 ∨ j = 6 ∨ j = 7 ∨ j = 8 ∨ j = 9 ∨ j = 10 ∨ j = 11 by omega) with rfl | rfl | rfl | rfl | rfl | rfl | rfl | rfl | rfl | rfl | rfl | rfl
    · exact va_eqt (hn (Cond.eq (.elem (.static "Bandworld$Belts" "WIDTHS" "[I") (.int 0)) (.int 2)) (by decide +kernel))
    · exact va_eqt (hn (Cond.eq (.elem (.static "Bandworld$Belts" "WIDTHS" "[I") (.int 1)) (.int 4)) (by decide +kernel))
    · exact va_eqt (hn (Cond.eq (.elem (.static "Bandworld$Belts" "WIDTHS" "[I") (.int 2)) (.int 6)) (by decide +kernel))
    · exact va_eqt (hn (Cond.eq (.elem (.static "Bandworld$Belts" "WIDTHS" "[I") (.int 3)) (.int 8)) (by decide +kernel))
    · exact va_eqt (hn (Cond.eq (.elem (.static "Bandworld$Belts" "WIDTHS" "[I") (.int 4)) (.int 9)) (by decide +kernel))
    · exact va_eqt (hn (Cond.eq (.elem (.static "Bandworld$Belts" "WIDTHS" "[I") (.int 5)) (.int 10)) (by decide +kernel))
    · exact va_eqt (hn (Cond.eq (.elem (.static "Bandworld$Belts" "WIDTHS" "[I") (.int 6)) (.int 10)) (by decide +kernel))
    · exact va_eqt (hn (Cond.eq (.elem (.static "Bandworld$Belts" "WIDTHS" "[I") (.int 7)) (.int 9)) (by decide +kernel))
    · exact va_eqt (hn (Cond.eq (.elem (.static "Bandworld$Belts" "WIDTHS" "[I") (.int 8)) (.int 8)) (by decide +kernel))
    · exact va_eqt (hn (Cond.eq (.elem (.static "Bandworld$Belts" "WIDTHS" "[I") (.int 9)) (.int 6)) (by decide +kernel))
    · exact va_eqt (hn (Cond.eq (.elem (.static "Bandworld$Belts" "WIDTHS" "[I") (.int 10)) (.int 4)) (by decide +kernel))
    · exact va_eqt (hn (Cond.eq (.elem (.static "Bandworld$Belts" "WIDTHS" "[I") (.int 11)) (.int 2)) (by decide +kernel))
  obtain ⟨x0, x0v, x0t⟩ := va_Tof (args := #[Value.ref b]) (s := s) (tm := (.static "Bandworld$Belts" "WIDTHS" "[I")) (ty := .int) (N := 12) (f := fun j => .int (fWid j)) (A := old s.heap.size) (by decide) (hn (Cond.arrayOf (.static "Bandworld$Belts" "WIDTHS" "[I") .int) (by decide +kernel)) (va_eqt (hn (Cond.eq (.length (.static "Bandworld$Belts" "WIDTHS" "[I")) (.int 12)) (by decide +kernel))) x0e hA
  have x0z := va_Zof (A := old s.heap.size) (show (Cond.laysStatic "Bandworld$Belts" "WIDTHS" "[I").before #[Value.ref b] s = true from (hts _ (List.mem_append_right _ (List.mem_of_getElem? (i := 311) (by decide +kernel))))) (show (Cond.initialized "Bandworld$Belts").before #[Value.ref b] s = true from (hts _ (List.mem_append_right _ (List.mem_of_getElem? (i := 4) (by decide +kernel))))) x0v hA
  have x1e : ∀ j : Nat, j < 3 → (Term.elem (.static "Bandworld$Column" "HELD_BY_DEGREE" "[I") (.int (Int32.ofNat j))).eval #[Value.ref b] s none [] s = some (.int (fHel j)) := by
    intro j hj
    rcases (show j = 0 ∨ j = 1 ∨ j = 2 by omega) with rfl | rfl | rfl
    · exact va_eqt (hn (Cond.eq (.elem (.static "Bandworld$Column" "HELD_BY_DEGREE" "[I") (.int 0)) (.int 40)) (by decide +kernel))
    · exact va_eqt (hn (Cond.eq (.elem (.static "Bandworld$Column" "HELD_BY_DEGREE" "[I") (.int 1)) (.int 60)) (by decide +kernel))
    · exact va_eqt (hn (Cond.eq (.elem (.static "Bandworld$Column" "HELD_BY_DEGREE" "[I") (.int 2)) (.int 90)) (by decide +kernel))
  obtain ⟨x1, x1v, x1t⟩ := va_Tof (args := #[Value.ref b]) (s := s) (tm := (.static "Bandworld$Column" "HELD_BY_DEGREE" "[I")) (ty := .int) (N := 3) (f := fun j => .int (fHel j)) (A := old s.heap.size) (by decide) (hn (Cond.arrayOf (.static "Bandworld$Column" "HELD_BY_DEGREE" "[I") .int) (by decide +kernel)) (va_eqt (hn (Cond.eq (.length (.static "Bandworld$Column" "HELD_BY_DEGREE" "[I")) (.int 3)) (by decide +kernel))) x1e hA
  have x1z := va_Zof (A := old s.heap.size) (show (Cond.laysStatic "Bandworld$Column" "HELD_BY_DEGREE" "[I").before #[Value.ref b] s = true from (hts _ (List.mem_append_right _ (List.mem_of_getElem? (i := 826) (by decide +kernel))))) (show (Cond.initialized "Bandworld$Column").before #[Value.ref b] s = true from (hts _ (List.mem_append_right _ (List.mem_of_getElem? (i := 3) (by decide +kernel))))) x1v hA
  have x2e : ∀ j : Nat, j < 3 → (Term.elem (.static "Bandworld$Column" "FREEZING" "[I") (.int (Int32.ofNat j))).eval #[Value.ref b] s none [] s = some (.int (fFre j)) := by
    intro j hj
    rcases (show j = 0 ∨ j = 1 ∨ j = 2 by omega) with rfl | rfl | rfl
    · exact va_eqt (hn (Cond.eq (.elem (.static "Bandworld$Column" "FREEZING" "[I") (.int 0)) (.int 120)) (by decide +kernel))
    · exact va_eqt (hn (Cond.eq (.elem (.static "Bandworld$Column" "FREEZING" "[I") (.int 1)) (.int 180)) (by decide +kernel))
    · exact va_eqt (hn (Cond.eq (.elem (.static "Bandworld$Column" "FREEZING" "[I") (.int 2)) (.int 240)) (by decide +kernel))
  obtain ⟨x2, x2v, x2t⟩ := va_Tof (args := #[Value.ref b]) (s := s) (tm := (.static "Bandworld$Column" "FREEZING" "[I")) (ty := .int) (N := 3) (f := fun j => .int (fFre j)) (A := old s.heap.size) (by decide) (hn (Cond.arrayOf (.static "Bandworld$Column" "FREEZING" "[I") .int) (by decide +kernel)) (va_eqt (hn (Cond.eq (.length (.static "Bandworld$Column" "FREEZING" "[I")) (.int 3)) (by decide +kernel))) x2e hA
  have x2z := va_Zof (A := old s.heap.size) (show (Cond.laysStatic "Bandworld$Column" "FREEZING" "[I").before #[Value.ref b] s = true from (hts _ (List.mem_append_right _ (List.mem_of_getElem? (i := 823) (by decide +kernel))))) (show (Cond.initialized "Bandworld$Column").before #[Value.ref b] s = true from (hts _ (List.mem_append_right _ (List.mem_of_getElem? (i := 3) (by decide +kernel))))) x2v hA
  have u1 := vx_Zqof (args := #[Value.ref b]) (s := s) (C := "java/lang/Throwable") (n := "UNASSIGNED_STACK") (d := "[Ljava/lang/StackTraceElement;") (A := old s.heap.size) (hts _ (List.mem_append_right _ (List.mem_of_getElem? (i := 386) (by decide +kernel)))) (hts _ (List.mem_append_right _ (List.mem_of_getElem? (i := 13) (by decide +kernel)))) (hn (Cond.isRef (.static "java/lang/Throwable" "UNASSIGNED_STACK" "[Ljava/lang/StackTraceElement;")) (by decide +kernel)) hA
  have u2 := vx_Zqof (args := #[Value.ref b]) (s := s) (C := "java/lang/Throwable") (n := "SUPPRESSED_SENTINEL") (d := "Ljava/util/List;") (A := old s.heap.size) (hts _ (List.mem_append_right _ (List.mem_of_getElem? (i := 388) (by decide +kernel)))) (hts _ (List.mem_append_right _ (List.mem_of_getElem? (i := 13) (by decide +kernel)))) (hn (Cond.isRef (.static "java/lang/Throwable" "SUPPRESSED_SENTINEL" "Ljava/util/List;")) (by decide +kernel)) hA
  obtain ⟨x3, x3v, x3t⟩ := va_Tof (args := #[Value.ref b]) (s := s) (tm := (.static "java/util/ArrayList" "DEFAULTCAPACITY_EMPTY_ELEMENTDATA" "[Ljava/lang/Object;")) (ty := .object "java/lang/Object") (N := 0) (f := fun _ => .null) (A := old s.heap.size) (by decide) (hn (Cond.arrayOf (.static "java/util/ArrayList" "DEFAULTCAPACITY_EMPTY_ELEMENTDATA" "[Ljava/lang/Object;") (.object "java/lang/Object")) (by decide +kernel)) (va_eqt (hn (Cond.eq (.length (.static "java/util/ArrayList" "DEFAULTCAPACITY_EMPTY_ELEMENTDATA" "[Ljava/lang/Object;")) (.int 0)) (by decide +kernel))) (fun j hj => absurd hj (Nat.not_lt_zero _)) hA
  have x3o := va_Oof (A := old s.heap.size) (hn (Cond.exactly (.static "java/util/ArrayList" "DEFAULTCAPACITY_EMPTY_ELEMENTDATA" "[Ljava/lang/Object;") "[Ljava/lang/Object;") (by decide +kernel)) x3v hA
  have x3z := va_Zof (A := old s.heap.size) (show (Cond.laysStatic "java/util/ArrayList" "DEFAULTCAPACITY_EMPTY_ELEMENTDATA" "[Ljava/lang/Object;").before #[Value.ref b] s = true from (hts _ (List.mem_append_right _ (List.mem_of_getElem? (i := 1174) (by decide +kernel))))) (show (Cond.initialized "java/util/ArrayList").before #[Value.ref b] s = true from (hts _ (List.mem_append_right _ (List.mem_of_getElem? (i := 12) (by decide +kernel))))) x3v hA
  have x3l : x3 < s.heap.size := by
    obtain ⟨cell, h1, -⟩ := x3t
    exact (Array.getElem?_eq_some_iff.mp h1).1
  have z1 := va_Zof (A := old s.heap.size) (show (Cond.laysStatic "java/lang/String" "COMPACT_STRINGS" "Z").before #[Value.ref b] s = true from (hts _ (List.mem_append_right _ (List.mem_of_getElem? (i := 1355) (by decide +kernel))))) (show (Cond.initialized "java/lang/String").before #[Value.ref b] s = true from (hts _ (List.mem_append_right _ (List.mem_of_getElem? (i := 18) (by decide +kernel))))) (va_eqi (hn (Cond.eq (.static "java/lang/String" "COMPACT_STRINGS" "Z") (.int 1)) (by decide +kernel))) hA
  have z2 := va_Zqof (args := #[Value.ref b]) (s := s) (C := "jdk/internal/util/Preconditions") (n := "SIOOBE_FORMATTER") (d := "Ljava/util/function/BiFunction;") (A := old s.heap.size) (hts _ (List.mem_append_right _ (List.mem_of_getElem? (i := 1363) (by decide +kernel)))) (hts _ (List.mem_append_right _ (List.mem_of_getElem? (i := 23) (by decide +kernel)))) (hn (Cond.isRef (.static "jdk/internal/util/Preconditions" "SIOOBE_FORMATTER" "Ljava/util/function/BiFunction;")) (by decide +kernel)) hA
  obtain ⟨mi, hmi⟩ := va_Mi.of (args := #[Value.ref b]) (s := s) (hn (Cond.isRef (.mirror "[Ljava/lang/Object;")) (by decide +kernel))
  obtain ⟨tm, tm0, tm1⟩ : ∃ tm : Nat → Term, tm 0 = .string "BandworldModel" 17 ∧ tm 1 = .string "BandworldModel" 263 := ⟨(fun i => if i = 0 then .string "BandworldModel" 17 else .string "BandworldModel" 263), rfl, rfl⟩
  have q4 : ∀ i : Nat, i < 2 → ∀ j : Nat, j < [6, 3].getD i 0 → (Cond.eq (.elem (.field (tm i) "java/lang/String" "value" "[B") (.int (Int32.ofNat j))) (.int (([[50, 52, 54, 56, 57, 57], [108, 116, 105]].getD i []).getD j 0))).before #[Value.ref b] s = true := by
    intro i hi j hj
    rcases (show i = 0 ∨ i = 1 by omega) with rfl | rfl
    · rw [tm0]
      have hj : j < 6 := hj
      rcases (show j = 0 ∨ j = 1 ∨ j = 2 ∨ j = 3 ∨ j = 4 ∨ j = 5 by omega) with rfl | rfl | rfl | rfl | rfl | rfl
      · exact hn (Cond.eq (.elem (.field (.string "BandworldModel" 17) "java/lang/String" "value" "[B") (.int 0)) (.int 50)) (by decide +kernel)
      · exact hn (Cond.eq (.elem (.field (.string "BandworldModel" 17) "java/lang/String" "value" "[B") (.int 1)) (.int 52)) (by decide +kernel)
      · exact hn (Cond.eq (.elem (.field (.string "BandworldModel" 17) "java/lang/String" "value" "[B") (.int 2)) (.int 54)) (by decide +kernel)
      · exact hn (Cond.eq (.elem (.field (.string "BandworldModel" 17) "java/lang/String" "value" "[B") (.int 3)) (.int 56)) (by decide +kernel)
      · exact hn (Cond.eq (.elem (.field (.string "BandworldModel" 17) "java/lang/String" "value" "[B") (.int 4)) (.int 57)) (by decide +kernel)
      · exact hn (Cond.eq (.elem (.field (.string "BandworldModel" 17) "java/lang/String" "value" "[B") (.int 5)) (.int 57)) (by decide +kernel)
    · rw [tm1]
      have hj : j < 3 := hj
      rcases (show j = 0 ∨ j = 1 ∨ j = 2 by omega) with rfl | rfl | rfl
      · exact hn (Cond.eq (.elem (.field (.string "BandworldModel" 263) "java/lang/String" "value" "[B") (.int 0)) (.int 108)) (by decide +kernel)
      · exact hn (Cond.eq (.elem (.field (.string "BandworldModel" 263) "java/lang/String" "value" "[B") (.int 1)) (.int 116)) (by decide +kernel)
      · exact hn (Cond.eq (.elem (.field (.string "BandworldModel" 263) "java/lang/String" "value" "[B") (.int 2)) (.int 105)) (by decide +kernel)
  obtain ⟨aK, aV, hS2, hSe⟩ := vk_Sof (args := #[Value.ref b]) (s := s) (N := 2) (tm := tm) (len := [6, 3]) (byt := [[50, 52, 54, 56, 57, 57], [108, 116, 105]]) (A := old s.heap.size) (fun i hi => by
    rcases (show i = 0 ∨ i = 1 by omega) with rfl | rfl <;> decide) (fun i hi => by
    rcases (show i = 0 ∨ i = 1 by omega) with rfl | rfl
    · rw [tm0]
      exact hn (Cond.exactly (.string "BandworldModel" 17) "java/lang/String") (by decide +kernel)
    · rw [tm1]
      exact hn (Cond.exactly (.string "BandworldModel" 263) "java/lang/String") (by decide +kernel)) (fun i hi => by
    rcases (show i = 0 ∨ i = 1 by omega) with rfl | rfl
    · rw [tm0]
      exact hn (Cond.eq (.field (.string "BandworldModel" 17) "java/lang/String" "coder" "B") (.int 0)) (by decide +kernel)
    · rw [tm1]
      exact hn (Cond.eq (.field (.string "BandworldModel" 263) "java/lang/String" "coder" "B") (.int 0)) (by decide +kernel)) (fun i hi => by
    rcases (show i = 0 ∨ i = 1 by omega) with rfl | rfl
    · rw [tm0]
      exact hn (Cond.arrayOf (.field (.string "BandworldModel" 17) "java/lang/String" "value" "[B") .byte) (by decide +kernel)
    · rw [tm1]
      exact hn (Cond.arrayOf (.field (.string "BandworldModel" 263) "java/lang/String" "value" "[B") .byte) (by decide +kernel)) (fun i hi => by
    rcases (show i = 0 ∨ i = 1 by omega) with rfl | rfl
    · rw [tm0]
      exact hn (Cond.eq (.length (.field (.string "BandworldModel" 17) "java/lang/String" "value" "[B")) (.int 6)) (by decide +kernel)
    · rw [tm1]
      exact hn (Cond.eq (.length (.field (.string "BandworldModel" 263) "java/lang/String" "value" "[B")) (.int 3)) (by decide +kernel)) q4 (fun i j hi hj hij => by
    rcases (show i = 0 ∨ i = 1 by omega) with rfl | rfl
    · rcases (show j = 1 by omega) with rfl
      rw [tm0, tm1]
      exact Or.inl (hn (Cond.not (Cond.eq (.string "BandworldModel" 17) (.string "BandworldModel" 263))) (by decide +kernel))
    · rcases (show j = 0 by omega) with rfl
      rw [tm0, tm1]
      exact Or.inr (hn (Cond.not (Cond.eq (.string "BandworldModel" 17) (.string "BandworldModel" 263))) (by decide +kernel))) hA
  refine ⟨fun k => match k with | 0 => x0 | 1 => x1 | 2 => x2 | 3 => x3 | 10 => aK 0 | 11 => aK 1 | 20 => aV 0 | 21 => aV 1 | _ => mi, x0z, x0t, x1z, x1t, x2z, x2t, u1, u2, x3z, x3l, x3t, x3o, ⟨fun i hi => ?_, fun i j hi hj e => ?_⟩, vk_R.of (A := #[Value.ref b]) (hts _ (List.mem_append_right _ (List.mem_of_getElem? (i := 1345) (by decide +kernel)))) ?_, vk_R.of (A := #[Value.ref b]) (hts _ (List.mem_append_right _ (List.mem_of_getElem? (i := 1833) (by decide +kernel)))) ?_, z1, z2, hmi⟩
  · rcases (show i = 0 ∨ i = 1 by omega) with rfl | rfl
    · exact hS2.1 0 (by decide)
    · exact hS2.1 1 (by decide)
  · rcases (show (i = 0 ∧ j = 0) ∨ (i = 0 ∧ j = 1) ∨ (i = 1 ∧ j = 0) ∨ (i = 1 ∧ j = 1) by omega) with ⟨rfl, rfl⟩ | ⟨rfl, rfl⟩ | ⟨rfl, rfl⟩ | ⟨rfl, rfl⟩
    · rfl
    · exact hS2.2 0 1 (by decide) (by decide) e
    · exact hS2.2 1 0 (by decide) (by decide) e
    · rfl
  · have h := hSe 0 (by decide)
    rw [tm0] at h
    exact h
  · have h := hSe 1 (by decide)
    rw [tm1] at h
    exact h
