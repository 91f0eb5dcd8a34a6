theorem an_p {s : State} {args : Array Value} {ty : FieldType} (h : (Cond.arrayClass ty).before args s = true) : ∃ c : ClassId, ArrOfT s c ty ∧ s.vm.findClass ("[" ++ ty.toString) = some c := by
  obtain ⟨c, k, comp, h1, h2, h3⟩ := Cond.arrayClass_spec h
  exact ⟨c, fun n z => ⟨fun _ h => (by cases h), k, h2, comp, h3⟩, h1⟩
theorem an_o {s : State} {args : Array Value} {C0 : String} (h : (Cond.arrayOver (.object C0)).before args s = true) : ∃ c : ClassId, ArrOfT s c (.object C0) ∧ va_RA s c (.object C0) := by
  obtain ⟨comp, c, k, h1, -, h2, h3, h4⟩ := Cond.arrayOver_spec h
  exact ⟨c, fun n z => ⟨fun _ h => (by cases h), k, h2, comp, h3⟩, k, comp, h2, h3, h1, h4⟩
theorem an_a {s : State} {args : Array Value} {t : FieldType} (h : (Cond.arrayOver (.array t)).before args s = true) : ∃ c : ClassId, ArrOfT s c (.array t) ∧ s.vm.findClass ("[" ++ (FieldType.array t).toString) = some c := by
  obtain ⟨comp, c, k, h1, -, h2, h3, h4⟩ := arrayOverA_spec h
  exact ⟨c, fun n z => ⟨fun _ h => (by cases h), k, h2, comp, h3⟩, h4⟩
/-- the arrays' half of what the tables say -/
theorem ka_all {s : State} {args : Array Value} (hts : ∀ w ∈ lw_tbl, w.before args s = true) : ∃ dA : Nat → ClassId, (∀ (k : Nat) (q : ClassId × FieldType), (tys_m dA)[k]? = some q → ArrOfT s q.1 q.2 ∧ va_RA s q.1 q.2) ∧ ao_m dA s := by
  have w3 := hts (.arrayOver (.object "FilterBench$Section")) (List.mem_of_getElem? (i := 62) (by first | rfl | decide +kernel))
  have w4 := hts (.arrayOver (.object "FilterBench$Place")) (List.mem_of_getElem? (i := 64) (by first | rfl | decide +kernel))
  have w5 := hts (.arrayOver (.object "FilterBench$Signal")) (List.mem_of_getElem? (i := 195) (by first | rfl | decide +kernel))
  have w6 := hts (.arrayOver (.array .long)) (List.mem_of_getElem? (i := 135) (by first | rfl | decide +kernel))
  have w7 := hts (.arrayOver (.array .int)) (List.mem_of_getElem? (i := 137) (by first | rfl | decide +kernel))
  obtain ⟨c0, a0, b0⟩ := an_p (hts (.arrayClass .int) (List.mem_filter.mp (bw_2 0 .int (by omega) rfl)).1)
  obtain ⟨c1, a1, b1⟩ := an_p (hts (.arrayClass .long) (List.mem_filter.mp (bw_2 1 .long (by omega) rfl)).1)
  obtain ⟨c2, a2, b2⟩ := an_p (hts (.arrayClass .boolean) (List.mem_filter.mp (bw_2 2 .boolean (by omega) rfl)).1)
  obtain ⟨c3, a3, b3⟩ := an_o w3
  obtain ⟨c4, a4, b4⟩ := an_o w4
  obtain ⟨c5, a5, b5⟩ := an_o w5
  obtain ⟨c6, a6, b6⟩ := an_a w6
  obtain ⟨c7, a7, b7⟩ := an_a w7
  refine ⟨fun t => [c0, c1, c2, c3, c4, c5, c6, c7].getD t c0, ?_, ?_, ?_, ?_⟩
  · intro k q hk
    match k, hk with
    | 0, hk => cases hk; exact ⟨a0, b0⟩
    | 1, hk => cases hk; exact ⟨a1, b1⟩
    | 2, hk => cases hk; exact ⟨a2, b2⟩
    | 3, hk => cases hk; exact ⟨a3, b3⟩
    | 4, hk => cases hk; exact ⟨a4, b4⟩
    | 5, hk => cases hk; exact ⟨a5, b5⟩
    | 6, hk => cases hk; exact ⟨a6, b6⟩
    | 7, hk => cases hk; exact ⟨a7, b7⟩
    | n + 8, hk => cases hk
  · intro t C0 h1 h2 h3
    rcases (show t = 3 ∨ t = 4 ∨ t = 5 by omega) with rfl | rfl | rfl
    · cases h3; exact va_AO.of w3
    · cases h3; exact va_AO.of w4
    · cases h3; exact va_AO.of w5
  · exact ra_m.of w6 b6 b1
  · exact ra_m.of w7 b7 b0
/-- what the law begins with -/
theorem lw_begin {p : Program} {s : State} {m : MethodId} {meth : Method} {c : Code} {b L : Nat} {xs : Nat → Int32} (C0 : lw_At p s m meth c b L xs) : ∃ (D : va_G) (dA : Nat → ClassId), cx_m lt_m D dA 9 p s m #[Value.ref b] meth c ∧ ao_m dA s := by
  obtain ⟨D, hD⟩ := kn_all (s := s) (args := #[Value.ref b]) (fun w hw => C0.2.2.2.2.2.1 w (List.mem_filter.mp hw).1)
  obtain ⟨dA, h1, h2⟩ := ka_all C0.2.2.2.2.2.1
  exact ⟨D, dA, lw_cx C0 ⟨hD, h1⟩, h2⟩
