section ENTER2
theorem st_arr {ty : FieldType} {s : State} {args : Array Value} (h : (Cond.arrayClass ty).before args s = true) : ∃ cA, ArrOfT s cA ty ∧ s.vm.findClass ("[" ++ ty.toString) = some cA := by
  obtain ⟨cA, kA, comp, h1, h2, h3⟩ := Cond.arrayClass_spec h
  exact ⟨cA, fun n z => ⟨fun k h => (by cases h), kA, h2, comp, h3⟩, h1⟩
theorem st_arrA {s : State} {args : Array Value} (h : (Cond.arrayOver (.array .int)).before args s = true) : ∃ cA, ArrOfT s cA (.array .int) ∧ s.vm.findClass ("[" ++ (FieldType.array .int).toString) = some cA := by
  obtain ⟨comp, cA, kA, h0, -, h1, h2, h3⟩ := arrayOverA_spec h
  exact ⟨cA, fun n z => ⟨fun k h => (by cases h), kA, h1, comp, h2⟩, h3⟩
theorem st_arrO {s : State} {args : Array Value} (h : (Cond.arrayOver (.object "ProcessMiner$Log")).before args s = true) : ∃ cA, ArrOfT s cA (.object "ProcessMiner$Log") ∧ va_RA s cA (.object "ProcessMiner$Log") := by
  obtain ⟨comp, cA, kA, h0, h1, h2, h3, h4⟩ := Cond.arrayOver_spec h
  exact ⟨cA, fun n z => ⟨fun k h => (by cases h), kA, h2, comp, h3⟩, kA, comp, h2, h3, h0, h4⟩
theorem st_K {s : State} {b : Nat} (hts : ∀ w ∈ lw_tbl, w.before #[Value.ref b] s = true) (htw : ∀ w ∈ wG, w.before #[Value.ref b] s = true) : ∃ E : En, va_K E.1 vwCl (tyE E) s := by
  obtain ⟨c0, i0, h0⟩ := u_known (n := 13) htw inX0 (hts (.instantiable "ProcessMiner$Log" 13) (by decide +kernel))
  obtain ⟨c1, i1, h1⟩ := u_known (n := 4) htw inX1 (hts (.instantiable "ProcessMiner$Matcher" 4) (by decide +kernel))
  obtain ⟨c2, i2, h2⟩ := u_known (n := 7) htw inX2 (hts (.instantiable "ProcessMiner$Tree" 7) (by decide +kernel))
  obtain ⟨c3, i3, h3⟩ := u_known (n := 10) htw inX3 (hts (.instantiable "ProcessMiner" 10) (by decide +kernel))
  obtain ⟨c4, i4, h4⟩ := u_known (n := 13) htw inX4 (hts (.instantiable "ProcessMinerModel" 13) (by decide +kernel))
  obtain ⟨a0, g0, f0⟩ := st_arr (hts (.arrayClass .int) (by decide +kernel))
  obtain ⟨a1, g1, f1⟩ := st_arr (hts (.arrayClass .long) (by decide +kernel))
  obtain ⟨a2, g2, f2⟩ := st_arr (hts (.arrayClass .double) (by decide +kernel))
  obtain ⟨a3, g3, f3⟩ := st_arrA (hts (.arrayOver (.array .int)) (by decide +kernel))
  obtain ⟨a4, g4, f4⟩ := st_arrO (hts (.arrayOver (.object "ProcessMiner$Log")) (by decide +kernel))
  refine ⟨((fun k => match k with | 0 => c0 | 1 => c1 | 2 => c2 | 3 => c3 | _ => c4, fun k => match k with | 0 => i0 | 1 => i1 | 2 => i2 | 3 => i3 | _ => i4), fun k => match k with | 0 => a0 | 1 => a1 | 2 => a2 | 3 => a3 | _ => a4), ?_, ?_⟩
  · intro k q hq
    match k, hq with
    | 0, hq => cases hq; exact h0
    | 1, hq => cases hq; exact h1
    | 2, hq => cases hq; exact h2
    | 3, hq => cases hq; exact h3
    | 4, hq => cases hq; exact h4
    | k + 5, hq => simp [vwCl] at hq
  · intro k q hq
    match k, hq with
    | 0, hq => cases hq; exact ⟨g0, f0⟩
    | 1, hq => cases hq; exact ⟨g1, f1⟩
    | 2, hq => cases hq; exact ⟨g2, f2⟩
    | 3, hq => cases hq; exact ⟨g3, f3⟩
    | 4, hq => cases hq; exact ⟨g4, f4⟩
    | k + 5, hq => simp [tyE] at hq
end ENTER2
