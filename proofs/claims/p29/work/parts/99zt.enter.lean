section ENTER
theorem st_nw {s : State} {b : Nat} (hts : ∀ w ∈ lw_tbl, w.before #[Value.ref b] s = true) (a : String) (i : Nat) (x : MethodName) (h : String) (hm : Cond.methodLinkNest a i x h ∈ nwG) : va_Nw (.methodLinkNest a i x h) s := by
  have hall : ∀ w ∈ nwG, w ∈ lw_tbl := by decide +kernel
  exact va_Nw.of rfl (hts _ (hall _ hm))
theorem st_nc {s : State} {b : Nat} (hts : ∀ w ∈ lw_tbl, w.before #[Value.ref b] s = true) (q : String × String) (hm : q ∈ ncG) : va_Nw (.castable q.1 q.2) s := by
  have hall : ∀ q ∈ ncG, Cond.castable q.1 q.2 ∈ lw_tbl := by decide +kernel
  exact va_Nw.of rfl (hts _ (hall _ hm))
theorem st_nd {s : State} {b : Nat} (hts : ∀ w ∈ lw_tbl, w.before #[Value.ref b] s = true) (q : MethodName) (hm : q ∈ ndG) : va_Nw (.declares q) s := by
  have hall : ∀ q ∈ ndG, Cond.declares q ∈ lw_tbl := by decide +kernel
  exact va_Nw.of rfl (hts _ (hall _ hm))
theorem st_nn {s : State} (q : String × String) (hm : q ∈ nnG) : va_Nc q.1 q.2 s := absurd hm List.not_mem_nil
theorem st_ao {s : State} {b : Nat} (hts : ∀ w ∈ lw_tbl, w.before #[Value.ref b] s = true) : va_AO "ProcessMiner$Log" s :=
  va_AO.of (hts _ (by decide +kernel))
theorem st_z1 {s : State} {b : Nat} (hts : ∀ w ∈ lw_tbl, w.before #[Value.ref b] s = true) (hgv : (Jvm.Cond.and given_1 narrow_1).before #[Value.ref b] s = true) : vx_Zq Bundle.tN "UNASSIGNED_STACK" Bundle.steD (fun q => s.heap.size ≤ q) s s.heap := by
  have hs := flat_of_before _ hgv
  exact vx_Zqof (hts _ (by decide +kernel)) (hts _ (by decide +kernel)) (hs _ (by decide +kernel)) (fun a h => Nat.not_le.mpr h)
theorem st_z2 {s : State} {b : Nat} (hts : ∀ w ∈ lw_tbl, w.before #[Value.ref b] s = true) (hgv : (Jvm.Cond.and given_1 narrow_1).before #[Value.ref b] s = true) : vx_Zq Bundle.tN "SUPPRESSED_SENTINEL" Bundle.listD (fun q => s.heap.size ≤ q) s s.heap := by
  have hs := flat_of_before _ hgv
  exact vx_Zqof (hts _ (by decide +kernel)) (hts _ (by decide +kernel)) (hs _ (by decide +kernel)) (fun a h => Nat.not_le.mpr h)
end ENTER
section ENTER2
theorem st_arr {ty : FieldType} {s : State} {args : Array Value} (h : (Cond.arrayClass ty).before args s = true) : ∃ cA, ArrOfT s cA ty ∧ s.vm.findClass ("[" ++ ty.toString) = some cA := by
  obtain ⟨cA, kA, comp, h1, h2, h3⟩ := Cond.arrayClass_spec h
  exact ⟨cA, fun n z => ⟨fun k h => (by cases h), kA, h2, comp, h3⟩, h1⟩
theorem st_arrA {s : State} {args : Array Value} (h : (Cond.arrayOver (.array .int)).before args s = true) : ∃ cA, ArrOfT s cA (.array .int) ∧ s.vm.findClass ("[" ++ (FieldType.array .int).toString) = some cA := by
  obtain ⟨comp, cA, kA, h0, -, h1, h2, h3⟩ := arrayOverA_spec h
  exact ⟨cA, fun n z => ⟨fun k h => (by cases h), kA, h1, comp, h2⟩, h3⟩
theorem st_arrO {s : State} {args : Array Value} (h : (Cond.arrayOver (.object "ProcessMiner$Log")).before args s = true) : ∃ cA, ArrOfT s cA (.object "ProcessMiner$Log") ∧ va_RA s cA (.object "ProcessMiner$Log") := by
  obtain ⟨comp, cA, kA, h0, h1, h2, h3, h4⟩ := Cond.arrayOver_spec h
  exact ⟨cA, fun n z => ⟨fun k h => (by cases h), kA, h2, comp, h3⟩, kA, comp, h2, h3, h0, h4⟩
theorem st_K {s : State} {b : Nat} (hts : ∀ w ∈ lw_tbl, w.before #[Value.ref b] s = true) (htw : ∀ w ∈ wG, w.before #[Value.ref b] s = true) : ∃ E : En, va_K E.1 vwCl (tyE E) s := by
  obtain ⟨c0, i0, h0⟩ := u_known (n := 13) htw inX0 (hts (.instantiable "ProcessMiner$Log" 13) (by decide +kernel))
  obtain ⟨c1, i1, h1⟩ := u_known (n := 4) htw inX1 (hts (.instantiable "ProcessMiner$Matcher" 4) (by decide +kernel))
  obtain ⟨c2, i2, h2⟩ := u_known (n := 7) htw inX2 (hts (.instantiable "ProcessMiner$Tree" 7) (by decide +kernel))
  obtain ⟨c3, i3, h3⟩ := u_known (n := 10) htw inX3 (hts (.instantiable "ProcessMiner" 10) (by decide +kernel))
  obtain ⟨a0, g0, f0⟩ := st_arr (hts (.arrayClass .int) (by decide +kernel))
  obtain ⟨a3, g3, f3⟩ := st_arrA (hts (.arrayOver (.array .int)) (by decide +kernel))
  obtain ⟨a4, g4, f4⟩ := st_arrO (hts (.arrayOver (.object "ProcessMiner$Log")) (by decide +kernel))
  refine ⟨((fun k => match k with | 0 => c0 | 1 => c1 | 2 => c2 | _ => c3, fun k => match k with | 0 => i0 | 1 => i1 | 2 => i2 | _ => i3), fun k => match k with | 0 => a0 | 1 => a0 | 2 => a0 | 3 => a3 | _ => a4), ?_, ?_⟩
  · intro k q hq
    match k, hq with
    | 0, hq => cases hq; exact h0
    | 1, hq => cases hq; exact h1
    | 2, hq => cases hq; exact h2
    | 3, hq => cases hq; exact h3
    | k + 4, hq => simp [vwCl] at hq
  · intro k q hq
    match k, hq with
    | 0, hq => cases hq; exact ⟨g0, f0⟩
    | 1, hq => cases hq; exact ⟨g0, f0⟩
    | 2, hq => cases hq; exact ⟨g0, f0⟩
    | 3, hq => cases hq; exact ⟨g3, f3⟩
    | 4, hq => cases hq; exact ⟨g4, f4⟩
    | k + 5, hq => simp [tyE] at hq
end ENTER2
section ENTER3
theorem st_exr {t : Term} {C : String} {args : Array Value} {s : State} (h : (Cond.exactly t C).before args s = true) : ∃ a, t.eval args s none [] s = some (.ref a) := by
  simp only [Cond.before, Cond.holds, Cond.value] at h
  cases e : t.eval args s none [] s with
  | none => rw [e] at h; simp at h
  | some v =>
    rw [e] at h
    cases v with
    | ref a => exact ⟨a, rfl⟩
    | _ =>
      cases hc : s.vm.findClass C with
      | none => rw [hc] at h; simp at h
      | some c => rw [hc] at h; simp at h
theorem st_ns {s : State} {b : Nat} (hts : ∀ w ∈ lw_tbl, w.before #[Value.ref b] s = true) (hgv : (Jvm.Cond.and given_1 narrow_1).before #[Value.ref b] s = true) (q : Nat × String) (hm : q ∈ nsG) : ∃ sa, vk_R "ProcessMiner" q.1 q.2 sa s := by
  have hs := flat_of_before _ hgv
  have h1 : ∀ q ∈ nsG, Cond.stringRef "ProcessMiner" q.1 q.2 ∈ lw_tbl := by decide +kernel
  have h2 : ∀ q ∈ nsG, Cond.exactly (Term.string "ProcessMiner" q.1) "java/lang/String" ∈ flatC (Jvm.Cond.and given_1 narrow_1) := by decide +kernel
  obtain ⟨a, ha⟩ := st_exr (hs _ (h2 q hm))
  exact ⟨a, vk_R.of (hts _ (h1 q hm)) ha⟩
theorem st_KW {s : State} {b : Nat} (hts : ∀ w ∈ lw_tbl, w.before #[Value.ref b] s = true) (hgv : (Jvm.Cond.and given_1 narrow_1).before #[Value.ref b] s = true) : ∃ E : En, KW E s.heap.size s := by
  obtain ⟨E, hE⟩ := st_K hts (fun w hw => hts w (List.mem_filter.mp hw).1)
  exact ⟨E, hE, fun a i x h hm => st_nw hts a i x h hm, fun q hm => st_nc hts q hm, fun q hm => st_nd hts q hm, fun q hm => st_ns hts hgv q hm, fun q hm => st_nn q hm, st_ao hts, hts (.arrayOver (.array .int)) (by decide +kernel), st_z1 hts hgv, st_z2 hts hgv⟩
end ENTER3
section START
set_option maxHeartbeats 4000000 in
theorem law_entry {p : Program} {e : Env} {s : State} {m : MethodId} {below : List Frame} {meth : Method} {c : Code} (l : Launch) (hflags : l.flags = flags0) {b L : Nat} {xs : Nat → Int32} (hL : L ≤ 260) (hx : p.tables.exec = Jvm.exec) (hb : c.code = code) (hml : c.maxLocals = 10) (hown : s.vm.findClass "ProcessMinerLaw" = some m.cls) (hts : ∀ w ∈ lw_tbl, w.before #[Value.ref b] s = true) (hX : va_X b L xs s s.heap) (hbl : b < s.heap.size) (hlocks : meth.locks = false) (hgv : (Jvm.Cond.and given_1 narrow_1).before #[Value.ref b] s = true) (Q : State → Prop) (hend : ∀ (H : Heap) (locs : List Loc) (ls : Array Slot) (k z : Nat), k ≤ room_1.cells → z ≤ room_1.slots → (∀ q ∈ locs, s.heap.size ≤ q.base) → W p l e room_1 s m #[Value.ref b] below meth c H locs k z Q (F0 m 318 ls [.int (iI ((1 : Nat) : Int))])) : W p l e room_1 s m #[Value.ref b] below meth c s.heap [] 0 0 Q (entryFrame m ([Value.ref b] : List Value).toArray 10) := by
  obtain ⟨E, hK⟩ := st_KW hts hgv
  rw [lg_entry_eq]
  have G : Cx (p, l, e, room_1, s, m, #[Value.ref b], below, meth, c, Q, E, s.heap.size) "ProcessMinerLaw" cL_law 10 2048 room_1.cells room_1.slots := ⟨hx, hb, hml, hown, fun w hw => hts w (List.mem_filter.mp hw).1, hK, hlocks, (by show 2048 ≤ room_1.frames; decide), (by show 81920 ≤ room_1.locals; decide), Nat.le_refl room_1.cells, Nat.le_refl room_1.slots, by unfold Launch.stackTraces; rw [hflags]; decide +kernel, Nat.le_refl _⟩
  refine law_start (n := s.heap.size) G (by decide) hX hbl hL (by decide) (by decide) (fun k z n M L hk hz H locs ls hR hS hl => hend H locs ls k z hk hz (fun q hq => hS.2.2 q hq)) s.heap [] _ ⟨rfl, Nat.le_refl _, fun a x h => (by cases h)⟩ va_S.rf ?_
  unfold LH
  exact lv_entry [Value.ref b] (Nat.le_of_ble_eq_true rfl)
end START
