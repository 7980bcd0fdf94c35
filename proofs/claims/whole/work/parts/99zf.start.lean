section START
set_option maxHeartbeats 4000000 in
theorem law_entry {p : Program} {e : Env} {s : State} {m : MethodId} {below : List Frame} {meth : Method} {c : Code} (l : Launch) (hflags : l.flags = flags0) {b L : Nat} {xs : Nat → Int32} (hL : L ≤ 1536) (hx : p.tables.exec = Jvm.exec) (hb : c.code = code) (hml : c.maxLocals = 9) (hown : s.vm.findClass "ProcessMinerLaw" = some m.cls) (hts : ∀ w ∈ lw_tbl, w.before #[Value.ref b] s = true) (hX : va_X b L xs s s.heap) (hbl : b < s.heap.size) (hlocks : meth.locks = false) (hgv : (Jvm.Cond.and given_1 narrow_1).before #[Value.ref b] s = true) (Q : State → Prop) (hend : ∀ (H : Heap) (locs : List Loc) (ls : Array Slot) (k z : Nat), k ≤ room_1.cells → z ≤ room_1.slots → (∀ q ∈ locs, s.heap.size ≤ q.base) → W p l e room_1 s m #[Value.ref b] below meth c H locs k z Q (F0 m 1464 ls [.int (iI ((1 : Nat) : Int))])) : W p l e room_1 s m #[Value.ref b] below meth c s.heap [] 0 0 Q (entryFrame m ([Value.ref b] : List Value).toArray 9) := by
  obtain ⟨E, hK⟩ := st_KW hts hgv
  rw [lg_entry_eq]
  have G : Cx (p, l, e, room_1, s, m, #[Value.ref b], below, meth, c, Q, E, s.heap.size) "ProcessMinerLaw" cL_law 9 2048 room_1.cells room_1.slots := ⟨hx, hb, hml, hown, fun w hw => hts w (List.mem_filter.mp hw).1, hK, hlocks, (by show 2048 ≤ room_1.frames; decide), (by show 81920 ≤ room_1.locals; decide), Nat.le_refl room_1.cells, Nat.le_refl room_1.slots, by unfold Launch.stackTraces; rw [hflags]; decide +kernel, Nat.le_refl _⟩
  refine law_start (n := s.heap.size) G (by decide) hX hbl hL (by decide) (by decide) (fun k z n M L hk hz H locs ls hR hS hl => hend H locs ls k z hk hz (fun q hq => hS.2.2 q hq)) s.heap [] _ ⟨rfl, Nat.le_refl _, fun a x h => (by cases h)⟩ va_S.rf ?_
  unfold LH
  exact lv_entry [Value.ref b] (Nat.le_of_ble_eq_true rfl)
end START
