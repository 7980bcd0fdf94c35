section ENTER3
theorem st_exr {t : Term} {C : String} {args : Array Value} {s : State} (h : (Cond.exactly t C).before args s = true) : ∃ a, t.eval args s none [] s = some (.ref a) := by
  simp only [Cond.before, Cond.holds, Cond.value] at h
  cases e : t.eval args s none [] s with
  | none => rw [e] at h; simp at h
  | some v =>
    rw [e] at h
    cases v with
    | ref a => exact ⟨a, rfl⟩
    | _ =>
      cases hc : s.vm.findClass C with
      | none => rw [hc] at h; simp at h
      | some c => rw [hc] at h; simp at h
theorem st_ns {s : State} {b : Nat} (hts : ∀ w ∈ lw_tbl, w.before #[Value.ref b] s = true) (hgv : (Jvm.Cond.and given_1 narrow_1).before #[Value.ref b] s = true) (q : Nat × String) (hm : q ∈ nsG) : ∃ sa, vk_R "ProcessMiner" q.1 q.2 sa s := by
  have hs := flat_of_before _ hgv
  have h1 : ∀ q ∈ nsG, Cond.stringRef "ProcessMiner" q.1 q.2 ∈ lw_tbl := by decide +kernel
  have h2 : ∀ q ∈ nsG, Cond.exactly (Term.string "ProcessMiner" q.1) "java/lang/String" ∈ flatC (Jvm.Cond.and given_1 narrow_1) := by decide +kernel
  obtain ⟨a, ha⟩ := st_exr (hs _ (h2 q hm))
  exact ⟨a, vk_R.of (hts _ (h1 q hm)) ha⟩
theorem st_KW {s : State} {b : Nat} (hts : ∀ w ∈ lw_tbl, w.before #[Value.ref b] s = true) (hgv : (Jvm.Cond.and given_1 narrow_1).before #[Value.ref b] s = true) : ∃ E : En, KW E s.heap.size s := by
  obtain ⟨E, hE⟩ := st_K hts (fun w hw => hts w (List.mem_filter.mp hw).1)
  exact ⟨E, hE, fun a i x h hm => st_nw hts a i x h hm, fun q hm => st_nc hts q hm, fun q hm => st_nd hts q hm, fun q hm => st_ns hts hgv q hm, fun q hm => st_nn hgv q hm, st_ao hts, hts (.arrayOver (.array .int)) (by decide +kernel), st_z1 hts hgv, st_z2 hts hgv⟩
end ENTER3
