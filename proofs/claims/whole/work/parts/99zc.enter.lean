section ENTER
theorem st_nw {s : State} {b : Nat} (hts : ∀ w ∈ lw_tbl, w.before #[Value.ref b] s = true) (a : String) (i : Nat) (x : MethodName) (h : String) (hm : Cond.methodLinkNest a i x h ∈ nwG) : va_Nw (.methodLinkNest a i x h) s := by
  have hall : ∀ w ∈ nwG, w ∈ lw_tbl := by decide +kernel
  exact va_Nw.of rfl (hts _ (hall _ hm))
theorem st_nc {s : State} {b : Nat} (hts : ∀ w ∈ lw_tbl, w.before #[Value.ref b] s = true) (q : String × String) (hm : q ∈ ncG) : va_Nw (.castable q.1 q.2) s := by
  have hall : ∀ q ∈ ncG, Cond.castable q.1 q.2 ∈ lw_tbl := by decide +kernel
  exact va_Nw.of rfl (hts _ (hall _ hm))
theorem st_nd {s : State} {b : Nat} (hts : ∀ w ∈ lw_tbl, w.before #[Value.ref b] s = true) (q : MethodName) (hm : q ∈ ndG) : va_Nw (.declares q) s := by
  have hall : ∀ q ∈ ndG, Cond.declares q ∈ lw_tbl := by decide +kernel
  exact va_Nw.of rfl (hts _ (hall _ hm))
theorem st_nn {s : State} {b : Nat} (hgv : (Jvm.Cond.and given_1 narrow_1).before #[Value.ref b] s = true) (q : String × String) (hm : q ∈ nnG) : va_Nc q.1 q.2 s := by
  have hs := flat_of_before _ hgv
  have hall : ∀ q ∈ nnG, Cond.not (Cond.castable q.1 q.2) ∈ flatC (Jvm.Cond.and given_1 narrow_1) := by decide +kernel
  exact va_Nc.of (hs _ (hall _ hm))
theorem st_ao {s : State} {b : Nat} (hts : ∀ w ∈ lw_tbl, w.before #[Value.ref b] s = true) : va_AO "ProcessMiner$Log" s :=
  va_AO.of (hts _ (by decide +kernel))
theorem st_z1 {s : State} {b : Nat} (hts : ∀ w ∈ lw_tbl, w.before #[Value.ref b] s = true) (hgv : (Jvm.Cond.and given_1 narrow_1).before #[Value.ref b] s = true) : vx_Zq Bundle.tN "UNASSIGNED_STACK" Bundle.steD (fun q => s.heap.size ≤ q) s s.heap := by
  have hs := flat_of_before _ hgv
  exact vx_Zqof (hts _ (by decide +kernel)) (hts _ (by decide +kernel)) (hs _ (by decide +kernel)) (fun a h => Nat.not_le.mpr h)
theorem st_z2 {s : State} {b : Nat} (hts : ∀ w ∈ lw_tbl, w.before #[Value.ref b] s = true) (hgv : (Jvm.Cond.and given_1 narrow_1).before #[Value.ref b] s = true) : vx_Zq Bundle.tN "SUPPRESSED_SENTINEL" Bundle.listD (fun q => s.heap.size ≤ q) s s.heap := by
  have hs := flat_of_before _ hgv
  exact vx_Zqof (hts _ (by decide +kernel)) (hts _ (by decide +kernel)) (hs _ (by decide +kernel)) (fun a h => Nat.not_le.mpr h)
end ENTER
