section PMINER
/-! the miner's calls, where they don't throw -/
theorem K_event (n : Nat) (M0 : AH) {ax v : Nat} {A : Nat → Nat → Nat} {S : Nat → Nat} (hI : ClsI M0 ax A S) (hv : v < 8) (h1 : S 1 < 12) : Fx yX3_event cX3_event 2 (some .int) 7 [.ref ax, .int (iI (v : Int))] n M0 2 12 (fun r n' M' => r = some (.int (iI ((S 1 + 1 : Nat) : Int))) ∧ n' = n ∧ ClsI M' ax (evA A S v) (upN S 1 (S 1 + 1)) ∧ Fr ax (ax + 128) M0 M') (fun _ _ _ => False) := by
  obtain ⟨hX, hok, -⟩ := id hI
  refine Fx.post (c_event n M0 hX hok (v := (v : Int)) ⟨by omega, by omega⟩) (fun r n' M' h => ?_) (fun E n' M' h => ?_)
  · obtain ⟨q1, q2, q3, q4, q5, q6, q7⟩ := h
    exact ⟨q1, q2, hI.put q3 (hok.ev h1 hv) q4 (fun h => ⟨h, rfl⟩), fun q hq => q4 q (by omega)⟩
  · obtain ⟨-, -, q | q⟩ := h
    · exact q.2 ⟨by omega, by omega⟩
    · exact q.2.2 h1
theorem K_endTrace (n : Nat) (M0 : AH) {ax v : Nat} {A : Nat → Nat → Nat} {S : Nat → Nat} (hI : ClsI M0 ax A S) (hv : v ≤ 99) (h5 : S 5 < 10) : Fx yX3_endTrace cX3_endTrace 4 (some .int) 7 [.ref ax, .int (iI (v : Int))] n M0 2 12 (fun r n' M' => r = some (.int (iI ((S 5 : Nat) : Int))) ∧ n' = n ∧ ClsI M' ax (etA A S v) (etS S) ∧ Fr ax (ax + 128) M0 M') (fun _ _ _ => False) := by
  obtain ⟨hX, hok, -⟩ := id hI
  refine Fx.post (c_endTrace n M0 hX hok (v := (v : Int)) ⟨by omega, by omega⟩) (fun r n' M' h => ?_) (fun E n' M' h => ?_)
  · obtain ⟨q1, q2, q3, q4, q5, q6, q7⟩ := h
    exact ⟨q1, q2, hI.put q3 (hok.et h5 hv) q4 (fun h => (by cases h)), fun q hq => q4 q (by omega)⟩
  · obtain ⟨-, -, q | q⟩ := h
    · exact q.2 ⟨by omega, by omega⟩
    · exact q.2.2 h5
theorem K_mine (n : Nat) (M0 : AH) {ax : Nat} {A : Nat → Nat → Nat} {S : Nat → Nat} (hI : ClsI M0 ax A S) : Fn yX3_mine cX3_mine 1 (some .int) 21 [.ref ax] n M0 0 0 (fun r n' M' => r = some (.int (iI (((trOf A S).length : Nat) : Int))) ∧ n' = n ∧ ClsI M' ax A (upN S 9 1) ∧ Fr ax (ax + 128) M0 M') := by
  obtain ⟨hX, hok, hLs, ⟨nd, B, PP, T, hTr, hnd, hgo, h9⟩, -⟩ := id hI
  refine Fn.post (c_mine n M0 hX hok hLs hTr (fun h => by rw [← h9 h]; exact hnd) (tree_grown (lgOf_goodM hok)).1) (fun r n' M' h => ?_)
  obtain ⟨q1, q2, q3, q4, q5, q6, q7⟩ := h
  exact ⟨q1, q2, hI.mined q3 q4 q5 q6, q7⟩
theorem K_shortest (n : Nat) (M0 : AH) {ax : Nat} {A : Nat → Nat → Nat} {S : Nat → Nat} (hI : ClsI M0 ax A S) (h9 : S 9 = 1) : Fx yX3_shortest cX3_shortest 2 (some .int) 8 [.ref ax, .int (iI ((0 : Nat) : Int))] n M0 2 12 (fun r n' M' => r = some (.int (iI ((lsG (trOf A S) 0 : Nat) : Int))) ∧ n' = n ∧ ClsI M' ax A S ∧ Fr ax (ax + 128) M0 M') (fun _ _ _ => False) := by
  obtain ⟨hX, hok, hLs, ⟨nd, B, P, T, hTr, hnd, hgo, e9⟩, hm⟩ := id hI
  have e := e9 h9
  have hG := trOf_grown hok
  rw [← e] at hG ⊢
  refine Fx.post (c_shortest n M0 hX hok.2.2.1 hTr hnd hG.kd hG.ch (v := ((0 : Nat) : Int)) ⟨by omega, by omega⟩) (fun r n' M' h => ?_) (fun E n' M' h => ?_)
  · obtain ⟨q1, q2, q3, q4, -⟩ := h
    have hls := ls_any (nd := nd) (f := B 6) (i := 0) (fun i hi => (hG.2.2.1 i hi).2) hG.ch hG.1.1
    refine ⟨?_, q2, hI.sums hnd hgo e9 q3 q4, fun q hq => q4 q (by omega)⟩
    rw [q1]
    show some (Value.int (iI ((lsF nd (B 6) (nd.length - 0) 0 : Nat) : Int))) = _
    rw [hls]
  · obtain ⟨-, -, q | q⟩ := h
    · omega
    · have := hG.1.1
      exact q.2.2 ⟨by omega, by omega⟩
theorem K_kind (n : Nat) (M0 : AH) {ax i : Nat} {A : Nat → Nat → Nat} {S : Nat → Nat} (hI : ClsI M0 ax A S) (h9 : S 9 = 1) (hi : i < (trOf A S).length) : Fx yX3_kind cX3_kind 2 (some .int) 8 [.ref ax, .int (iI (i : Int))] n M0 2 12 (fun r n' M' => r = some (.int (iI ((ndK (trOf A S) i : Nat) : Int))) ∧ n' = n ∧ M' = M0) (fun _ _ _ => False) := by
  obtain ⟨hX, hok, hLs, ⟨nd, B, P, T, hTr, hnd, hgo, e9⟩, hm⟩ := id hI
  have e := e9 h9
  have hG := trOf_grown hok
  rw [← e] at hG hi ⊢
  have h64 := hG.1.2
  refine Fx.post (c_kind n M0 hX hok.2.2.1 hTr hnd (v := (i : Int)) ⟨by omega, by omega⟩) (fun r n' M' h => ⟨h.1, h.2.1, h.2.2.1⟩) (fun E n' M' h => ?_)
  obtain ⟨-, -, q | q⟩ := h
  · omega
  · exact q.2.2 ⟨by omega, by omega⟩
theorem K_labelsOf (n : Nat) (M0 : AH) {ax i : Nat} {A : Nat → Nat → Nat} {S : Nat → Nat} (hI : ClsI M0 ax A S) (h9 : S 9 = 1) (hi : i < (trOf A S).length) : Fx yX3_labelsOf cX3_labelsOf 2 (some .int) 8 [.ref ax, .int (iI (i : Int))] n M0 2 12 (fun r n' M' => r = some (.int (iI ((ndS (trOf A S) i : Nat) : Int))) ∧ n' = n ∧ M' = M0) (fun _ _ _ => False) := by
  obtain ⟨hX, hok, hLs, ⟨nd, B, P, T, hTr, hnd, hgo, e9⟩, hm⟩ := id hI
  have e := e9 h9
  have hG := trOf_grown hok
  rw [← e] at hG hi ⊢
  have h64 := hG.1.2
  refine Fx.post (c_labelsOf n M0 hX hok.2.2.1 hTr hnd (v := (i : Int)) ⟨by omega, by omega⟩) (fun r n' M' h => ⟨h.1, h.2.1, h.2.2.1⟩) (fun E n' M' h => ?_)
  obtain ⟨-, -, q | q⟩ := h
  · omega
  · exact q.2.2 ⟨by omega, by omega⟩
theorem K_labels (n : Nat) (M0 : AH) {ax : Nat} {A : Nat → Nat → Nat} {S : Nat → Nat} (hI : ClsI M0 ax A S) : Fn yX3_labels cX3_labels 1 (some .int) 3 [.ref ax] n M0 0 0 (fun r n' M' => r = some (.int (iI ((ndS (trOf A S) 0 : Nat) : Int))) ∧ n' = n ∧ ClsI M' ax A S ∧ Fr ax (ax + 128) M0 M') := by
  obtain ⟨hX, hok, -⟩ := id hI
  refine Fn.post (c_labels n M0 hX hok hI.lg0) (fun r n' M' h => ?_)
  obtain ⟨q1, q2, q3, q4⟩ := h
  exact ⟨by rw [q1, root_set hok], q2, hI.log0 q3 q4, fun q hq => q4 q (by omega)⟩
theorem K_accepts (n : Nat) (M0 : AH) {ax t : Nat} {A : Nat → Nat → Nat} {S : Nat → Nat} (hI : ClsI M0 ax A S) (h9 : S 9 = 1) (ht : t < S 5) : Fx yX3_accepts cX3_accepts 2 (some .boolean) 8 [.ref ax, .int (iI (t : Int))] n M0 2 12 (fun r n' M' => r = some (.int (bI (accW A S t))) ∧ n' = n ∧ ClsI M' ax A S ∧ Fr ax (ax + 128) M0 M') (fun _ _ _ => False) := by
  obtain ⟨hX, hok, -⟩ := id hI
  obtain ⟨C, Q, hm⟩ := hI.mt
  have hG := trOf_grown hok
  have h5 : S 5 ≤ 10 := hok.2.1
  refine Fx.post (c_accepts n M0 hX hok hm hG.kd hG.1.1 (v := (t : Int)) ⟨by omega, by omega⟩) (fun r n' M' h => ?_) (fun E n' M' h => ?_)
  · obtain ⟨q1, q2, q3, -⟩ := h
    refine ⟨?_, q2, hI.mtl q3 h9, fun q hq => q3.2 q (by omega) (by omega)⟩
    rw [q1, Int.toNat_natCast, mt_any hok ht]
  · obtain ⟨-, -, q | q⟩ := h
    · omega
    · exact q.2.2 ⟨by omega, by omega⟩
theorem K_fitness (n : Nat) (M0 : AH) {ax : Nat} {A : Nat → Nat → Nat} {S : Nat → Nat} (hI : ClsI M0 ax A S) (h9 : S 9 = 1) : Fx yX3_fitness cX3_fitness 3 (some .double) 8 [.ref ax] n M0 1 6 (fun r n' M' => r = some (.double (fiF (accW A S) (S 5))) ∧ n' = n ∧ ClsI M' ax A S ∧ Fr ax (ax + 128) M0 M') (fun _ _ _ => False) := by
  obtain ⟨hX, hok, -⟩ := id hI
  obtain ⟨C, Q, hm⟩ := hI.mt
  have hG := trOf_grown hok
  refine Fx.post (c_fitness n M0 (W := accW A S) hX hok hm hG.kd hG.1.1 (fun t ht wd en _ _ => mt_any hok ht)) (fun r n' M' h => ?_) (fun E n' M' h => ?_)
  · obtain ⟨q1, q2, q3, -⟩ := h
    exact ⟨q1, q2, hI.mtl q3 h9, fun q hq => q3.2 q (by omega) (by omega)⟩
  · have := h.2.2.2
    omega
theorem K_words (n : Nat) (M0 : AH) {ax v : Nat} {A : Nat → Nat → Nat} {S : Nat → Nat} (hI : ClsI M0 ax A S) (h9 : S 9 = 1) (hv : v ≤ 3) : Fx yX3_words cX3_words 2 (some .int) 10 [.ref ax, .int (iI (v : Int))] n M0 2 12 (fun r n' M' => (∃ x : Nat, (v < lsG (trOf A S) 0 → x = 0) ∧ (v = lsG (trOf A S) 0 → 0 < x) ∧ x < 2147483648 ∧ r = some (.int (iI (x : Int)))) ∧ n' = n ∧ ClsI M' ax A S ∧ Fr ax (ax + 128) M0 M') (fun _ _ _ => False) := by
  obtain ⟨hX, hok, -⟩ := id hI
  obtain ⟨C, Q, hm⟩ := hI.mt
  have hG := trOf_grown hok
  refine Fx.post (c_words n M0 hX hok hm hG.kd hG.1.1 (v := (v : Int)) ⟨by omega, by omega⟩) (fun r n' M' h => ?_) (fun E n' M' h => ?_)
  · obtain ⟨q1, q2, q3, -⟩ := h
    rw [Int.toNat_natCast] at q1
    refine ⟨⟨_, fun h => words_zero hG (x := fun _ => 0) (fun _ _ => Nat.succ_pos 7) h (by omega), fun h => words_pos hG (x := fun _ => 0) (fun _ _ => Nat.succ_pos 7) h (by omega), ?_, q1⟩, q2, hI.mtl q3 h9, fun q hq => q3.2 q (by omega) (by omega)⟩
    rw [words_eq hG (iwG_8 hG) (x := fun _ => 0) (fun _ _ => Nat.succ_pos 7) (by omega)]
    have h1 := acF_le (W := fun c => iwG (trOf A S) (cdF (fun _ => 0) c v) 0 (2 ^ v - 1)) (2 ^ (3 * v))
    have h2 : 2 ^ (3 * v) ≤ 2 ^ 9 := Nat.pow_le_pow_right (by omega) (by omega)
    omega
  · obtain ⟨-, -, q | q⟩ := h
    · omega
    · exact q.2.2 ⟨by omega, by omega⟩
end PMINER
