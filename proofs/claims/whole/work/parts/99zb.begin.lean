section BEGIN1
theorem ClsI.zero {M : AH} {ax : Nat} (h1 : Cl M ax (minC ax (fun _ _ => 0) (fun _ => 0))) (h2 : Cl M (ax + 7) (treeC (ax + 7) (fun _ _ => 0) (fun _ => 0) (fun _ => 0))) (h3 : Cq M (ax + 6) (ax + 7) (fun _ _ => 0) (fun _ => 0)) (h4 : ∀ i, i < 16 → Cl M (ax + 16 + 7 * i) (logC (ax + 16 + 7 * i) (fun _ _ => 0) (fun _ => 0))) : ClsI M ax (fun _ _ => 0) (fun _ => 0) :=
  ⟨h1, ⟨Nat.zero_le _, Nat.zero_le _, Nat.zero_le _, fun _ _ => Nat.succ_pos 7, fun _ _ => Nat.succ_pos 7, fun _ _ => Nat.zero_le _, fun _ _ => Nat.zero_le _⟩, fun i hi => ⟨_, _, h4 i hi⟩, ⟨[], _, _, _, h2, ⟨rfl, by decide, fun i hi => absurd hi (Nat.not_lt_zero i), fun i hi => absurd hi (Nat.not_lt_zero i)⟩, Or.inl rfl, fun h => (by cases h)⟩, ⟨_, _, h3, Nat.zero_le _, fun _ _ => Nat.succ_pos 8191, fun _ _ => Nat.succ_pos 255⟩⟩
theorem MdlI.zero {M : AH} {am : Nat} (h1 : Cl M am (modC am (fun _ _ => 0) (fun _ => 0) (fun _ => 0))) : MdlI M am (fun _ _ => 0) (fun _ => 0) :=
  ⟨_, _, _, h1, ⟨rfl, rfl, rfl, rfl, rfl, rfl, rfl⟩, Nat.zero_le _, fun h => (by cases h), fun _ _ => Nat.succ_pos 7⟩
set_option maxRecDepth 100000 in
set_option maxHeartbeats 4000000 in
theorem law_start {g : GT} {d mc ms b N n : Nat} {xs : Nat → Int32} (G : Cx g "ProcessMinerLaw" cL_law 9 d mc ms) (hd : 1900 ≤ d) (hXs : va_X b N xs (gs g) (gs g).heap) (hb : b < glo g) (hN : N ≤ 1536) (hmc : 600400 ≤ mc) (hms : 5400000 ≤ ms) (hend : ∀ k z n M L, k ≤ mc → z ≤ ms → J g k z n M L 1464 [.int (iI ((1 : Nat) : Int))]) : J g 0 0 n (fun _ => none) [some (.ref b), none, none, none, none, none, none, none, none] 0 [] := by
  refine J.new (pc := 0) (ci := 3) (fs := [.null, .int 0, .null, .null, .null, .int 0, .null, .null, .null, .int 0]) G inX3 rfl tyX3 tyX3_ok q15 q16 q1 dL_law_0 (by decide) (by omega) (by omega) (fun M hput hag => ?_)
  clear hag
  refine J.dup (pc := 3) G dL_law_3 rfl ?_
  refine J.callI (pc := 4) (na := 0) G (c_initMiner M hput) q17 q18 q19 q1 rfl (by decide +kernel) dL_law_4 rfl (Nat.le_of_ble_eq_true rfl) rfl ⟨by omega, by decide, by omega, by omega⟩ ?_
  rintro r9 n9 M1 ⟨hr9, hn9, hX, hT, hQ, hL, hfr1⟩
  dsimp only [Option.toList, List.cons_append, List.nil_append]
  subst hr9
  subst hn9
  dsimp only [Option.toList, List.cons_append, List.nil_append]
  have hI := ClsI.zero hX hT hQ hL
  clear hX hT hQ hL hput
  refine J.astore_n (L' := [_, _, _, _, _, _, _, _, _]) (pc := 7) G dL_law_7 rfl (Nat.le_of_ble_eq_true rfl) rfl ?_
  refine J.new (pc := 8) (ci := 4) (fs := [.int 0, .int 0, .null, .int 0, .null, .null, .null, .int 0, .int 0, .null, .null, .null, .null]) G inX4 rfl tyX4 tyX4_ok q689 q690 q5 dL_law_8 (by decide) (by omega) (by omega) (fun M2 hput hag => ?_)
  have hI := hI.keep (fun q a1 a2 => hag q (by omega))
  refine J.dup (pc := 11) G dL_law_11 rfl ?_
  refine J.callI (pc := 12) (na := 0) G (c_initModel M2 hput) q691 q692 q693 q5 rfl (by decide +kernel) dL_law_12 rfl (Nat.le_of_ble_eq_true rfl) rfl ⟨by omega, by decide, by omega, by omega⟩ ?_
  rintro r9 n9 M3 ⟨hr9, hn9, hX, hfr3⟩
  dsimp only [Option.toList, List.cons_append, List.nil_append]
  subst hr9
  subst hn9
  dsimp only [Option.toList, List.cons_append, List.nil_append]
  have hI := hI.keep (fun q a1 a2 => hfr3 q (by omega))
  have hM := MdlI.zero hX
  clear hX hput hag
  refine J.astore_n (L' := [_, _, _, _, _, _, _, _, _]) (pc := 15) G dL_law_15 rfl (Nat.le_of_ble_eq_true rfl) rfl ?_
  refine J.iconstN (pc := 16) G dL_law_16 1 rfl ?_
  refine J.newL (pc := 17) G q985 dL_law_17 (by decide) (by omega) (by omega) (fun M4 hput4 hag4 => ?_)
  have hI := hI.keep (fun q a1 a2 => hag4 q (by omega))
  have hM := hM.keep (fun q a1 a2 => hag4 q (by omega))
  refine J.astore_n (L' := [_, _, _, _, _, _, _, _, _]) (pc := 19) G dL_law_19 rfl (Nat.le_of_ble_eq_true rfl) rfl ?_
  refine J.iconstN (pc := 20) G dL_law_20 1 rfl ?_
  refine J.newD (pc := 21) G q986 dL_law_21 (by decide) (by omega) (by omega) (fun M5 hput5 hag5 => ?_)
  have hI := hI.keep (fun q a1 a2 => hag5 q (by omega))
  have hM := hM.keep (fun q a1 a2 => hag5 q (by omega))
  have ho : OutI M5 (n + 137) := ⟨⟨_, (hag5 _ (by omega)).trans hput4⟩, ⟨_, hput5⟩⟩
  refine J.astore (L' := [_, _, _, _, _, _, _, _, _]) (pc := 23) G dL_law_23 rfl (Nat.le_of_ble_eq_true rfl) rfl ?_
  refine J.iconstN (pc := 25) G dL_law_25 0 rfl ?_
  refine J.istore (L' := [_, _, _, _, _, _, _, _, _]) (pc := 26) G dL_law_26 rfl (Nat.le_of_ble_eq_true rfl) rfl ?_
  exact law_loop G hd hXs hb hN hmc hms hend (N + 3) 0 _ _ _ _ _ _ (by omega) (by omega) (by rw [if_pos rfl]; omega) (by rw [if_pos rfl]; omega) (by omega) hI hM ho
end BEGIN1
