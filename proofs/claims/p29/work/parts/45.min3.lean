section MIN3
/-- asked for a node: no tree, or no such node -/
abbrev NdX (S : Nat → Nat) (nd : List Nd) (n : Nat) (M : AH) (v : Int) : String → Nat → AH → Prop := fun E n' M' => n ≤ n' ∧ M' = M ∧ ((E = ISE ∧ S 9 = 0) ∨ (E = IOB ∧ S 9 = 1 ∧ ¬ (0 ≤ v ∧ v < (nd.length : Int))))
set_option maxRecDepth 100000 in
set_option maxHeartbeats 4000000 in
theorem c_kind (n : Nat) (M : AH) {a : Nat} {v : Int} {A : Nat → Nat → Nat} {S : Nat → Nat} {B : Nat → Nat → Nat} {P : Nat → Int} {T : Nat → Nat} {nd : List Nd} (hX : Cl M a (minC a A S)) (hS : S 9 ≤ 1) (hT9 : Cl M (a + 7) (treeC (a + 7) B P T)) (hnd : TreeIs B P T nd) (hv : Rng v) : Fx yX3_kind cX3_kind 2 (some .int) 8 [.ref a, .int (iI v)] n M 2 12 (fun r n' M' => r = some (.int (iI ((ndK nd v.toNat : Nat) : Int))) ∧ n' = n ∧ M' = M ∧ S 9 = 1 ∧ 0 ≤ v ∧ v < (nd.length : Int)) (NdX S nd n M v) := by
  refine Fx.of (by decide) [some _, some _] rfl rfl (Nat.le_of_ble_eq_true rfl) ?_
  intro g G hO hT htab
  obtain ⟨g6, g64, gi, gp⟩ := id hnd
  rw [← g6] at g64
  refine J.aload_n (pc := 0) G dX3_kind_0 rfl ?_
  refine J.iload_n (pc := 1) G dX3_kind_1 rfl ?_
  refine J.callXV (pc := 2) (na := 1) G (c_checkNode n M hX hS hT9 g64 hv) q523 q525 qp24 q526 q1 (by decide +kernel) dX3_kind_2 (hX.at 0 rfl) rfl rfl (Nat.le_of_ble_eq_true rfl) rfl ⟨by omega, by decide, by omega, by omega⟩ (fun E9 n9 M9 h9 => JX.out G hT htab (by omega) (by omega) (by unfold NdX; rw [← g6]; exact h9)) ?_
  rintro r9 n9 M9 ⟨hr9, hn9, hM9, ⟨hs1, hv0, hv8⟩⟩
  subst hr9
  rw [hn9, hM9]
  clear hn9 hM9 n9 M9
  dsimp only [Option.toList, List.cons_append, List.nil_append]
  rw [g6] at hv8
  have hgi := (gi v.toNat (by omega)).1
  rw [show v = ((v.toNat : Nat) : Int) by omega]
  have hT8 := hT
  have hT := hT9
  refine J.aload_n (pc := 5) G dX3_kind_5 rfl ?_
  refine J.getf (pc := 6) (ci := 3) G inX3 rfl 8 q142 dX3_kind_6 (hX.at 0 rfl) (by decide) rfl ?_
  refine J.getf (pc := 9) (ci := 2) G inX2 rfl 0 q33 dX3_kind_9 (hT.at 0 rfl) (by decide) rfl ?_
  refine J.iload_n (pc := 12) G dX3_kind_12 rfl ?_
  refine J.ialdN (pc := 13) G dX3_kind_13 (hT.at 1 rfl) (by omega) (by decide) ?_
  rw [hgi]
  exact J.iret (pc := 14) G hO dX3_kind_14 (by decide) (by decide) ⟨rfl, rfl, rfl, hs1, hv0, hv8⟩
set_option maxRecDepth 100000 in
set_option maxHeartbeats 4000000 in
theorem c_labelsOf (n : Nat) (M : AH) {a : Nat} {v : Int} {A : Nat → Nat → Nat} {S : Nat → Nat} {B : Nat → Nat → Nat} {P : Nat → Int} {T : Nat → Nat} {nd : List Nd} (hX : Cl M a (minC a A S)) (hS : S 9 ≤ 1) (hT9 : Cl M (a + 7) (treeC (a + 7) B P T)) (hnd : TreeIs B P T nd) (hv : Rng v) : Fx yX3_labelsOf cX3_labelsOf 2 (some .int) 8 [.ref a, .int (iI v)] n M 2 12 (fun r n' M' => r = some (.int (iI ((ndS nd v.toNat : Nat) : Int))) ∧ n' = n ∧ M' = M ∧ S 9 = 1 ∧ 0 ≤ v ∧ v < (nd.length : Int)) (NdX S nd n M v) := by
  refine Fx.of (by decide) [some _, some _] rfl rfl (Nat.le_of_ble_eq_true rfl) ?_
  intro g G hO hT htab
  obtain ⟨g6, g64, gi, gp⟩ := id hnd
  rw [← g6] at g64
  refine J.aload_n (pc := 0) G dX3_labelsOf_0 rfl ?_
  refine J.iload_n (pc := 1) G dX3_labelsOf_1 rfl ?_
  refine J.callXV (pc := 2) (na := 1) G (c_checkNode n M hX hS hT9 g64 hv) q523 q525 qp24 q526 q1 (by decide +kernel) dX3_labelsOf_2 (hX.at 0 rfl) rfl rfl (Nat.le_of_ble_eq_true rfl) rfl ⟨by omega, by decide, by omega, by omega⟩ (fun E9 n9 M9 h9 => JX.out G hT htab (by omega) (by omega) (by unfold NdX; rw [← g6]; exact h9)) ?_
  rintro r9 n9 M9 ⟨hr9, hn9, hM9, ⟨hs1, hv0, hv8⟩⟩
  subst hr9
  rw [hn9, hM9]
  clear hn9 hM9 n9 M9
  dsimp only [Option.toList, List.cons_append, List.nil_append]
  rw [g6] at hv8
  have hgi := (gi v.toNat (by omega)).2.1
  rw [show v = ((v.toNat : Nat) : Int) by omega]
  have hT8 := hT
  have hT := hT9
  refine J.aload_n (pc := 5) G dX3_labelsOf_5 rfl ?_
  refine J.getf (pc := 6) (ci := 3) G inX3 rfl 8 q142 dX3_labelsOf_6 (hX.at 0 rfl) (by decide) rfl ?_
  refine J.getf (pc := 9) (ci := 2) G inX2 rfl 1 q36 dX3_labelsOf_9 (hT.at 0 rfl) (by decide) rfl ?_
  refine J.iload_n (pc := 12) G dX3_labelsOf_12 rfl ?_
  refine J.ialdN (pc := 13) G dX3_labelsOf_13 (hT.at 2 rfl) (by omega) (by decide) ?_
  rw [hgi]
  exact J.iret (pc := 14) G hO dX3_labelsOf_14 (by decide) (by decide) ⟨rfl, rfl, rfl, hs1, hv0, hv8⟩
set_option maxRecDepth 100000 in
set_option maxHeartbeats 4000000 in
theorem c_shortest (n : Nat) (M : AH) {a : Nat} {v : Int} {A : Nat → Nat → Nat} {S : Nat → Nat} {B : Nat → Nat → Nat} {P : Nat → Int} {T : Nat → Nat} {nd : List Nd} (hX : Cl M a (minC a A S)) (hS : S 9 ≤ 1) (hT9 : Cl M (a + 7) (treeC (a + 7) B P T)) (hnd : TreeIs B P T nd) (hkd : KdOk nd) (hch : ChOk nd) (hv : Rng v) : Fx yX3_shortest cX3_shortest 2 (some .int) 8 [.ref a, .int (iI v)] n M 2 12 (fun r n' M' => r = some (.int (iI ((lsF nd (B 6) (nd.length - v.toNat) v.toNat : Nat) : Int))) ∧ n' = n ∧ (∃ f, Cl M' (a + 7) (treeC (a + 7) (upAN B 6 f) P T)) ∧ Fr (a + 7) (a + 14) M M' ∧ S 9 = 1 ∧ 0 ≤ v ∧ v < (nd.length : Int)) (NdX S nd n M v) := by
  refine Fx.of (by decide) [some _, some _] rfl rfl (Nat.le_of_ble_eq_true rfl) ?_
  intro g G hO hT htab
  obtain ⟨g6, g64, gi, gp⟩ := id hnd
  rw [← g6] at g64
  refine J.aload_n (pc := 0) G dX3_shortest_0 rfl ?_
  refine J.iload_n (pc := 1) G dX3_shortest_1 rfl ?_
  refine J.callXV (pc := 2) (na := 1) G (c_checkNode n M hX hS hT9 g64 hv) q523 q525 qp24 q526 q1 (by decide +kernel) dX3_shortest_2 (hX.at 0 rfl) rfl rfl (Nat.le_of_ble_eq_true rfl) rfl ⟨by omega, by decide, by omega, by omega⟩ (fun E9 n9 M9 h9 => JX.out G hT htab (by omega) (by omega) (by unfold NdX; rw [← g6]; exact h9)) ?_
  rintro r9 n9 M9 ⟨hr9, hn9, hM9, ⟨hs1, hv0, hv8⟩⟩
  subst hr9
  rw [hn9, hM9]
  clear hn9 hM9 n9 M9
  dsimp only [Option.toList, List.cons_append, List.nil_append]
  rw [g6] at hv8
  rw [show v = ((v.toNat : Nat) : Int) by omega]
  have hT8 := hT
  have hT := hT9
  refine J.aload_n (pc := 5) G dX3_shortest_5 rfl ?_
  refine J.getf (pc := 6) (ci := 3) G inX3 rfl 8 q142 dX3_shortest_6 (hX.at 0 rfl) (by decide) rfl ?_
  refine J.iload_n (pc := 9) G dX3_shortest_9 rfl ?_
  refine J.callV (pc := 10) (na := 1) G (c_leastLabels n M hT hnd (i := v.toNat) (by omega) hkd hch) q573 q574 q575 q576 q2 (by decide +kernel) dX3_shortest_10 (hT.at 0 rfl) rfl rfl (Nat.le_of_ble_eq_true rfl) rfl ⟨by omega, by decide, by omega, by omega⟩ ?_
  rintro r9 n9 M7 ⟨hr9, hn9, ⟨hT7, hFr7⟩⟩
  subst hr9
  rw [hn9]
  clear hn9 n9
  dsimp only [Option.toList, List.cons_append, List.nil_append]
  exact J.iret (pc := 13) G hO dX3_shortest_13 (by decide) (by decide) ⟨rfl, rfl, hT7, hFr7, hs1, hv0, hv8⟩
end MIN3
