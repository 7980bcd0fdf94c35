section MIN3
/-- asked for a node: no tree, or no such node -/
abbrev NdX (S : Nat → Nat) (nd : List Nd) (n : Nat) (M : AH) (v : Int) : String → Nat → AH → Prop := fun E n' M' => n ≤ n' ∧ M' = M ∧ ((E = ISE ∧ S 9 = 0) ∨ (E = IOB ∧ S 9 = 1 ∧ ¬ (0 ≤ v ∧ v < (nd.length : Int))))
set_option maxRecDepth 100000 in
set_option maxHeartbeats 4000000 in
theorem c_kind (n : Nat) (M : AH) {a : Nat} {v : Int} {A : Nat → Nat → Nat} {S : Nat → Nat} {B : Nat → Nat → Nat} {P : Nat → Int} {T : Nat → Nat} {nd : List Nd} (hX : Cl M a (minC a A S)) (hS : S 9 ≤ 1) (hT9 : Cl M (a + 7) (treeC (a + 7) B P T)) (hnd : TreeIs B P T nd) (hv : Rng v) : Fx yX3_kind cX3_kind 2 (some .int) 8 [.ref a, .int (iI v)] n M 2 12 (fun r n' M' => r = some (.int (iI ((ndK nd v.toNat : Nat) : Int))) ∧ n' = n ∧ M' = M ∧ S 9 = 1 ∧ 0 ≤ v ∧ v < (nd.length : Int)) (NdX S nd n M v) := by
  refine Fx.of (by decide) [some _, some _] rfl rfl (Nat.le_of_ble_eq_true rfl) ?_
  intro g G hO hT htab
  obtain ⟨g6, g64, gi, gp⟩ := id hnd
  rw [← g6] at g64
  refine J.aload_n (pc := 0) G dX3_kind_0 rfl ?_
  refine J.iload_n (pc := 1) G dX3_kind_1 rfl ?_
  refine J.callXV (pc := 2) (na := 1) G (c_checkNode n M hX hS hT9 g64 hv) q523 q525 qp24 q526 q1 (by decide +kernel) dX3_kind_2 (hX.at 0 rfl) rfl rfl (Nat.le_of_ble_eq_true rfl) rfl ⟨by omega, by decide, by omega, by omega⟩ (fun E9 n9 M9 h9 => JX.out G hT htab (by omega) (by omega) (by unfold NdX; rw [← g6]; exact h9)) ?_
  rintro r9 n9 M9 ⟨hr9, hn9, hM9, ⟨hs1, hv0, hv8⟩⟩
  subst hr9
  rw [hn9, hM9]
  clear hn9 hM9 n9 M9
  dsimp only [Option.toList, List.cons_append, List.nil_append]
  rw [g6] at hv8
  have hgi := (gi v.toNat (by omega)).1
  rw [show v = ((v.toNat : Nat) : Int) by omega]
  have hT8 := hT
  have hT := hT9
  refine J.aload_n (pc := 5) G dX3_kind_5 rfl ?_
  refine J.getf (pc := 6) (ci := 3) G inX3 rfl 8 q142 dX3_kind_6 (hX.at 0 rfl) (by decide) rfl ?_
  refine J.getf (pc := 9) (ci := 2) G inX2 rfl 0 q33 dX3_kind_9 (hT.at 0 rfl) (by decide) rfl ?_
  refine J.iload_n (pc := 12) G dX3_kind_12 rfl ?_
  refine J.ialdN (pc := 13) G dX3_kind_13 (hT.at 1 rfl) (by omega) (by decide) ?_
  rw [hgi]
  exact J.iret (pc := 14) G hO dX3_kind_14 (by decide) (by decide) ⟨rfl, rfl, rfl, hs1, hv0, hv8⟩
set_option maxRecDepth 100000 in
set_option maxHeartbeats 4000000 in
theorem c_labelsOf (n : Nat) (M : AH) {a : Nat} {v : Int} {A : Nat → Nat → Nat} {S : Nat → Nat} {B : Nat → Nat → Nat} {P : Nat → Int} {T : Nat → Nat} {nd : List Nd} (hX : Cl M a (minC a A S)) (hS : S 9 ≤ 1) (hT9 : Cl M (a + 7) (treeC (a + 7) B P T)) (hnd : TreeIs B P T nd) (hv : Rng v) : Fx yX3_labelsOf cX3_labelsOf 2 (some .int) 8 [.ref a, .int (iI v)] n M 2 12 (fun r n' M' => r = some (.int (iI ((ndS nd v.toNat : Nat) : Int))) ∧ n' = n ∧ M' = M ∧ S 9 = 1 ∧ 0 ≤ v ∧ v < (nd.length : Int)) (NdX S nd n M v) := by
  refine Fx.of (by decide) [some _, some _] rfl rfl (Nat.le_of_ble_eq_true rfl) ?_
  intro g G hO hT htab
  obtain ⟨g6, g64, gi, gp⟩ := id hnd
  rw [← g6] at g64
  refine J.aload_n (pc := 0) G dX3_labelsOf_0 rfl ?_
  refine J.iload_n (pc := 1) G dX3_labelsOf_1 rfl ?_
  refine J.callXV (pc := 2) (na := 1) G (c_checkNode n M hX hS hT9 g64 hv) q523 q525 qp24 q526 q1 (by decide +kernel) dX3_labelsOf_2 (hX.at 0 rfl) rfl rfl (Nat.le_of_ble_eq_true rfl) rfl ⟨by omega, by decide, by omega, by omega⟩ (fun E9 n9 M9 h9 => JX.out G hT htab (by omega) (by omega) (by unfold NdX; rw [← g6]; exact h9)) ?_
  rintro r9 n9 M9 ⟨hr9, hn9, hM9, ⟨hs1, hv0, hv8⟩⟩
  subst hr9
  rw [hn9, hM9]
  clear hn9 hM9 n9 M9
  dsimp only [Option.toList, List.cons_append, List.nil_append]
  rw [g6] at hv8
  have hgi := (gi v.toNat (by omega)).2.1
  rw [show v = ((v.toNat : Nat) : Int) by omega]
  have hT8 := hT
  have hT := hT9
  refine J.aload_n (pc := 5) G dX3_labelsOf_5 rfl ?_
  refine J.getf (pc := 6) (ci := 3) G inX3 rfl 8 q142 dX3_labelsOf_6 (hX.at 0 rfl) (by decide) rfl ?_
  refine J.getf (pc := 9) (ci := 2) G inX2 rfl 1 q36 dX3_labelsOf_9 (hT.at 0 rfl) (by decide) rfl ?_
  refine J.iload_n (pc := 12) G dX3_labelsOf_12 rfl ?_
  refine J.ialdN (pc := 13) G dX3_labelsOf_13 (hT.at 2 rfl) (by omega) (by decide) ?_
  rw [hgi]
  exact J.iret (pc := 14) G hO dX3_labelsOf_14 (by decide) (by decide) ⟨rfl, rfl, rfl, hs1, hv0, hv8⟩
set_option maxRecDepth 100000 in
set_option maxHeartbeats 4000000 in
theorem c_children (n : Nat) (M : AH) {a : Nat} {v : Int} {A : Nat → Nat → Nat} {S : Nat → Nat} {B : Nat → Nat → Nat} {P : Nat → Int} {T : Nat → Nat} {nd : List Nd} (hX : Cl M a (minC a A S)) (hS : S 9 ≤ 1) (hT9 : Cl M (a + 7) (treeC (a + 7) B P T)) (hnd : TreeIs B P T nd) (hv : Rng v) : Fx yX3_children cX3_children 2 (some .int) 8 [.ref a, .int (iI v)] n M 2 12 (fun r n' M' => r = some (.int (iI (((chl nd v.toNat).length : Nat) : Int))) ∧ n' = n ∧ M' = M ∧ S 9 = 1 ∧ 0 ≤ v ∧ v < (nd.length : Int)) (NdX S nd n M v) := by
  refine Fx.of (by decide) [some _, some _] rfl rfl (Nat.le_of_ble_eq_true rfl) ?_
  intro g G hO hT htab
  obtain ⟨g6, g64, gi, gp⟩ := id hnd
  rw [← g6] at g64
  refine J.aload_n (pc := 0) G dX3_children_0 rfl ?_
  refine J.iload_n (pc := 1) G dX3_children_1 rfl ?_
  refine J.callXV (pc := 2) (na := 1) G (c_checkNode n M hX hS hT9 g64 hv) q523 q525 qp24 q526 q1 (by decide +kernel) dX3_children_2 (hX.at 0 rfl) rfl rfl (Nat.le_of_ble_eq_true rfl) rfl ⟨by omega, by decide, by omega, by omega⟩ (fun E9 n9 M9 h9 => JX.out G hT htab (by omega) (by omega) (by unfold NdX; rw [← g6]; exact h9)) ?_
  rintro r9 n9 M9 ⟨hr9, hn9, hM9, ⟨hs1, hv0, hv8⟩⟩
  subst hr9
  rw [hn9, hM9]
  clear hn9 hM9 n9 M9
  dsimp only [Option.toList, List.cons_append, List.nil_append]
  rw [g6] at hv8
  have hgi := (gi v.toNat (by omega)).2.2.2.1
  rw [show v = ((v.toNat : Nat) : Int) by omega]
  have hT8 := hT
  have hT := hT9
  refine J.aload_n (pc := 5) G dX3_children_5 rfl ?_
  refine J.getf (pc := 6) (ci := 3) G inX3 rfl 8 q142 dX3_children_6 (hX.at 0 rfl) (by decide) rfl ?_
  refine J.getf (pc := 9) (ci := 2) G inX2 rfl 3 q41 dX3_children_9 (hT.at 0 rfl) (by decide) rfl ?_
  refine J.iload_n (pc := 12) G dX3_children_12 rfl ?_
  refine J.ialdN (pc := 13) G dX3_children_13 (hT.at 4 rfl) (by omega) (by decide) ?_
  rw [hgi]
  exact J.iret (pc := 14) G hO dX3_children_14 (by decide) (by decide) ⟨rfl, rfl, rfl, hs1, hv0, hv8⟩
set_option maxRecDepth 100000 in
set_option maxHeartbeats 4000000 in
theorem c_parent (n : Nat) (M : AH) {a : Nat} {v : Int} {A : Nat → Nat → Nat} {S : Nat → Nat} {B : Nat → Nat → Nat} {P : Nat → Int} {T : Nat → Nat} {nd : List Nd} (hX : Cl M a (minC a A S)) (hS : S 9 ≤ 1) (hT9 : Cl M (a + 7) (treeC (a + 7) B P T)) (hnd : TreeIs B P T nd) (hv : Rng v) : Fx yX3_parent cX3_parent 2 (some .int) 8 [.ref a, .int (iI v)] n M 2 12 (fun r n' M' => r = some (.int (iI (ndP nd v.toNat))) ∧ n' = n ∧ M' = M ∧ S 9 = 1 ∧ 0 ≤ v ∧ v < (nd.length : Int)) (NdX S nd n M v) := by
  refine Fx.of (by decide) [some _, some _] rfl rfl (Nat.le_of_ble_eq_true rfl) ?_
  intro g G hO hT htab
  obtain ⟨g6, g64, gi, gp⟩ := id hnd
  rw [← g6] at g64
  refine J.aload_n (pc := 0) G dX3_parent_0 rfl ?_
  refine J.iload_n (pc := 1) G dX3_parent_1 rfl ?_
  refine J.callXV (pc := 2) (na := 1) G (c_checkNode n M hX hS hT9 g64 hv) q523 q525 qp24 q526 q1 (by decide +kernel) dX3_parent_2 (hX.at 0 rfl) rfl rfl (Nat.le_of_ble_eq_true rfl) rfl ⟨by omega, by decide, by omega, by omega⟩ (fun E9 n9 M9 h9 => JX.out G hT htab (by omega) (by omega) (by unfold NdX; rw [← g6]; exact h9)) ?_
  rintro r9 n9 M9 ⟨hr9, hn9, hM9, ⟨hs1, hv0, hv8⟩⟩
  subst hr9
  rw [hn9, hM9]
  clear hn9 hM9 n9 M9
  dsimp only [Option.toList, List.cons_append, List.nil_append]
  rw [g6] at hv8
  have hgi := (gi v.toNat (by omega)).2.2.1
  rw [show v = ((v.toNat : Nat) : Int) by omega]
  have hT8 := hT
  have hT := hT9
  refine J.aload_n (pc := 5) G dX3_parent_5 rfl ?_
  refine J.getf (pc := 6) (ci := 3) G inX3 rfl 8 q142 dX3_parent_6 (hX.at 0 rfl) (by decide) rfl ?_
  refine J.getf (pc := 9) (ci := 2) G inX2 rfl 2 q38 dX3_parent_9 (hT.at 0 rfl) (by decide) rfl ?_
  refine J.iload_n (pc := 12) G dX3_parent_12 rfl ?_
  refine J.iald (pc := 13) G dX3_parent_13 (hT.at 3 rfl) v.toNat rfl (by omega) (by decide) ?_
  rw [hgi]
  exact J.iret (pc := 14) G hO dX3_parent_14 (by decide) (by decide) ⟨rfl, rfl, rfl, hs1, hv0, hv8⟩
set_option maxRecDepth 100000 in
set_option maxHeartbeats 4000000 in
theorem c_child (n : Nat) (M : AH) {a : Nat} {u v : Int} {A : Nat → Nat → Nat} {S : Nat → Nat} {B : Nat → Nat → Nat} {P : Nat → Int} {T : Nat → Nat} {nd : List Nd} (hX : Cl M a (minC a A S)) (hS : S 9 ≤ 1) (hT9 : Cl M (a + 7) (treeC (a + 7) B P T)) (hnd : TreeIs B P T nd) (hu : Rng u) (hv : Rng v) : Fx yX3_child cX3_child 3 (some .int) 8 [.ref a, .int (iI u), .int (iI v)] n M 3 18 (fun r n' M' => r = some (.int (iI ((gd (chl nd u.toNat) v.toNat : Nat) : Int))) ∧ n' = n ∧ M' = M ∧ S 9 = 1 ∧ (0 ≤ u ∧ u < (nd.length : Int)) ∧ 0 ≤ v ∧ v < ((chl nd u.toNat).length : Int)) (fun E n' M' => n ≤ n' ∧ M' = M ∧ ((E = ISE ∧ S 9 = 0) ∨ (E = IOB ∧ S 9 = 1 ∧ ¬ ((0 ≤ u ∧ u < (nd.length : Int)) ∧ 0 ≤ v ∧ v < ((chl nd u.toNat).length : Int))))) := by
  refine Fx.of (by decide) [some _, some _, some _] rfl rfl (Nat.le_of_ble_eq_true rfl) ?_
  intro g G hO hT htab
  obtain ⟨hv1, hv2⟩ := hv
  obtain ⟨g6, g64, gi, gp⟩ := id hnd
  rw [← g6] at g64
  refine J.aload_n (pc := 0) G dX3_child_0 rfl ?_
  refine J.iload_n (pc := 1) G dX3_child_1 rfl ?_
  refine J.callXV (pc := 2) (na := 1) G (c_checkNode n M hX hS hT9 g64 hu) q523 q525 qp24 q526 q1 (by decide +kernel) dX3_child_2 (hX.at 0 rfl) rfl rfl (Nat.le_of_ble_eq_true rfl) rfl ⟨by omega, by decide, by omega, by omega⟩ (fun E9 n9 M9 h9 => JX.out G hT htab (by omega) (by omega) (by rw [← g6]; exact ⟨h9.1, h9.2.1, h9.2.2.imp id (fun h => ⟨h.1, h.2.1, fun h2 => h.2.2 h2.1⟩)⟩)) ?_
  rintro r9 n9 M9 ⟨hr9, hn9, hM9, ⟨hs1, hu0, hu8⟩⟩
  subst hr9
  rw [hn9, hM9]
  clear hn9 hM9 n9 M9
  dsimp only [Option.toList, List.cons_append, List.nil_append]
  rw [g6] at hu8
  have eu : ((u.toNat : Nat) : Int) = u := by omega
  generalize u.toNat = w at hO eu
  subst eu
  have hgi := hnd.kids (i := w) (by omega)
  have kx : ¬ (0 ≤ v ∧ v < ((chl nd w).length : Int)) → J g 2 12 n M [some (.ref a), some (.int (iI (w : Int))), some (.int (iI v))] 22 [] := fun h => J.throwS (pc := 22) G hT htab twI (text := "no such child") (by decide) dX3_child_22 dX3_child_25 dX3_child_26 dX3_child_28 dX3_child_31 (by decide) (Nat.le_refl _) (Nat.le_refl _) (by decide) rfl (fun n' hn => ⟨hn, rfl, Or.inr ⟨rfl, hs1, fun h2 => h h2.2⟩⟩)
  refine J.iload_n (pc := 5) G dX3_child_5 rfl ?_
  refine J.if_lt (pc := 6) (tgt := 22) G dX3_child_6 (by decide) hv1 hv2 (fun h => kx (by omega)) (fun h => ?_)
  have hT8 := hT
  have hT := hT9
  refine J.iload_n (pc := 9) G dX3_child_9 rfl ?_
  refine J.aload_n (pc := 10) G dX3_child_10 rfl ?_
  refine J.getf (pc := 11) (ci := 3) G inX3 rfl 8 q142 dX3_child_11 (hX.at 0 rfl) (by decide) rfl ?_
  refine J.getf (pc := 14) (ci := 2) G inX2 rfl 3 q41 dX3_child_14 (hT.at 0 rfl) (by decide) rfl ?_
  refine J.iload_n (pc := 17) G dX3_child_17 rfl ?_
  refine J.ialdN (pc := 18) G dX3_child_18 (hT.at 4 rfl) (by omega) (by decide) ?_
  rw [hgi.1]
  refine J.icmp_lt (pc := 19) (tgt := 32) G dX3_child_19 (by decide) hv1 hv2 (by omega) (by omega) (fun h2 => ?_) (fun h2 => kx (by omega))
  rw [show v = ((v.toNat : Nat) : Int) by omega]
  refine J.aload_n (pc := 32) G dX3_child_32 rfl ?_
  refine J.getf (pc := 33) (ci := 3) G inX3 rfl 8 q142 dX3_child_33 (hX.at 0 rfl) (by decide) rfl ?_
  refine J.iload_n (pc := 36) G dX3_child_36 rfl ?_
  refine J.iload_n (pc := 37) G dX3_child_37 rfl ?_
  refine J.callV (pc := 38) (na := 2) G (c_childOf n M hT hnd (i := w) (c := v.toNat) (by omega) (by omega)) q562 q563 q564 q565 q2 (by decide +kernel) dX3_child_38 (hT.at 0 rfl) rfl rfl (Nat.le_of_ble_eq_true rfl) rfl ⟨by omega, by decide, by omega, by omega⟩ ?_
  rintro r9 n9 M9 ⟨hr9, hn9, hM9⟩
  subst hr9
  rw [hn9, hM9]
  clear hn9 hM9 n9 M9
  dsimp only [Option.toList, List.cons_append, List.nil_append]
  exact J.iret (pc := 41) G hO dX3_child_41 (by decide) (by decide) ⟨rfl, rfl, rfl, hs1, ⟨hu0, hu8⟩, h, by omega⟩
set_option maxRecDepth 100000 in
set_option maxHeartbeats 4000000 in
theorem c_shortest (n : Nat) (M : AH) {a : Nat} {v : Int} {A : Nat → Nat → Nat} {S : Nat → Nat} {B : Nat → Nat → Nat} {P : Nat → Int} {T : Nat → Nat} {nd : List Nd} (hX : Cl M a (minC a A S)) (hS : S 9 ≤ 1) (hT9 : Cl M (a + 7) (treeC (a + 7) B P T)) (hnd : TreeIs B P T nd) (hkd : KdOk nd) (hch : ChOk nd) (hv : Rng v) : Fx yX3_shortest cX3_shortest 2 (some .int) 8 [.ref a, .int (iI v)] n M 2 12 (fun r n' M' => r = some (.int (iI ((lsF nd (B 6) (nd.length - v.toNat) v.toNat : Nat) : Int))) ∧ n' = n ∧ (∃ f, Cl M' (a + 7) (treeC (a + 7) (upAN B 6 f) P T)) ∧ Fr (a + 7) (a + 14) M M' ∧ S 9 = 1 ∧ 0 ≤ v ∧ v < (nd.length : Int)) (NdX S nd n M v) := by
  refine Fx.of (by decide) [some _, some _] rfl rfl (Nat.le_of_ble_eq_true rfl) ?_
  intro g G hO hT htab
  obtain ⟨g6, g64, gi, gp⟩ := id hnd
  rw [← g6] at g64
  refine J.aload_n (pc := 0) G dX3_shortest_0 rfl ?_
  refine J.iload_n (pc := 1) G dX3_shortest_1 rfl ?_
  refine J.callXV (pc := 2) (na := 1) G (c_checkNode n M hX hS hT9 g64 hv) q523 q525 qp24 q526 q1 (by decide +kernel) dX3_shortest_2 (hX.at 0 rfl) rfl rfl (Nat.le_of_ble_eq_true rfl) rfl ⟨by omega, by decide, by omega, by omega⟩ (fun E9 n9 M9 h9 => JX.out G hT htab (by omega) (by omega) (by unfold NdX; rw [← g6]; exact h9)) ?_
  rintro r9 n9 M9 ⟨hr9, hn9, hM9, ⟨hs1, hv0, hv8⟩⟩
  subst hr9
  rw [hn9, hM9]
  clear hn9 hM9 n9 M9
  dsimp only [Option.toList, List.cons_append, List.nil_append]
  rw [g6] at hv8
  rw [show v = ((v.toNat : Nat) : Int) by omega]
  have hT8 := hT
  have hT := hT9
  refine J.aload_n (pc := 5) G dX3_shortest_5 rfl ?_
  refine J.getf (pc := 6) (ci := 3) G inX3 rfl 8 q142 dX3_shortest_6 (hX.at 0 rfl) (by decide) rfl ?_
  refine J.iload_n (pc := 9) G dX3_shortest_9 rfl ?_
  refine J.callV (pc := 10) (na := 1) G (c_leastLabels n M hT hnd (i := v.toNat) (by omega) hkd hch) q573 q574 q575 q576 q2 (by decide +kernel) dX3_shortest_10 (hT.at 0 rfl) rfl rfl (Nat.le_of_ble_eq_true rfl) rfl ⟨by omega, by decide, by omega, by omega⟩ ?_
  rintro r9 n9 M7 ⟨hr9, hn9, ⟨hT7, hFr7⟩⟩
  subst hr9
  rw [hn9]
  clear hn9 n9
  dsimp only [Option.toList, List.cons_append, List.nil_append]
  exact J.iret (pc := 13) G hO dX3_shortest_13 (by decide) (by decide) ⟨rfl, rfl, hT7, hFr7, hs1, hv0, hv8⟩
set_option maxRecDepth 100000 in
set_option maxHeartbeats 4000000 in
theorem c_height (n : Nat) (M : AH) {a : Nat} {A : Nat → Nat → Nat} {S : Nat → Nat} {B : Nat → Nat → Nat} {P : Nat → Int} {T : Nat → Nat} {nd : List Nd} (hX : Cl M a (minC a A S)) (hS : S 9 ≤ 1) (hT9 : Cl M (a + 7) (treeC (a + 7) B P T)) (hnd : TreeIs B P T nd) (hpm : ∀ i, i < nd.length → -1 ≤ ndP nd i) : Fx yX3_height cX3_height 1 (some .int) 8 [.ref a] n M 1 6 (fun r n' M' => r = some (.int (iI (((lvT nd (B 6) nd.length).2 : Nat) : Int))) ∧ n' = n ∧ (∃ f, Cl M' (a + 7) (treeC (a + 7) (upAN B 6 f) P T)) ∧ Fr (a + 7) (a + 14) M M' ∧ S 9 = 1) (fun E n' M' => E = ISE ∧ n ≤ n' ∧ M' = M ∧ S 9 = 0) := by
  refine Fx.of (by decide) [some _] rfl rfl (Nat.le_of_ble_eq_true rfl) ?_
  intro g G hO hT htab
  refine J.aload_n (pc := 0) G dX3_height_0 rfl ?_
  refine J.callXV (pc := 1) (na := 0) G (c_checkMined n M hX hS) q527 q529 qp25 q530 q1 (by decide +kernel) dX3_height_1 (hX.at 0 rfl) rfl rfl (Nat.le_of_ble_eq_true rfl) rfl ⟨by omega, by decide, by omega, by omega⟩ (fun E9 n9 M9 h9 => JX.out G hT htab (by omega) (by omega) (h9)) ?_
  rintro r9 n9 M9 ⟨hr9, hn9, hM9, hs1⟩
  subst hr9
  rw [hn9, hM9]
  clear hn9 hM9 n9 M9
  dsimp only [Option.toList, List.cons_append, List.nil_append]
  have hT8 := hT
  have hT := hT9
  refine J.aload_n (pc := 4) G dX3_height_4 rfl ?_
  refine J.getf (pc := 5) (ci := 3) G inX3 rfl 8 q142 dX3_height_5 (hX.at 0 rfl) (by decide) rfl ?_
  refine J.callV (pc := 8) (na := 0) G (c_countLevels n M hT hnd hpm) q600 q601 q602 q603 q2 (by decide +kernel) dX3_height_8 (hT.at 0 rfl) rfl rfl (Nat.le_of_ble_eq_true rfl) rfl ⟨by omega, by decide, by omega, by omega⟩ ?_
  rintro r9 n9 M7 ⟨hr9, hn9, ⟨hT7, hFr7⟩⟩
  subst hr9
  rw [hn9]
  clear hn9 n9
  dsimp only [Option.toList, List.cons_append, List.nil_append]
  exact J.iret (pc := 11) G hO dX3_height_11 (by decide) (by decide) ⟨rfl, rfl, hT7, hFr7, hs1⟩
end MIN3
