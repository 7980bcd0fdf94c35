section MIN1
set_option maxRecDepth 100000 in
set_option maxHeartbeats 4000000 in
theorem c_checkTimes (n : Nat) (M : AH) {v : Int} (hv : Rng v) : Fx yX3_checkTimes cX3_checkTimes 1 none 6 [.int (iI v)] n M 1 6 (fun r n' M' => r = none ∧ n' = n ∧ M' = M ∧ 0 ≤ v ∧ v ≤ 99) (fun E n' M' => E = IAE ∧ n ≤ n' ∧ M' = M ∧ ¬ (0 ≤ v ∧ v ≤ 99)) := by
  refine Fx.of (by decide) [some _] rfl rfl (Nat.le_of_ble_eq_true rfl) ?_
  intro g G hO hT htab
  obtain ⟨hv1, hv2⟩ := hv
  have kx : ¬ (0 ≤ v ∧ v ≤ 99) → J g 0 0 n M [some (.int (iI v))] 10 [] := fun h => J.throwS (pc := 10) G hT htab twA (text := "the times are not 0 to 99") (by decide) dX3_checkTimes_10 dX3_checkTimes_13 dX3_checkTimes_14 dX3_checkTimes_16 dX3_checkTimes_19 (Nat.le_refl _) (Nat.le_refl _) (Nat.le_refl _) (by decide) rfl (fun n' hn => ⟨rfl, hn, rfl, h⟩)
  refine J.iload_n (pc := 0) G dX3_checkTimes_0 rfl ?_
  refine J.if_lt (pc := 1) (tgt := 10) G dX3_checkTimes_1 (by decide) hv1 hv2 (fun h => kx (by omega)) (fun h => ?_)
  refine J.iload_n (pc := 4) G dX3_checkTimes_4 rfl ?_
  refine J.bipushN (pc := 5) G dX3_checkTimes_5 99 (by decide +kernel) ?_
  refine J.icmp_le (pc := 7) (tgt := 20) G dX3_checkTimes_7 (by decide) hv1 hv2 (by omega) (by omega) (fun h2 => ?_) (fun h2 => kx (by omega))
  exact J.vret (pc := 20) G hO dX3_checkTimes_20 (by decide) (by decide) ⟨rfl, rfl, rfl, h, by omega⟩
set_option maxRecDepth 100000 in
set_option maxHeartbeats 4000000 in
theorem c_checkTrace (n : Nat) (M : AH) {a : Nat} {v : Int} {A : Nat → Nat → Nat} {S : Nat → Nat} (hX : Cl M a (minC a A S)) (hS : S 5 ≤ 10) (hv : Rng v) : Fx yX3_checkTrace cX3_checkTrace 2 none 6 [.ref a, .int (iI v)] n M 1 6 (fun r n' M' => r = none ∧ n' = n ∧ M' = M ∧ 0 ≤ v ∧ v < (S 5 : Int)) (fun E n' M' => E = IOB ∧ n ≤ n' ∧ M' = M ∧ ¬ (0 ≤ v ∧ v < (S 5 : Int))) := by
  refine Fx.of (by decide) [some _, some _] rfl rfl (Nat.le_of_ble_eq_true rfl) ?_
  intro g G hO hT htab
  obtain ⟨hv1, hv2⟩ := hv
  have kx : ¬ (0 ≤ v ∧ v < (S 5 : Int)) → J g 0 0 n M [some (.ref a), some (.int (iI v))] 12 [] := fun h => J.throwS (pc := 12) G hT htab twI (text := "no such trace") (by decide) dX3_checkTrace_12 dX3_checkTrace_15 dX3_checkTrace_16 dX3_checkTrace_18 dX3_checkTrace_21 (Nat.le_refl _) (Nat.le_refl _) (Nat.le_refl _) (by decide) rfl (fun n' hn => ⟨rfl, hn, rfl, h⟩)
  refine J.iload_n (pc := 0) G dX3_checkTrace_0 rfl ?_
  refine J.if_lt (pc := 1) (tgt := 12) G dX3_checkTrace_1 (by decide) hv1 hv2 (fun h => kx (by omega)) (fun h => ?_)
  refine J.iload_n (pc := 4) G dX3_checkTrace_4 rfl ?_
  refine J.aload_n (pc := 5) G dX3_checkTrace_5 rfl ?_
  refine J.getf (pc := 6) (ci := 3) G inX3 rfl 5 q140 dX3_checkTrace_6 (hX.at 0 rfl) (by decide) rfl ?_
  refine J.icmp_lt (pc := 9) (tgt := 22) G dX3_checkTrace_9 (by decide) hv1 hv2 (by omega) (by omega) (fun h2 => ?_) (fun h2 => kx (by omega))
  exact J.vret (pc := 22) G hO dX3_checkTrace_22 (by decide) (by decide) ⟨rfl, rfl, rfl, h, by omega⟩
set_option maxRecDepth 100000 in
set_option maxHeartbeats 4000000 in
theorem c_checkMined (n : Nat) (M : AH) {a : Nat} {A : Nat → Nat → Nat} {S : Nat → Nat} (hX : Cl M a (minC a A S)) (hS : S 9 ≤ 1) : Fx yX3_checkMined cX3_checkMined 1 none 6 [.ref a] n M 1 6 (fun r n' M' => r = none ∧ n' = n ∧ M' = M ∧ S 9 = 1) (fun E n' M' => E = ISE ∧ n ≤ n' ∧ M' = M ∧ S 9 = 0) := by
  refine Fx.of (by decide) [some _] rfl rfl (Nat.le_of_ble_eq_true rfl) ?_
  intro g G hO hT htab
  refine J.aload_n (pc := 0) G dX3_checkMined_0 rfl ?_
  refine J.getf (pc := 1) (ci := 3) G inX3 rfl 9 q144 dX3_checkMined_1 (hX.at 0 rfl) (by decide) rfl ?_
  refine J.if_neN (pc := 4) (tgt := 17) G dX3_checkMined_4 (by decide) (by omega) (fun h => ?_) (fun h => ?_)
  · exact J.vret (pc := 17) G hO dX3_checkMined_17 (by decide) (by decide) ⟨rfl, rfl, rfl, by omega⟩
  · exact J.throwS (pc := 7) G hT htab twS (text := "nothing was mined since the last change") (by decide) dX3_checkMined_7 dX3_checkMined_10 dX3_checkMined_11 dX3_checkMined_13 dX3_checkMined_16 (Nat.le_refl _) (Nat.le_refl _) (Nat.le_refl _) (by decide) rfl (fun n' hn => ⟨rfl, hn, rfl, h⟩)
set_option maxRecDepth 100000 in
set_option maxHeartbeats 4000000 in
theorem c_checkNode (n : Nat) (M : AH) {a : Nat} {v : Int} {A : Nat → Nat → Nat} {S : Nat → Nat} {B : Nat → Nat → Nat} {P : Nat → Int} {T : Nat → Nat} (hX : Cl M a (minC a A S)) (hS : S 9 ≤ 1) (hT9 : Cl M (a + 7) (treeC (a + 7) B P T)) (h64 : T 6 ≤ 64) (hv : Rng v) : Fx yX3_checkNode cX3_checkNode 2 none 7 [.ref a, .int (iI v)] n M 2 12 (fun r n' M' => r = none ∧ n' = n ∧ M' = M ∧ S 9 = 1 ∧ 0 ≤ v ∧ v < (T 6 : Int)) (fun E n' M' => n ≤ n' ∧ M' = M ∧ ((E = ISE ∧ S 9 = 0) ∨ (E = IOB ∧ S 9 = 1 ∧ ¬ (0 ≤ v ∧ v < (T 6 : Int))))) := by
  refine Fx.of (by decide) [some _, some _] rfl rfl (Nat.le_of_ble_eq_true rfl) ?_
  intro g G hO hT htab
  obtain ⟨hv1, hv2⟩ := hv
  refine J.aload_n (pc := 0) G dX3_checkNode_0 rfl ?_
  refine J.callXV (pc := 1) (na := 0) G (c_checkMined n M hX hS) q527 q529 qp25 q530 q1 (by decide +kernel) dX3_checkNode_1 (hX.at 0 rfl) rfl rfl (Nat.le_of_ble_eq_true rfl) rfl ⟨by omega, by decide, by omega, by omega⟩ (fun E9 n9 M9 h9 => JX.out G hT htab (by omega) (by omega) (⟨h9.2.1, h9.2.2.1, Or.inl ⟨h9.1, h9.2.2.2⟩⟩)) ?_
  rintro r9 n9 M9 ⟨hr9, hn9, hM9, hs1⟩
  subst hr9
  rw [hn9, hM9]
  clear hn9 hM9 n9 M9
  dsimp only [Option.toList, List.cons_append, List.nil_append]
  have kx : ¬ (0 ≤ v ∧ v < (T 6 : Int)) → J g 1 6 n M [some (.ref a), some (.int (iI v))] 19 [] := fun h => J.throwS (pc := 19) G hT htab twI (text := "no such node") (by decide) dX3_checkNode_19 dX3_checkNode_22 dX3_checkNode_23 dX3_checkNode_25 dX3_checkNode_28 (by decide) (Nat.le_refl _) (Nat.le_refl _) (by decide) rfl (fun n' hn => ⟨hn, rfl, Or.inr ⟨rfl, hs1, h⟩⟩)
  refine J.iload_n (pc := 4) G dX3_checkNode_4 rfl ?_
  refine J.if_lt (pc := 5) (tgt := 19) G dX3_checkNode_5 (by decide) hv1 hv2 (fun h => kx (by omega)) (fun h => ?_)
  have hT8 := hT
  have hT := hT9
  refine J.iload_n (pc := 8) G dX3_checkNode_8 rfl ?_
  refine J.aload_n (pc := 9) G dX3_checkNode_9 rfl ?_
  refine J.getf (pc := 10) (ci := 3) G inX3 rfl 8 q142 dX3_checkNode_10 (hX.at 0 rfl) (by decide) rfl ?_
  refine J.getf (pc := 13) (ci := 2) G inX2 rfl 6 q46 dX3_checkNode_13 (hT.at 0 rfl) (by decide) rfl ?_
  refine J.icmp_lt (pc := 16) (tgt := 29) G dX3_checkNode_16 (by decide) hv1 hv2 (by omega) (by omega) (fun h2 => ?_) (fun h2 => kx (by omega))
  exact J.vret (pc := 29) G hO dX3_checkNode_29 (by decide) (by decide) ⟨rfl, rfl, rfl, hs1, h, by omega⟩
/-- what stands in the miner itself -/
def MnOk (A : Nat → Nat → Nat) (S : Nat → Nat) : Prop := S 1 ≤ 12 ∧ S 5 ≤ 10 ∧ S 9 ≤ 1 ∧ (∀ i, i < 12 → A 1 i < 8) ∧ (∀ i, i < 120 → A 2 i < 8) ∧ (∀ t, t < 10 → A 3 t ≤ 12) ∧ (∀ t, t < 10 → A 4 t ≤ 99)
def evA (A : Nat → Nat → Nat) (S : Nat → Nat) (v : Nat) : Nat → Nat → Nat := upAN A 1 (upN (A 1) (S 1) v)
set_option maxRecDepth 100000 in
set_option maxHeartbeats 4000000 in
theorem c_event (n : Nat) (M0 : AH) {a : Nat} {v : Int} {A : Nat → Nat → Nat} {S : Nat → Nat} (hX : Cl M0 a (minC a A S)) (hok : MnOk A S) (hv : Rng v) : Fx yX3_event cX3_event 2 (some .int) 7 [.ref a, .int (iI v)] n M0 2 12 (fun r n' M' => r = some (.int (iI ((S 1 + 1 : Nat) : Int))) ∧ n' = n ∧ Cl M' a (minC a (evA A S v.toNat) (upN S 1 (S 1 + 1))) ∧ Fr a (a + 5) M0 M' ∧ 0 ≤ v ∧ v < 8 ∧ S 1 < 12) (fun E n' M' => n ≤ n' ∧ M' = M0 ∧ ((E = IOB ∧ ¬ (0 ≤ v ∧ v < 8)) ∨ (E = ISE ∧ (0 ≤ v ∧ v < 8) ∧ ¬ S 1 < 12))) := by
  refine Fx.of (by decide) [some _, some _] rfl rfl (Nat.le_of_ble_eq_true rfl) ?_
  intro g G hO hT htab
  obtain ⟨h1, h5, h9, hbu, -⟩ := hok
  have hFr : Fr a (a + 5) M0 M0 := Fr.rf
  refine J.iload_n (pc := 0) G dX3_event_0 rfl ?_
  refine J.callXS (pc := 1) (na := 1) G (c_checkLabel n M0 hv) q339 q340 q341 q1 (by decide +kernel) dX3_event_1 rfl (Nat.le_of_ble_eq_true rfl) rfl ⟨by omega, by decide, by omega, by omega⟩ (fun E9 n9 M9 h9 => JX.out G hT htab (by omega) (by omega) (⟨h9.2.1, h9.2.2.1, Or.inl ⟨h9.1, h9.2.2.2⟩⟩)) ?_
  rintro r9 n9 M9 ⟨hr9, hn9, hM9, ⟨hv0, hv8⟩⟩
  subst hr9
  rw [hn9, hM9]
  clear hn9 hM9 n9 M9
  dsimp only [Option.toList, List.cons_append, List.nil_append]
  generalize hM1 : M0 = M1 at hX hFr
  refine J.aload_n (pc := 4) G dX3_event_4 rfl ?_
  refine J.getf (pc := 5) (ci := 3) G inX3 rfl 1 q136 dX3_event_5 (hX.at 0 rfl) (by decide) rfl ?_
  refine J.bipushN (pc := 8) G dX3_event_8 12 (by decide +kernel) ?_
  refine J.icmp_ltN (pc := 10) (tgt := 23) G dX3_event_10 (by decide) (by omega) (by omega) (fun h => ?_) (fun h => ?_)
  · rw [show v = ((v.toNat : Nat) : Int) by omega]
    refine J.aload_n (pc := 23) G dX3_event_23 rfl ?_
    refine J.getf (pc := 24) (ci := 3) G inX3 rfl 0 q135 dX3_event_24 (hX.at 0 rfl) (by decide) rfl ?_
    refine J.aload_n (pc := 27) G dX3_event_27 rfl ?_
    refine J.getf (pc := 28) (ci := 3) G inX3 rfl 1 q136 dX3_event_28 (hX.at 0 rfl) (by decide) rfl ?_
    refine J.iload_n (pc := 31) G dX3_event_31 rfl ?_
    refine J.iastN (pc := 32) G dX3_event_32 (hX.at 1 rfl) (by omega) (by decide) (fun M hput hag => ?_)
    have hX := minA1 hX hput hag
    have hFr := hFr.put hag (by omega) (by omega)
    clear hput hag
    refine J.aload_n (pc := 33) G dX3_event_33 rfl ?_
    refine J.dup (pc := 34) G dX3_event_34 rfl ?_
    refine J.getf (pc := 35) (ci := 3) G inX3 rfl 1 q136 dX3_event_35 (hX.at 0 rfl) (by decide) rfl ?_
    refine J.topv (b := iI (S 1 : Int)) rfl ?_
    refine J.iconstN (pc := 38) G dX3_event_38 1 rfl ?_
    refine J.iaddN (pc := 39) G dX3_event_39 ?_
    refine J.putf (pc := 40) (ci := 3) G inX3 rfl tyX3 tyX3_ok nmX3 1 q136 dX3_event_40 (hX.at 0 rfl) (by decide) (Nat.le_of_ble_eq_true rfl) (Or.inl rfl) (tyX3_ok 1 (by decide)) (by first | rfl | decide +kernel) (by first | rfl | decide +kernel) (fun M hput hag => ?_)
    have hX := minS1 hX hput hag
    have hFr := hFr.put hag (by omega) (by omega)
    clear hput hag
    refine J.aload_n (pc := 43) G dX3_event_43 rfl ?_
    refine J.getf (pc := 44) (ci := 3) G inX3 rfl 1 q136 dX3_event_44 (hX.at 0 rfl) (by decide) rfl ?_
    refine J.topv (b := iI ((S 1 + 1 : Nat) : Int)) rfl ?_
    exact J.iret (pc := 47) G hO dX3_event_47 (by decide) (by decide) ⟨rfl, rfl, hX, hM1 ▸ hFr, hv0, hv8, h⟩
  · exact J.throwS (pc := 13) G hT htab twS (text := "the buffer is full") (by decide) dX3_event_13 dX3_event_16 dX3_event_17 dX3_event_19 dX3_event_22 (by decide) (Nat.le_refl _) (Nat.le_refl _) (by decide) rfl (fun n' hn => ⟨hn, hM1.symm, Or.inr ⟨rfl, ⟨hv0, hv8⟩, by omega⟩⟩)
end MIN1
