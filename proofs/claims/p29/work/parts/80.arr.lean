section BIT1
/-- the place of a set's lowest member -/
def loF (m : Nat) : Nat := firstU (fun i => m.testBit i) 8
theorem ntz_ok : ∀ m : Nat, m < 256 → 0 < m → loF m < 8 ∧ (iI (m : Int) ^^^ iI (-1)) &&& (iI (m : Int) - iI ((1 : Nat) : Int)) = iI ((2 ^ loF m - 1 : Nat) : Int) := by
  have h : (List.range 256).all (fun m => decide (m = 0) || (decide (loF m < 8) && decide ((iI (m : Int) ^^^ iI (-1)) &&& (iI (m : Int) - iI ((1 : Nat) : Int)) = iI ((2 ^ loF m - 1 : Nat) : Int)))) = true := by decide +kernel
  intro m hm h0
  have := List.all_eq_true.mp h m (List.mem_range.mpr hm)
  rw [decide_eq_false (by omega), Bool.false_or, Bool.and_eq_true] at this
  exact ⟨of_decide_eq_true this.1, of_decide_eq_true this.2⟩
set_option maxRecDepth 100000 in
set_option maxHeartbeats 4000000 in
theorem c_ntz (n : Nat) (M : AH) {m : Nat} (hm : m < 256) (h0 : 0 < m) : Fn yJ6_numberOfTrailingZeros_0f7a4 cJ6_numberOfTrailingZeros_0f7a4 2 (some .int) 0 [.int (iI (m : Int))] n M 0 0 (fun r n' M' => r = some (.int (iI ((loF m : Nat) : Int))) ∧ n' = n ∧ M' = M) := by
  refine Fn.of (by decide) [some _, none] rfl rfl (Nat.le_of_ble_eq_true rfl) ?_
  intro g G hin hO
  obtain ⟨h8, e2⟩ := ntz_ok m hm h0
  generalize iI (m : Int) = x0 at e2 ⊢
  refine J.iload_n (pc := 0) G dJ6_numberOfTrailingZeros_0f7a4_0 rfl ?_
  refine J.iconst (pc := 1) G dJ6_numberOfTrailingZeros_0f7a4_1 ?_
  refine J.ixor_r (pc := 2) G dJ6_numberOfTrailingZeros_0f7a4_2 ?_
  refine J.iload_n (pc := 3) G dJ6_numberOfTrailingZeros_0f7a4_3 rfl ?_
  refine J.iconstN (pc := 4) G dJ6_numberOfTrailingZeros_0f7a4_4 1 rfl ?_
  refine J.isub_r (pc := 5) G dJ6_numberOfTrailingZeros_0f7a4_5 ?_
  refine J.iand_r (pc := 6) G dJ6_numberOfTrailingZeros_0f7a4_6 ?_
  generalize loF m = kb at h8 e2 hO
  rcases (show kb = 0 ∨ kb = 1 ∨ kb = 2 ∨ kb = 3 ∨ kb = 4 ∨ kb = 5 ∨ kb = 6 ∨ kb = 7 by omega) with rfl | rfl | rfl | rfl | rfl | rfl | rfl | rfl
  · rw [e2]
    refine J.istore_n (L' := [_, _]) (pc := 7) G dJ6_numberOfTrailingZeros_0f7a4_7 rfl (Nat.le_of_ble_eq_true rfl) rfl ?_
    refine J.iload_n (pc := 8) G dJ6_numberOfTrailingZeros_0f7a4_8 rfl ?_
    refine J.if_gtN (pc := 9) (tgt := 17) G dJ6_numberOfTrailingZeros_0f7a4_9 (by decide) (by decide) (fun h => absurd h (by decide)) (fun _ => ?_)
    refine J.iload_n (pc := 12) G dJ6_numberOfTrailingZeros_0f7a4_12 rfl ?_
    refine J.bipushN (pc := 13) G dJ6_numberOfTrailingZeros_0f7a4_13 32 (by decide +kernel) ?_
    refine J.iandN (pc := 15) G dJ6_numberOfTrailingZeros_0f7a4_15 ?_
    exact J.iret (pc := 16) G hO dJ6_numberOfTrailingZeros_0f7a4_16 (by decide) (by decide) ⟨rfl, rfl, rfl⟩
  · rw [e2]
    refine J.istore_n (L' := [_, _]) (pc := 7) G dJ6_numberOfTrailingZeros_0f7a4_7 rfl (Nat.le_of_ble_eq_true rfl) rfl ?_
    refine J.iload_n (pc := 8) G dJ6_numberOfTrailingZeros_0f7a4_8 rfl ?_
    refine J.if_gtN (pc := 9) (tgt := 17) G dJ6_numberOfTrailingZeros_0f7a4_9 (by decide) (by decide) (fun _ => ?_) (fun h => absurd h (by decide))
    refine J.iconstN (pc := 17) G dJ6_numberOfTrailingZeros_0f7a4_17 1 rfl ?_
    refine J.istore_n (L' := [_, _]) (pc := 18) G dJ6_numberOfTrailingZeros_0f7a4_18 rfl (Nat.le_of_ble_eq_true rfl) rfl ?_
    refine J.iload_n (pc := 19) G dJ6_numberOfTrailingZeros_0f7a4_19 rfl ?_
    refine J.ldcw (pc := 20) G q865 dJ6_numberOfTrailingZeros_0f7a4_20 ?_
    refine J.topv (b := iI ((65536 : Nat) : Int)) (by decide +kernel) ?_
    refine J.icmp_leN (pc := 23) (tgt := 34) G dJ6_numberOfTrailingZeros_0f7a4_23 (by decide) (by decide) (by decide) (fun _ => ?_) (fun h => absurd h (by decide))
    refine J.iload_n (pc := 34) G dJ6_numberOfTrailingZeros_0f7a4_34 rfl ?_
    refine J.sipushN (pc := 35) G dJ6_numberOfTrailingZeros_0f7a4_35 256 (by decide +kernel) ?_
    refine J.icmp_leN (pc := 38) (tgt := 49) G dJ6_numberOfTrailingZeros_0f7a4_38 (by decide) (by decide) (by decide) (fun _ => ?_) (fun h => absurd h (by decide))
    refine J.iload_n (pc := 49) G dJ6_numberOfTrailingZeros_0f7a4_49 rfl ?_
    refine J.bipushN (pc := 50) G dJ6_numberOfTrailingZeros_0f7a4_50 16 (by decide +kernel) ?_
    refine J.icmp_leN (pc := 52) (tgt := 62) G dJ6_numberOfTrailingZeros_0f7a4_52 (by decide) (by decide) (by decide) (fun _ => ?_) (fun h => absurd h (by decide))
    refine J.iload_n (pc := 62) G dJ6_numberOfTrailingZeros_0f7a4_62 rfl ?_
    refine J.iconstN (pc := 63) G dJ6_numberOfTrailingZeros_0f7a4_63 4 rfl ?_
    refine J.icmp_leN (pc := 64) (tgt := 74) G dJ6_numberOfTrailingZeros_0f7a4_64 (by decide) (by decide) (by decide) (fun _ => ?_) (fun h => absurd h (by decide))
    refine J.iload_n (pc := 74) G dJ6_numberOfTrailingZeros_0f7a4_74 rfl ?_
    refine J.iload_n (pc := 75) G dJ6_numberOfTrailingZeros_0f7a4_75 rfl ?_
    refine J.iconstN (pc := 76) G dJ6_numberOfTrailingZeros_0f7a4_76 1 rfl ?_
    refine J.iushr_r (pc := 77) G dJ6_numberOfTrailingZeros_0f7a4_77 ?_
    refine J.topv (b := iI ((0 : Nat) : Int)) (by decide +kernel) ?_
    refine J.iaddN (pc := 78) G dJ6_numberOfTrailingZeros_0f7a4_78 ?_
    exact J.iret (pc := 79) G hO dJ6_numberOfTrailingZeros_0f7a4_79 (by decide) (by decide) ⟨rfl, rfl, rfl⟩
  · rw [e2]
    refine J.istore_n (L' := [_, _]) (pc := 7) G dJ6_numberOfTrailingZeros_0f7a4_7 rfl (Nat.le_of_ble_eq_true rfl) rfl ?_
    refine J.iload_n (pc := 8) G dJ6_numberOfTrailingZeros_0f7a4_8 rfl ?_
    refine J.if_gtN (pc := 9) (tgt := 17) G dJ6_numberOfTrailingZeros_0f7a4_9 (by decide) (by decide) (fun _ => ?_) (fun h => absurd h (by decide))
    refine J.iconstN (pc := 17) G dJ6_numberOfTrailingZeros_0f7a4_17 1 rfl ?_
    refine J.istore_n (L' := [_, _]) (pc := 18) G dJ6_numberOfTrailingZeros_0f7a4_18 rfl (Nat.le_of_ble_eq_true rfl) rfl ?_
    refine J.iload_n (pc := 19) G dJ6_numberOfTrailingZeros_0f7a4_19 rfl ?_
    refine J.ldcw (pc := 20) G q865 dJ6_numberOfTrailingZeros_0f7a4_20 ?_
    refine J.topv (b := iI ((65536 : Nat) : Int)) (by decide +kernel) ?_
    refine J.icmp_leN (pc := 23) (tgt := 34) G dJ6_numberOfTrailingZeros_0f7a4_23 (by decide) (by decide) (by decide) (fun _ => ?_) (fun h => absurd h (by decide))
    refine J.iload_n (pc := 34) G dJ6_numberOfTrailingZeros_0f7a4_34 rfl ?_
    refine J.sipushN (pc := 35) G dJ6_numberOfTrailingZeros_0f7a4_35 256 (by decide +kernel) ?_
    refine J.icmp_leN (pc := 38) (tgt := 49) G dJ6_numberOfTrailingZeros_0f7a4_38 (by decide) (by decide) (by decide) (fun _ => ?_) (fun h => absurd h (by decide))
    refine J.iload_n (pc := 49) G dJ6_numberOfTrailingZeros_0f7a4_49 rfl ?_
    refine J.bipushN (pc := 50) G dJ6_numberOfTrailingZeros_0f7a4_50 16 (by decide +kernel) ?_
    refine J.icmp_leN (pc := 52) (tgt := 62) G dJ6_numberOfTrailingZeros_0f7a4_52 (by decide) (by decide) (by decide) (fun _ => ?_) (fun h => absurd h (by decide))
    refine J.iload_n (pc := 62) G dJ6_numberOfTrailingZeros_0f7a4_62 rfl ?_
    refine J.iconstN (pc := 63) G dJ6_numberOfTrailingZeros_0f7a4_63 4 rfl ?_
    refine J.icmp_leN (pc := 64) (tgt := 74) G dJ6_numberOfTrailingZeros_0f7a4_64 (by decide) (by decide) (by decide) (fun _ => ?_) (fun h => absurd h (by decide))
    refine J.iload_n (pc := 74) G dJ6_numberOfTrailingZeros_0f7a4_74 rfl ?_
    refine J.iload_n (pc := 75) G dJ6_numberOfTrailingZeros_0f7a4_75 rfl ?_
    refine J.iconstN (pc := 76) G dJ6_numberOfTrailingZeros_0f7a4_76 1 rfl ?_
    refine J.iushr_r (pc := 77) G dJ6_numberOfTrailingZeros_0f7a4_77 ?_
    refine J.topv (b := iI ((1 : Nat) : Int)) (by decide +kernel) ?_
    refine J.iaddN (pc := 78) G dJ6_numberOfTrailingZeros_0f7a4_78 ?_
    exact J.iret (pc := 79) G hO dJ6_numberOfTrailingZeros_0f7a4_79 (by decide) (by decide) ⟨rfl, rfl, rfl⟩
  · rw [e2]
    refine J.istore_n (L' := [_, _]) (pc := 7) G dJ6_numberOfTrailingZeros_0f7a4_7 rfl (Nat.le_of_ble_eq_true rfl) rfl ?_
    refine J.iload_n (pc := 8) G dJ6_numberOfTrailingZeros_0f7a4_8 rfl ?_
    refine J.if_gtN (pc := 9) (tgt := 17) G dJ6_numberOfTrailingZeros_0f7a4_9 (by decide) (by decide) (fun _ => ?_) (fun h => absurd h (by decide))
    refine J.iconstN (pc := 17) G dJ6_numberOfTrailingZeros_0f7a4_17 1 rfl ?_
    refine J.istore_n (L' := [_, _]) (pc := 18) G dJ6_numberOfTrailingZeros_0f7a4_18 rfl (Nat.le_of_ble_eq_true rfl) rfl ?_
    refine J.iload_n (pc := 19) G dJ6_numberOfTrailingZeros_0f7a4_19 rfl ?_
    refine J.ldcw (pc := 20) G q865 dJ6_numberOfTrailingZeros_0f7a4_20 ?_
    refine J.topv (b := iI ((65536 : Nat) : Int)) (by decide +kernel) ?_
    refine J.icmp_leN (pc := 23) (tgt := 34) G dJ6_numberOfTrailingZeros_0f7a4_23 (by decide) (by decide) (by decide) (fun _ => ?_) (fun h => absurd h (by decide))
    refine J.iload_n (pc := 34) G dJ6_numberOfTrailingZeros_0f7a4_34 rfl ?_
    refine J.sipushN (pc := 35) G dJ6_numberOfTrailingZeros_0f7a4_35 256 (by decide +kernel) ?_
    refine J.icmp_leN (pc := 38) (tgt := 49) G dJ6_numberOfTrailingZeros_0f7a4_38 (by decide) (by decide) (by decide) (fun _ => ?_) (fun h => absurd h (by decide))
    refine J.iload_n (pc := 49) G dJ6_numberOfTrailingZeros_0f7a4_49 rfl ?_
    refine J.bipushN (pc := 50) G dJ6_numberOfTrailingZeros_0f7a4_50 16 (by decide +kernel) ?_
    refine J.icmp_leN (pc := 52) (tgt := 62) G dJ6_numberOfTrailingZeros_0f7a4_52 (by decide) (by decide) (by decide) (fun _ => ?_) (fun h => absurd h (by decide))
    refine J.iload_n (pc := 62) G dJ6_numberOfTrailingZeros_0f7a4_62 rfl ?_
    refine J.iconstN (pc := 63) G dJ6_numberOfTrailingZeros_0f7a4_63 4 rfl ?_
    refine J.icmp_leN (pc := 64) (tgt := 74) G dJ6_numberOfTrailingZeros_0f7a4_64 (by decide) (by decide) (by decide) (fun h => absurd h (by decide)) (fun _ => ?_)
    refine J.iincN (L' := [_, _]) (pc := 67) G dJ6_numberOfTrailingZeros_0f7a4_67 2 rfl rfl rfl rfl ?_
    refine J.iload_n (pc := 70) G dJ6_numberOfTrailingZeros_0f7a4_70 rfl ?_
    refine J.iconstN (pc := 71) G dJ6_numberOfTrailingZeros_0f7a4_71 2 rfl ?_
    refine J.iushr_r (pc := 72) G dJ6_numberOfTrailingZeros_0f7a4_72 ?_
    refine J.topv (b := iI ((1 : Nat) : Int)) (by decide +kernel) ?_
    refine J.istore_n (L' := [_, _]) (pc := 73) G dJ6_numberOfTrailingZeros_0f7a4_73 rfl (Nat.le_of_ble_eq_true rfl) rfl ?_
    refine J.iload_n (pc := 74) G dJ6_numberOfTrailingZeros_0f7a4_74 rfl ?_
    refine J.iload_n (pc := 75) G dJ6_numberOfTrailingZeros_0f7a4_75 rfl ?_
    refine J.iconstN (pc := 76) G dJ6_numberOfTrailingZeros_0f7a4_76 1 rfl ?_
    refine J.iushr_r (pc := 77) G dJ6_numberOfTrailingZeros_0f7a4_77 ?_
    refine J.topv (b := iI ((0 : Nat) : Int)) (by decide +kernel) ?_
    refine J.iaddN (pc := 78) G dJ6_numberOfTrailingZeros_0f7a4_78 ?_
    exact J.iret (pc := 79) G hO dJ6_numberOfTrailingZeros_0f7a4_79 (by decide) (by decide) ⟨rfl, rfl, rfl⟩
  · rw [e2]
    refine J.istore_n (L' := [_, _]) (pc := 7) G dJ6_numberOfTrailingZeros_0f7a4_7 rfl (Nat.le_of_ble_eq_true rfl) rfl ?_
    refine J.iload_n (pc := 8) G dJ6_numberOfTrailingZeros_0f7a4_8 rfl ?_
    refine J.if_gtN (pc := 9) (tgt := 17) G dJ6_numberOfTrailingZeros_0f7a4_9 (by decide) (by decide) (fun _ => ?_) (fun h => absurd h (by decide))
    refine J.iconstN (pc := 17) G dJ6_numberOfTrailingZeros_0f7a4_17 1 rfl ?_
    refine J.istore_n (L' := [_, _]) (pc := 18) G dJ6_numberOfTrailingZeros_0f7a4_18 rfl (Nat.le_of_ble_eq_true rfl) rfl ?_
    refine J.iload_n (pc := 19) G dJ6_numberOfTrailingZeros_0f7a4_19 rfl ?_
    refine J.ldcw (pc := 20) G q865 dJ6_numberOfTrailingZeros_0f7a4_20 ?_
    refine J.topv (b := iI ((65536 : Nat) : Int)) (by decide +kernel) ?_
    refine J.icmp_leN (pc := 23) (tgt := 34) G dJ6_numberOfTrailingZeros_0f7a4_23 (by decide) (by decide) (by decide) (fun _ => ?_) (fun h => absurd h (by decide))
    refine J.iload_n (pc := 34) G dJ6_numberOfTrailingZeros_0f7a4_34 rfl ?_
    refine J.sipushN (pc := 35) G dJ6_numberOfTrailingZeros_0f7a4_35 256 (by decide +kernel) ?_
    refine J.icmp_leN (pc := 38) (tgt := 49) G dJ6_numberOfTrailingZeros_0f7a4_38 (by decide) (by decide) (by decide) (fun _ => ?_) (fun h => absurd h (by decide))
    refine J.iload_n (pc := 49) G dJ6_numberOfTrailingZeros_0f7a4_49 rfl ?_
    refine J.bipushN (pc := 50) G dJ6_numberOfTrailingZeros_0f7a4_50 16 (by decide +kernel) ?_
    refine J.icmp_leN (pc := 52) (tgt := 62) G dJ6_numberOfTrailingZeros_0f7a4_52 (by decide) (by decide) (by decide) (fun _ => ?_) (fun h => absurd h (by decide))
    refine J.iload_n (pc := 62) G dJ6_numberOfTrailingZeros_0f7a4_62 rfl ?_
    refine J.iconstN (pc := 63) G dJ6_numberOfTrailingZeros_0f7a4_63 4 rfl ?_
    refine J.icmp_leN (pc := 64) (tgt := 74) G dJ6_numberOfTrailingZeros_0f7a4_64 (by decide) (by decide) (by decide) (fun h => absurd h (by decide)) (fun _ => ?_)
    refine J.iincN (L' := [_, _]) (pc := 67) G dJ6_numberOfTrailingZeros_0f7a4_67 2 rfl rfl rfl rfl ?_
    refine J.iload_n (pc := 70) G dJ6_numberOfTrailingZeros_0f7a4_70 rfl ?_
    refine J.iconstN (pc := 71) G dJ6_numberOfTrailingZeros_0f7a4_71 2 rfl ?_
    refine J.iushr_r (pc := 72) G dJ6_numberOfTrailingZeros_0f7a4_72 ?_
    refine J.topv (b := iI ((3 : Nat) : Int)) (by decide +kernel) ?_
    refine J.istore_n (L' := [_, _]) (pc := 73) G dJ6_numberOfTrailingZeros_0f7a4_73 rfl (Nat.le_of_ble_eq_true rfl) rfl ?_
    refine J.iload_n (pc := 74) G dJ6_numberOfTrailingZeros_0f7a4_74 rfl ?_
    refine J.iload_n (pc := 75) G dJ6_numberOfTrailingZeros_0f7a4_75 rfl ?_
    refine J.iconstN (pc := 76) G dJ6_numberOfTrailingZeros_0f7a4_76 1 rfl ?_
    refine J.iushr_r (pc := 77) G dJ6_numberOfTrailingZeros_0f7a4_77 ?_
    refine J.topv (b := iI ((1 : Nat) : Int)) (by decide +kernel) ?_
    refine J.iaddN (pc := 78) G dJ6_numberOfTrailingZeros_0f7a4_78 ?_
    exact J.iret (pc := 79) G hO dJ6_numberOfTrailingZeros_0f7a4_79 (by decide) (by decide) ⟨rfl, rfl, rfl⟩
  · rw [e2]
    refine J.istore_n (L' := [_, _]) (pc := 7) G dJ6_numberOfTrailingZeros_0f7a4_7 rfl (Nat.le_of_ble_eq_true rfl) rfl ?_
    refine J.iload_n (pc := 8) G dJ6_numberOfTrailingZeros_0f7a4_8 rfl ?_
    refine J.if_gtN (pc := 9) (tgt := 17) G dJ6_numberOfTrailingZeros_0f7a4_9 (by decide) (by decide) (fun _ => ?_) (fun h => absurd h (by decide))
    refine J.iconstN (pc := 17) G dJ6_numberOfTrailingZeros_0f7a4_17 1 rfl ?_
    refine J.istore_n (L' := [_, _]) (pc := 18) G dJ6_numberOfTrailingZeros_0f7a4_18 rfl (Nat.le_of_ble_eq_true rfl) rfl ?_
    refine J.iload_n (pc := 19) G dJ6_numberOfTrailingZeros_0f7a4_19 rfl ?_
    refine J.ldcw (pc := 20) G q865 dJ6_numberOfTrailingZeros_0f7a4_20 ?_
    refine J.topv (b := iI ((65536 : Nat) : Int)) (by decide +kernel) ?_
    refine J.icmp_leN (pc := 23) (tgt := 34) G dJ6_numberOfTrailingZeros_0f7a4_23 (by decide) (by decide) (by decide) (fun _ => ?_) (fun h => absurd h (by decide))
    refine J.iload_n (pc := 34) G dJ6_numberOfTrailingZeros_0f7a4_34 rfl ?_
    refine J.sipushN (pc := 35) G dJ6_numberOfTrailingZeros_0f7a4_35 256 (by decide +kernel) ?_
    refine J.icmp_leN (pc := 38) (tgt := 49) G dJ6_numberOfTrailingZeros_0f7a4_38 (by decide) (by decide) (by decide) (fun _ => ?_) (fun h => absurd h (by decide))
    refine J.iload_n (pc := 49) G dJ6_numberOfTrailingZeros_0f7a4_49 rfl ?_
    refine J.bipushN (pc := 50) G dJ6_numberOfTrailingZeros_0f7a4_50 16 (by decide +kernel) ?_
    refine J.icmp_leN (pc := 52) (tgt := 62) G dJ6_numberOfTrailingZeros_0f7a4_52 (by decide) (by decide) (by decide) (fun h => absurd h (by decide)) (fun _ => ?_)
    refine J.iincN (L' := [_, _]) (pc := 55) G dJ6_numberOfTrailingZeros_0f7a4_55 4 rfl rfl rfl rfl ?_
    refine J.iload_n (pc := 58) G dJ6_numberOfTrailingZeros_0f7a4_58 rfl ?_
    refine J.iconstN (pc := 59) G dJ6_numberOfTrailingZeros_0f7a4_59 4 rfl ?_
    refine J.iushr_r (pc := 60) G dJ6_numberOfTrailingZeros_0f7a4_60 ?_
    refine J.topv (b := iI ((1 : Nat) : Int)) (by decide +kernel) ?_
    refine J.istore_n (L' := [_, _]) (pc := 61) G dJ6_numberOfTrailingZeros_0f7a4_61 rfl (Nat.le_of_ble_eq_true rfl) rfl ?_
    refine J.iload_n (pc := 62) G dJ6_numberOfTrailingZeros_0f7a4_62 rfl ?_
    refine J.iconstN (pc := 63) G dJ6_numberOfTrailingZeros_0f7a4_63 4 rfl ?_
    refine J.icmp_leN (pc := 64) (tgt := 74) G dJ6_numberOfTrailingZeros_0f7a4_64 (by decide) (by decide) (by decide) (fun _ => ?_) (fun h => absurd h (by decide))
    refine J.iload_n (pc := 74) G dJ6_numberOfTrailingZeros_0f7a4_74 rfl ?_
    refine J.iload_n (pc := 75) G dJ6_numberOfTrailingZeros_0f7a4_75 rfl ?_
    refine J.iconstN (pc := 76) G dJ6_numberOfTrailingZeros_0f7a4_76 1 rfl ?_
    refine J.iushr_r (pc := 77) G dJ6_numberOfTrailingZeros_0f7a4_77 ?_
    refine J.topv (b := iI ((0 : Nat) : Int)) (by decide +kernel) ?_
    refine J.iaddN (pc := 78) G dJ6_numberOfTrailingZeros_0f7a4_78 ?_
    exact J.iret (pc := 79) G hO dJ6_numberOfTrailingZeros_0f7a4_79 (by decide) (by decide) ⟨rfl, rfl, rfl⟩
  · rw [e2]
    refine J.istore_n (L' := [_, _]) (pc := 7) G dJ6_numberOfTrailingZeros_0f7a4_7 rfl (Nat.le_of_ble_eq_true rfl) rfl ?_
    refine J.iload_n (pc := 8) G dJ6_numberOfTrailingZeros_0f7a4_8 rfl ?_
    refine J.if_gtN (pc := 9) (tgt := 17) G dJ6_numberOfTrailingZeros_0f7a4_9 (by decide) (by decide) (fun _ => ?_) (fun h => absurd h (by decide))
    refine J.iconstN (pc := 17) G dJ6_numberOfTrailingZeros_0f7a4_17 1 rfl ?_
    refine J.istore_n (L' := [_, _]) (pc := 18) G dJ6_numberOfTrailingZeros_0f7a4_18 rfl (Nat.le_of_ble_eq_true rfl) rfl ?_
    refine J.iload_n (pc := 19) G dJ6_numberOfTrailingZeros_0f7a4_19 rfl ?_
    refine J.ldcw (pc := 20) G q865 dJ6_numberOfTrailingZeros_0f7a4_20 ?_
    refine J.topv (b := iI ((65536 : Nat) : Int)) (by decide +kernel) ?_
    refine J.icmp_leN (pc := 23) (tgt := 34) G dJ6_numberOfTrailingZeros_0f7a4_23 (by decide) (by decide) (by decide) (fun _ => ?_) (fun h => absurd h (by decide))
    refine J.iload_n (pc := 34) G dJ6_numberOfTrailingZeros_0f7a4_34 rfl ?_
    refine J.sipushN (pc := 35) G dJ6_numberOfTrailingZeros_0f7a4_35 256 (by decide +kernel) ?_
    refine J.icmp_leN (pc := 38) (tgt := 49) G dJ6_numberOfTrailingZeros_0f7a4_38 (by decide) (by decide) (by decide) (fun _ => ?_) (fun h => absurd h (by decide))
    refine J.iload_n (pc := 49) G dJ6_numberOfTrailingZeros_0f7a4_49 rfl ?_
    refine J.bipushN (pc := 50) G dJ6_numberOfTrailingZeros_0f7a4_50 16 (by decide +kernel) ?_
    refine J.icmp_leN (pc := 52) (tgt := 62) G dJ6_numberOfTrailingZeros_0f7a4_52 (by decide) (by decide) (by decide) (fun h => absurd h (by decide)) (fun _ => ?_)
    refine J.iincN (L' := [_, _]) (pc := 55) G dJ6_numberOfTrailingZeros_0f7a4_55 4 rfl rfl rfl rfl ?_
    refine J.iload_n (pc := 58) G dJ6_numberOfTrailingZeros_0f7a4_58 rfl ?_
    refine J.iconstN (pc := 59) G dJ6_numberOfTrailingZeros_0f7a4_59 4 rfl ?_
    refine J.iushr_r (pc := 60) G dJ6_numberOfTrailingZeros_0f7a4_60 ?_
    refine J.topv (b := iI ((3 : Nat) : Int)) (by decide +kernel) ?_
    refine J.istore_n (L' := [_, _]) (pc := 61) G dJ6_numberOfTrailingZeros_0f7a4_61 rfl (Nat.le_of_ble_eq_true rfl) rfl ?_
    refine J.iload_n (pc := 62) G dJ6_numberOfTrailingZeros_0f7a4_62 rfl ?_
    refine J.iconstN (pc := 63) G dJ6_numberOfTrailingZeros_0f7a4_63 4 rfl ?_
    refine J.icmp_leN (pc := 64) (tgt := 74) G dJ6_numberOfTrailingZeros_0f7a4_64 (by decide) (by decide) (by decide) (fun _ => ?_) (fun h => absurd h (by decide))
    refine J.iload_n (pc := 74) G dJ6_numberOfTrailingZeros_0f7a4_74 rfl ?_
    refine J.iload_n (pc := 75) G dJ6_numberOfTrailingZeros_0f7a4_75 rfl ?_
    refine J.iconstN (pc := 76) G dJ6_numberOfTrailingZeros_0f7a4_76 1 rfl ?_
    refine J.iushr_r (pc := 77) G dJ6_numberOfTrailingZeros_0f7a4_77 ?_
    refine J.topv (b := iI ((1 : Nat) : Int)) (by decide +kernel) ?_
    refine J.iaddN (pc := 78) G dJ6_numberOfTrailingZeros_0f7a4_78 ?_
    exact J.iret (pc := 79) G hO dJ6_numberOfTrailingZeros_0f7a4_79 (by decide) (by decide) ⟨rfl, rfl, rfl⟩
  · rw [e2]
    refine J.istore_n (L' := [_, _]) (pc := 7) G dJ6_numberOfTrailingZeros_0f7a4_7 rfl (Nat.le_of_ble_eq_true rfl) rfl ?_
    refine J.iload_n (pc := 8) G dJ6_numberOfTrailingZeros_0f7a4_8 rfl ?_
    refine J.if_gtN (pc := 9) (tgt := 17) G dJ6_numberOfTrailingZeros_0f7a4_9 (by decide) (by decide) (fun _ => ?_) (fun h => absurd h (by decide))
    refine J.iconstN (pc := 17) G dJ6_numberOfTrailingZeros_0f7a4_17 1 rfl ?_
    refine J.istore_n (L' := [_, _]) (pc := 18) G dJ6_numberOfTrailingZeros_0f7a4_18 rfl (Nat.le_of_ble_eq_true rfl) rfl ?_
    refine J.iload_n (pc := 19) G dJ6_numberOfTrailingZeros_0f7a4_19 rfl ?_
    refine J.ldcw (pc := 20) G q865 dJ6_numberOfTrailingZeros_0f7a4_20 ?_
    refine J.topv (b := iI ((65536 : Nat) : Int)) (by decide +kernel) ?_
    refine J.icmp_leN (pc := 23) (tgt := 34) G dJ6_numberOfTrailingZeros_0f7a4_23 (by decide) (by decide) (by decide) (fun _ => ?_) (fun h => absurd h (by decide))
    refine J.iload_n (pc := 34) G dJ6_numberOfTrailingZeros_0f7a4_34 rfl ?_
    refine J.sipushN (pc := 35) G dJ6_numberOfTrailingZeros_0f7a4_35 256 (by decide +kernel) ?_
    refine J.icmp_leN (pc := 38) (tgt := 49) G dJ6_numberOfTrailingZeros_0f7a4_38 (by decide) (by decide) (by decide) (fun _ => ?_) (fun h => absurd h (by decide))
    refine J.iload_n (pc := 49) G dJ6_numberOfTrailingZeros_0f7a4_49 rfl ?_
    refine J.bipushN (pc := 50) G dJ6_numberOfTrailingZeros_0f7a4_50 16 (by decide +kernel) ?_
    refine J.icmp_leN (pc := 52) (tgt := 62) G dJ6_numberOfTrailingZeros_0f7a4_52 (by decide) (by decide) (by decide) (fun h => absurd h (by decide)) (fun _ => ?_)
    refine J.iincN (L' := [_, _]) (pc := 55) G dJ6_numberOfTrailingZeros_0f7a4_55 4 rfl rfl rfl rfl ?_
    refine J.iload_n (pc := 58) G dJ6_numberOfTrailingZeros_0f7a4_58 rfl ?_
    refine J.iconstN (pc := 59) G dJ6_numberOfTrailingZeros_0f7a4_59 4 rfl ?_
    refine J.iushr_r (pc := 60) G dJ6_numberOfTrailingZeros_0f7a4_60 ?_
    refine J.topv (b := iI ((7 : Nat) : Int)) (by decide +kernel) ?_
    refine J.istore_n (L' := [_, _]) (pc := 61) G dJ6_numberOfTrailingZeros_0f7a4_61 rfl (Nat.le_of_ble_eq_true rfl) rfl ?_
    refine J.iload_n (pc := 62) G dJ6_numberOfTrailingZeros_0f7a4_62 rfl ?_
    refine J.iconstN (pc := 63) G dJ6_numberOfTrailingZeros_0f7a4_63 4 rfl ?_
    refine J.icmp_leN (pc := 64) (tgt := 74) G dJ6_numberOfTrailingZeros_0f7a4_64 (by decide) (by decide) (by decide) (fun h => absurd h (by decide)) (fun _ => ?_)
    refine J.iincN (L' := [_, _]) (pc := 67) G dJ6_numberOfTrailingZeros_0f7a4_67 2 rfl rfl rfl rfl ?_
    refine J.iload_n (pc := 70) G dJ6_numberOfTrailingZeros_0f7a4_70 rfl ?_
    refine J.iconstN (pc := 71) G dJ6_numberOfTrailingZeros_0f7a4_71 2 rfl ?_
    refine J.iushr_r (pc := 72) G dJ6_numberOfTrailingZeros_0f7a4_72 ?_
    refine J.topv (b := iI ((1 : Nat) : Int)) (by decide +kernel) ?_
    refine J.istore_n (L' := [_, _]) (pc := 73) G dJ6_numberOfTrailingZeros_0f7a4_73 rfl (Nat.le_of_ble_eq_true rfl) rfl ?_
    refine J.iload_n (pc := 74) G dJ6_numberOfTrailingZeros_0f7a4_74 rfl ?_
    refine J.iload_n (pc := 75) G dJ6_numberOfTrailingZeros_0f7a4_75 rfl ?_
    refine J.iconstN (pc := 76) G dJ6_numberOfTrailingZeros_0f7a4_76 1 rfl ?_
    refine J.iushr_r (pc := 77) G dJ6_numberOfTrailingZeros_0f7a4_77 ?_
    refine J.topv (b := iI ((0 : Nat) : Int)) (by decide +kernel) ?_
    refine J.iaddN (pc := 78) G dJ6_numberOfTrailingZeros_0f7a4_78 ?_
    exact J.iret (pc := 79) G hO dJ6_numberOfTrailingZeros_0f7a4_79 (by decide) (by decide) ⟨rfl, rfl, rfl⟩
end BIT1
