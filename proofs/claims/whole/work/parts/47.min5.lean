section MIN5
abbrev Lg0 (M : AH) (b : Nat) : Prop := ∃ B T, Cl M b (logC b B T)
set_option maxRecDepth 100000 in
set_option maxHeartbeats 4000000 in
theorem c_labels (n : Nat) (M0 : AH) {a : Nat} {A : Nat → Nat → Nat} {S : Nat → Nat} (hX : Cl M0 a (minC a A S)) (hok : MnOk A S) (hL0 : Lg0 M0 (a + 16)) : Fn yX3_labels cX3_labels 1 (some .int) 3 [.ref a] n M0 0 0 (fun r n' M' => r = some (.int (iI (((mL (lgOf A S)).1 : Nat) : Int))) ∧ n' = n ∧ Lg0 M' (a + 16) ∧ Fr (a + 16) (a + 23) M0 M') := by
  refine Fn.of (by decide) [some _] rfl rfl (Nat.le_of_ble_eq_true rfl) ?_
  intro g G hin hO
  refine J.aload_n (pc := 0) G dX3_labels_0 rfl ?_
  refine J.callV (pc := 1) (na := 0) G (c_readLog n M0 hX hok hL0) q174 q176 qp0 q177 q1 (by decide +kernel) dX3_labels_1 (hX.at 0 rfl) rfl rfl (Nat.le_of_ble_eq_true rfl) rfl ⟨by omega, by decide, by omega, by omega⟩ ?_
  rintro r9 n9 M1 ⟨hr9, hn9, ⟨⟨B, T, hL, hI, hM, hN⟩, hFr⟩⟩
  subst hr9
  rw [hn9]
  clear hn9 n9
  dsimp only [Option.toList, List.cons_append, List.nil_append]
  refine J.getf (pc := 4) (ci := 0) G inX0 rfl 4 q92 dX3_labels_4 (hL.at 0 rfl) (by decide) rfl ?_
  rw [hM.1]
  exact J.iret (pc := 7) G hO dX3_labels_7 (Nat.le_refl _) (Nat.le_refl _) ⟨rfl, rfl, ⟨B, T, hL⟩, hFr⟩
set_option maxRecDepth 100000 in
set_option maxHeartbeats 4000000 in
theorem c_edges (n : Nat) (M0 : AH) {a : Nat} {e : Bool} {A : Nat → Nat → Nat} {S : Nat → Nat} (hX : Cl M0 a (minC a A S)) (hok : MnOk A S) (hL0 : Lg0 M0 (a + 16)) : Fn yX3_edges cX3_edges 3 (some .int) 3 [.ref a, .int (bI e)] n M0 0 0 (fun r n' M' => r = some (.int (iI (((if e then (mL (lgOf A S)).2.2.1 else (mL (lgOf A S)).2.1) : Nat) : Int))) ∧ n' = n ∧ Lg0 M' (a + 16) ∧ Fr (a + 16) (a + 23) M0 M') := by
  refine Fn.of (by decide) [some _, some _, none] rfl rfl (Nat.le_of_ble_eq_true rfl) ?_
  intro g G hin hO
  refine J.aload_n (pc := 0) G dX3_edges_0 rfl ?_
  refine J.callV (pc := 1) (na := 0) G (c_readLog n M0 hX hok hL0) q174 q176 qp0 q177 q1 (by decide +kernel) dX3_edges_1 (hX.at 0 rfl) rfl rfl (Nat.le_of_ble_eq_true rfl) rfl ⟨by omega, by decide, by omega, by omega⟩ ?_
  rintro r9 n9 M1 ⟨hr9, hn9, ⟨⟨B, T, hL, hI, hM, hN⟩, hFr⟩⟩
  subst hr9
  rw [hn9]
  clear hn9 n9
  dsimp only [Option.toList, List.cons_append, List.nil_append]
  refine J.astore_n (L' := [_, _, _]) (pc := 4) G dX3_edges_4 rfl (Nat.le_of_ble_eq_true rfl) rfl ?_
  refine J.iload_n (pc := 5) G dX3_edges_5 rfl ?_
  refine J.if_eq_b (pc := 6) (tgt := 16) G dX3_edges_6 (by decide) (fun he => ?_) (fun he => ?_)
  · refine J.aload_n (pc := 16) G dX3_edges_16 rfl ?_
    refine J.getf (pc := 17) (ci := 0) G inX0 rfl 5 q94 dX3_edges_17 (hL.at 0 rfl) (by decide) rfl ?_
    rw [hM.2.1]
    exact J.iret (pc := 20) G hO dX3_edges_20 (Nat.le_refl _) (Nat.le_refl _) ⟨by rw [he]; rfl, rfl, ⟨B, T, hL⟩, hFr⟩
  · refine J.aload_n (pc := 9) G dX3_edges_9 rfl ?_
    refine J.getf (pc := 10) (ci := 0) G inX0 rfl 6 q96 dX3_edges_10 (hL.at 0 rfl) (by decide) rfl ?_
    rw [hM.2.2.1]
    refine J.goto (pc := 13) (tgt := 20) G dX3_edges_13 (by decide) ?_
    exact J.iret (pc := 20) G hO dX3_edges_20 (Nat.le_refl _) (Nat.le_refl _) ⟨by rw [he]; rfl, rfl, ⟨B, T, hL⟩, hFr⟩
/-- two labels are asked for -/
abbrev LbX (n : Nat) (M : AH) (u v : Int) : String → Nat → AH → Prop := fun E n' M' => E = IOB ∧ n ≤ n' ∧ M' = M ∧ ¬ ((0 ≤ u ∧ u < 8) ∧ 0 ≤ v ∧ v < 8)
def relF (nx : Nat → Nat) (u v : Nat) : Nat := (if (nx u).testBit v then 1 else 0) + (if (nx v).testBit u then 2 else 0)
set_option maxRecDepth 100000 in
set_option maxHeartbeats 4000000 in
theorem c_relation (n : Nat) (M0 : AH) {a : Nat} {u v : Int} {A : Nat → Nat → Nat} {S : Nat → Nat} (hX : Cl M0 a (minC a A S)) (hok : MnOk A S) (hL0 : Lg0 M0 (a + 16)) (hu : Rng u) (hv : Rng v) : Fx yX3_relation cX3_relation 6 (some .int) 7 [.ref a, .int (iI u), .int (iI v)] n M0 2 12 (fun r n' M' => r = some (.int (iI ((relF (mL (lgOf A S)).2.2.2.2 u.toNat v.toNat : Nat) : Int))) ∧ n' = n ∧ Lg0 M' (a + 16) ∧ Fr (a + 16) (a + 23) M0 M' ∧ (0 ≤ u ∧ u < 8) ∧ 0 ≤ v ∧ v < 8) (LbX n M0 u v) := by
  refine Fx.of (by decide) [some _, some _, some _, none, none, none] rfl rfl (Nat.le_of_ble_eq_true rfl) ?_
  intro g G hO hT htab
  refine J.iload_n (pc := 0) G dX3_relation_0 rfl ?_
  refine J.callXS (pc := 1) (na := 1) G (c_checkLabel n M0 hu) q339 q340 q341 q1 (by decide +kernel) dX3_relation_1 rfl (Nat.le_of_ble_eq_true rfl) rfl ⟨by omega, by decide, by omega, by omega⟩ (fun E9 n9 M9 h9 => JX.out G hT htab (by omega) (by omega) (⟨h9.1, h9.2.1, h9.2.2.1, fun h => h9.2.2.2 h.1⟩)) ?_
  rintro r9 n9 M9 ⟨hr9, hn9, hM9, ⟨hu0, hu8⟩⟩
  subst hr9
  rw [hn9, hM9]
  clear hn9 hM9 n9 M9
  dsimp only [Option.toList, List.cons_append, List.nil_append]
  refine J.iload_n (pc := 4) G dX3_relation_4 rfl ?_
  refine J.callXS (pc := 5) (na := 1) G (c_checkLabel n M0 hv) q339 q340 q341 q1 (by decide +kernel) dX3_relation_5 rfl (Nat.le_of_ble_eq_true rfl) rfl ⟨by omega, by decide, by omega, by omega⟩ (fun E9 n9 M9 h9 => JX.out G hT htab (by omega) (by omega) (⟨h9.1, h9.2.1, h9.2.2.1, fun h => h9.2.2.2 h.2⟩)) ?_
  rintro r9 n9 M9 ⟨hr9, hn9, hM9, ⟨hv0, hv8⟩⟩
  subst hr9
  rw [hn9, hM9]
  clear hn9 hM9 n9 M9
  dsimp only [Option.toList, List.cons_append, List.nil_append]
  have eu : ((u.toNat : Nat) : Int) = u := by omega
  have ev : ((v.toNat : Nat) : Int) = v := by omega
  generalize u.toNat = u1 at hO eu
  generalize v.toNat = v1 at hO ev
  subst eu; subst ev
  refine J.aload_n (pc := 8) G dX3_relation_8 rfl ?_
  refine J.callV (pc := 9) (na := 0) G (c_readLog n M0 hX hok hL0) q174 q176 qp0 q177 q1 (by decide +kernel) dX3_relation_9 (hX.at 0 rfl) rfl rfl (Nat.le_of_ble_eq_true rfl) rfl ⟨by omega, by decide, by omega, by omega⟩ ?_
  rintro r9 n9 M1 ⟨hr9, hn9, ⟨⟨B, T, hL, hI, hM, hN⟩, hFr⟩⟩
  subst hr9
  rw [hn9]
  clear hn9 n9
  dsimp only [Option.toList, List.cons_append, List.nil_append]
  have hb8 := (mL_8 (lgOf_good hok).1).2.2.2.2
  generalize (mL (lgOf A S)).2.2.2.2 = nx at hO hN hb8
  have hbu := hb8 u1 (by omega)
  have hbv := hb8 v1 (by omega)
  have hNu := hN u1 (by omega)
  have hNv := hN v1 (by omega)
  have K51 : ∀ x y : Nat, x + y = relF nx u1 v1 → J g 2 12 n M1 [some (.ref a), some (.int (iI (u1 : Int))), some (.int (iI (v1 : Int))), some (.ref (a + 16)), some (.int (iI (x : Int))), none] 51 [.int (iI (y : Int))] := by
    intro x y hxy
    refine J.istore (L' := [_, _, _, _, _, _]) (pc := 51) G dX3_relation_51 rfl (Nat.le_of_ble_eq_true rfl) rfl ?_
    refine J.iload (pc := 53) G dX3_relation_53 rfl ?_
    refine J.iload (pc := 55) G dX3_relation_55 rfl ?_
    refine J.iaddN (pc := 57) G dX3_relation_57 ?_
    exact J.iret (pc := 58) G hO dX3_relation_58 (by decide) (by decide) ⟨by rw [hxy], rfl, ⟨B, T, hL⟩, hFr, ⟨hu0, hu8⟩, hv0, hv8⟩
  have K31 : ∀ x : Nat, x = (if (nx u1).testBit v1 then 1 else 0) → J g 2 12 n M1 [some (.ref a), some (.int (iI (u1 : Int))), some (.int (iI (v1 : Int))), some (.ref (a + 16)), none, none] 31 [.int (iI (x : Int))] := by
    intro x hx
    refine J.istore (L' := [_, _, _, _, _, _]) (pc := 31) G dX3_relation_31 rfl (Nat.le_of_ble_eq_true rfl) rfl ?_
    refine J.aload_n (pc := 33) G dX3_relation_33 rfl ?_
    refine J.getf (pc := 34) (ci := 0) G inX0 rfl 8 q100 dX3_relation_34 (hL.at 0 rfl) (by decide) rfl ?_
    refine J.iload_n (pc := 37) G dX3_relation_37 rfl ?_
    refine J.ialdN (pc := 38) G dX3_relation_38 (hL.at 3 rfl) (by omega) (by decide) ?_
    rw [hNv]
    refine J.iload_n (pc := 39) G dX3_relation_39 rfl ?_
    refine J.callS (pc := 40) (na := 2) G (c_contains n M1 (by omega) (by omega)) q507 q248 q249 q1 (by decide +kernel) dX3_relation_40 rfl (Nat.le_of_ble_eq_true rfl) rfl ⟨by omega, by decide, by omega, by omega⟩ ?_
    rintro r9 n9 M9 ⟨hr9, hn9, hM9⟩
    subst hr9
    rw [hn9, hM9]
    clear hn9 hM9 n9 M9
    dsimp only [Option.toList, List.cons_append, List.nil_append]
    refine J.if_eq_b (pc := 43) (tgt := 50) G dX3_relation_43 (by decide) (fun hb => ?_) (fun hb => ?_)
    · refine J.iconstN (pc := 50) G dX3_relation_50 0 rfl ?_
      exact K51 x 0 (by unfold relF; rw [hx, hb]; rfl)
    · refine J.iconstN (pc := 46) G dX3_relation_46 2 rfl ?_
      refine J.goto (pc := 47) (tgt := 51) G dX3_relation_47 (by decide) ?_
      exact K51 x 2 (by unfold relF; rw [hx, hb]; rfl)
  refine J.astore_n (L' := [_, _, _, _, _, _]) (pc := 12) G dX3_relation_12 rfl (Nat.le_of_ble_eq_true rfl) rfl ?_
  refine J.aload_n (pc := 13) G dX3_relation_13 rfl ?_
  refine J.getf (pc := 14) (ci := 0) G inX0 rfl 8 q100 dX3_relation_14 (hL.at 0 rfl) (by decide) rfl ?_
  refine J.iload_n (pc := 17) G dX3_relation_17 rfl ?_
  refine J.ialdN (pc := 18) G dX3_relation_18 (hL.at 3 rfl) (by omega) (by decide) ?_
  rw [hNu]
  refine J.iload_n (pc := 19) G dX3_relation_19 rfl ?_
  refine J.callS (pc := 20) (na := 2) G (c_contains n M1 (by omega) (by omega)) q507 q248 q249 q1 (by decide +kernel) dX3_relation_20 rfl (Nat.le_of_ble_eq_true rfl) rfl ⟨by omega, by decide, by omega, by omega⟩ ?_
  rintro r9 n9 M9 ⟨hr9, hn9, hM9⟩
  subst hr9
  rw [hn9, hM9]
  clear hn9 hM9 n9 M9
  dsimp only [Option.toList, List.cons_append, List.nil_append]
  refine J.if_eq_b (pc := 23) (tgt := 30) G dX3_relation_23 (by decide) (fun hb => ?_) (fun hb => ?_)
  · refine J.iconstN (pc := 30) G dX3_relation_30 0 rfl ?_
    exact K31 0 (by rw [hb]; rfl)
  · refine J.iconstN (pc := 26) G dX3_relation_26 1 rfl ?_
    refine J.goto (pc := 27) (tgt := 31) G dX3_relation_27 (by decide) ?_
    exact K31 1 (by rw [hb]; rfl)
set_option maxRecDepth 100000 in
set_option maxHeartbeats 4000000 in
theorem c_leads (n : Nat) (M0 : AH) {a : Nat} {u v : Int} {A : Nat → Nat → Nat} {S : Nat → Nat} (hX : Cl M0 a (minC a A S)) (hok : MnOk A S) (hL0 : Lg0 M0 (a + 16)) (hu : Rng u) (hv : Rng v) : Fx yX3_leads cX3_leads 4 (some .boolean) 7 [.ref a, .int (iI u), .int (iI v)] n M0 2 12 (fun r n' M' => r = some (.int (bI ((rall (mL (lgOf A S)).2.2.2.2 u.toNat).testBit v.toNat))) ∧ n' = n ∧ Lg0 M' (a + 16) ∧ Fr (a + 16) (a + 23) M0 M' ∧ (0 ≤ u ∧ u < 8) ∧ 0 ≤ v ∧ v < 8) (LbX n M0 u v) := by
  refine Fx.of (by decide) [some _, some _, some _, none] rfl rfl (Nat.le_of_ble_eq_true rfl) ?_
  intro g G hO hT htab
  refine J.iload_n (pc := 0) G dX3_leads_0 rfl ?_
  refine J.callXS (pc := 1) (na := 1) G (c_checkLabel n M0 hu) q339 q340 q341 q1 (by decide +kernel) dX3_leads_1 rfl (Nat.le_of_ble_eq_true rfl) rfl ⟨by omega, by decide, by omega, by omega⟩ (fun E9 n9 M9 h9 => JX.out G hT htab (by omega) (by omega) (⟨h9.1, h9.2.1, h9.2.2.1, fun h => h9.2.2.2 h.1⟩)) ?_
  rintro r9 n9 M9 ⟨hr9, hn9, hM9, ⟨hu0, hu8⟩⟩
  subst hr9
  rw [hn9, hM9]
  clear hn9 hM9 n9 M9
  dsimp only [Option.toList, List.cons_append, List.nil_append]
  refine J.iload_n (pc := 4) G dX3_leads_4 rfl ?_
  refine J.callXS (pc := 5) (na := 1) G (c_checkLabel n M0 hv) q339 q340 q341 q1 (by decide +kernel) dX3_leads_5 rfl (Nat.le_of_ble_eq_true rfl) rfl ⟨by omega, by decide, by omega, by omega⟩ (fun E9 n9 M9 h9 => JX.out G hT htab (by omega) (by omega) (⟨h9.1, h9.2.1, h9.2.2.1, fun h => h9.2.2.2 h.2⟩)) ?_
  rintro r9 n9 M9 ⟨hr9, hn9, hM9, ⟨hv0, hv8⟩⟩
  subst hr9
  rw [hn9, hM9]
  clear hn9 hM9 n9 M9
  dsimp only [Option.toList, List.cons_append, List.nil_append]
  have eu : ((u.toNat : Nat) : Int) = u := by omega
  have ev : ((v.toNat : Nat) : Int) = v := by omega
  generalize u.toNat = u1 at hO eu
  generalize v.toNat = v1 at hO ev
  subst eu; subst ev
  refine J.aload_n (pc := 8) G dX3_leads_8 rfl ?_
  refine J.callV (pc := 9) (na := 0) G (c_readLog n M0 hX hok hL0) q174 q176 qp0 q177 q1 (by decide +kernel) dX3_leads_9 (hX.at 0 rfl) rfl rfl (Nat.le_of_ble_eq_true rfl) rfl ⟨by omega, by decide, by omega, by omega⟩ ?_
  rintro r9 n9 M1 ⟨hr9, hn9, ⟨⟨B, T, hL, hI, hM, hN⟩, hFr⟩⟩
  subst hr9
  rw [hn9]
  clear hn9 n9
  dsimp only [Option.toList, List.cons_append, List.nil_append]
  have hb8 := (mL_8 (lgOf_good hok).1).2.2.2.2
  generalize (mL (lgOf A S)).2.2.2.2 = nx at hO hN hb8
  have hB8 : ∀ j, j < 8 → B 3 j < 256 := fun j hj => by rw [hN j hj]; exact hb8 j hj
  have hrc : rall (fillN (B 3) (B 4) 8) u1 = rall nx u1 := rall_cong (fun j hj => by rw [fillN_in hj, hN j hj]) u1 (by omega)
  have hrl := rall_lt hb8 u1 (by omega)
  refine J.astore_n (L' := [_, _, _, _]) (pc := 12) G dX3_leads_12 rfl (Nat.le_of_ble_eq_true rfl) rfl ?_
  refine J.aload_n (pc := 13) G dX3_leads_13 rfl ?_
  refine J.callV (pc := 14) (na := 0) G (c_findReach n M1 hL hB8) q515 q263 q264 q265 q4 (by decide +kernel) dX3_leads_14 (hL.at 0 rfl) rfl rfl (Nat.le_of_ble_eq_true rfl) rfl ⟨by omega, by decide, by omega, by omega⟩ ?_
  rintro r9 n9 M2 ⟨hr9, hn9, ⟨hL2, hFr2⟩⟩
  subst hr9
  rw [hn9]
  clear hn9 n9
  dsimp only [Option.toList, List.cons_append, List.nil_append]
  have hL := hL2
  refine J.aload_n (pc := 17) G dX3_leads_17 rfl ?_
  refine J.getf (pc := 18) (ci := 0) G inX0 rfl 9 q102 dX3_leads_18 (hL.at 0 rfl) (by decide) rfl ?_
  refine J.iload_n (pc := 21) G dX3_leads_21 rfl ?_
  refine J.ialdN (pc := 22) G dX3_leads_22 (hL.at 4 rfl) (by omega) (by decide) ?_
  rw [show upAN B 4 (rall (fillN (B 3) (B 4) 8)) 4 u1 = rall (fillN (B 3) (B 4) 8) u1 from rfl, hrc]
  refine J.iload_n (pc := 23) G dX3_leads_23 rfl ?_
  refine J.callS (pc := 24) (na := 2) G (c_contains n M2 (by omega) (by omega)) q507 q248 q249 q1 (by decide +kernel) dX3_leads_24 rfl (Nat.le_of_ble_eq_true rfl) rfl ⟨by omega, by decide, by omega, by omega⟩ ?_
  rintro r9 n9 M9 ⟨hr9, hn9, hM9⟩
  subst hr9
  rw [hn9, hM9]
  clear hn9 hM9 n9 M9
  dsimp only [Option.toList, List.cons_append, List.nil_append]
  exact J.zret (pc := 27) G hO dX3_leads_27 (by decide) (by decide) ⟨rfl, rfl, ⟨_, _, hL⟩, hFr.trans hFr2, ⟨hu0, hu8⟩, hv0, hv8⟩
end MIN5
