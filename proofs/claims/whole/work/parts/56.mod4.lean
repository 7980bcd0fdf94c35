section MOD4
def MdOk (R : Nat → Nat → Nat) (Z : Nat → Nat) : Prop := Z 1 ≤ 12 ∧ Z 3 ≤ 10 ∧ Z 7 ≤ 1 ∧ (∀ i, i < 12 → R 1 i < 8) ∧ (∀ i, i < 120 → R 4 i < 8) ∧ (∀ t, t < 10 → R 3 t ≤ 12) ∧ ∀ t, t < 10 → R 2 t ≤ 99
theorem Vw.ok {R : Nat → Nat → Nat} {Z : Nat → Nat} {A : Nat → Nat → Nat} {S : Nat → Nat} (hw : Vw R Z A S) (hok : MnOk A S) : MdOk R Z := by
  obtain ⟨w1, w2, w3, w4, z1, z3, z7⟩ := hw
  unfold MdOk
  rw [w1, w2, w3, w4, z1, z3, z7]
  exact hok
/-- a question that leaves all but thrown as it was -/
def MRead (n : Nat) (M0 : AH) (a : Nat) (R : Nat → Nat → Nat) (P : Nat → Int) (Z : Nat → Nat) (x : Value) (c : Nat) : Option Value → Nat → AH → Prop := fun r n' M' => r = some x ∧ n' = n ∧ Cl M' a (modC a R P (upN Z 0 c)) ∧ Fr a (a + 9) M0 M'
set_option maxRecDepth 100000 in
set_option maxHeartbeats 4000000 in
theorem m_labelAt (n : Nat) (M0 : AH) {a : Nat} {u v : Int} {R : Nat → Nat → Nat} {P : Nat → Int} {Z : Nat → Nat} (hM : Cl M0 a (modC a R P Z)) (hok : MdOk R Z) (hu : Rng u) (hv : Rng v) : Fn yX4_labelAt cX4_labelAt 3 (some .int) 1 [.ref a, .int (iI u), .int (iI v)] n M0 0 0 (fun r n' M' => (((0 ≤ u ∧ u < (Z 3 : Int)) ∧ 0 ≤ v ∧ v < (R 3 u.toNat : Int)) ∧ MRead n M0 a R P Z (.int (iI ((R 4 (12 * u.toNat + v.toNat) : Nat) : Int))) 0 r n' M') ∨ (¬ ((0 ≤ u ∧ u < (Z 3 : Int)) ∧ 0 ≤ v ∧ v < (R 3 u.toNat : Int)) ∧ MRead n M0 a R P Z (.int (iI ((0 : Nat) : Int))) 1 r n' M')) := by
  refine Fn.of (by decide) [some _, some _, some _] rfl rfl (Nat.le_of_ble_eq_true rfl) ?_
  intro g G hin hO
  obtain ⟨h1, h3, h7, hbu, htx, hln, htm⟩ := hok
  have hFr : Fr a (a + 9) M0 M0 := Fr.rf
  generalize hM1 : M0 = M1 at hM hFr
  refine J.aload_n (pc := 0) G dX4_labelAt_0 rfl ?_
  refine J.iconstN (pc := 1) G dX4_labelAt_1 0 rfl ?_
  refine J.putf (pc := 2) (ci := 4) G inX4 rfl tyX4 tyX4_ok nmX4 0 q695 dX4_labelAt_2 (hM.at 0 rfl) (by decide) (Nat.le_of_ble_eq_true rfl) (Or.inl rfl) (tyX4_ok 0 (by decide)) (by first | rfl | decide +kernel) (by first | rfl | decide +kernel) (fun M hput hag => ?_)
  have hM := modS0 hM hput hag
  have hFr := hFr.put hag (by omega) (by omega)
  clear hput hag
  refine J.aload_n (pc := 5) G dX4_labelAt_5 rfl ?_
  refine J.iload_n (pc := 6) G dX4_labelAt_6 rfl ?_
  refine J.callV (pc := 7) (na := 1) G (m_isTrace n M hM hu h3) q761 q763 qp40 q764 q5 (by decide +kernel) dX4_labelAt_7 (hM.at 0 rfl) rfl rfl (Nat.le_of_ble_eq_true rfl) rfl ⟨by omega, by decide, by omega, by omega⟩ ?_
  rintro r9 n9 M9 ⟨hr9, hn9, hM9⟩
  subst hr9
  rw [hn9, hM9]
  clear hn9 hM9 n9 M9
  dsimp only [Option.toList, List.cons_append, List.nil_append]
  have hFr0 : Fr a (a + 9) M0 M := hM1 ▸ hFr
  have k0 : ¬ ((0 ≤ u ∧ u < (Z 3 : Int)) ∧ 0 ≤ v ∧ v < (R 3 u.toNat : Int)) → J g 0 0 n M [some (.ref a), some (.int (iI u)), some (.int (iI v))] 41 [] := by
    intro h
    refine J.aload_n (pc := 41) G dX4_labelAt_41 rfl ?_
    refine J.iconstN (pc := 42) G dX4_labelAt_42 1 rfl ?_
    refine J.callV (pc := 43) (na := 1) G (m_fail n M (c := 1) hM) q746 q748 qp39 q749 q5 (by decide +kernel) dX4_labelAt_43 (hM.at 0 rfl) rfl rfl (Nat.le_of_ble_eq_true rfl) rfl ⟨by omega, by decide, by omega, by omega⟩ ?_
    rintro r9 n9 M7 ⟨hr9, hn9, ⟨hM7, hFr7⟩⟩
    subst hr9
    rw [hn9]
    clear hn9 n9
    dsimp only [Option.toList, List.cons_append, List.nil_append]
    exact J.iret (pc := 46) G hO dX4_labelAt_46 (by decide) (by decide) (Or.inr ⟨h, rfl, rfl, by rw [upN2] at hM7; exact hM7, hFr0.trans hFr7⟩)
  refine J.if_eq_b (pc := 10) (tgt := 41) G dX4_labelAt_10 (by decide) (fun hb => ?_) (fun hb => ?_)
  · exact k0 (fun h => of_decide_eq_false hb h.1)
  · have hl : 0 ≤ u ∧ u < (Z 3 : Int) := of_decide_eq_true hb
    obtain ⟨hv1, hv2⟩ := hv
    have hl3 := hln u.toNat (by omega)
    have eu : ((u.toNat : Nat) : Int) = u := by omega
    generalize u.toNat = w at hO hl3 eu k0
    subst eu
    refine J.iload_n (pc := 13) G dX4_labelAt_13 rfl ?_
    refine J.if_lt (pc := 14) (tgt := 41) G dX4_labelAt_14 (by decide) hv1 hv2 (fun h => k0 (by omega)) (fun h => ?_)
    refine J.iload_n (pc := 17) G dX4_labelAt_17 rfl ?_
    refine J.aload_n (pc := 18) G dX4_labelAt_18 rfl ?_
    refine J.getf (pc := 19) (ci := 4) G inX4 rfl 5 q700 dX4_labelAt_19 (hM.at 0 rfl) (by decide) rfl ?_
    refine J.iload_n (pc := 22) G dX4_labelAt_22 rfl ?_
    refine J.ialdN (pc := 23) G dX4_labelAt_23 (hM.at 3 rfl) (by omega) (by decide) ?_
    refine J.icmp_ge (pc := 24) (tgt := 41) G dX4_labelAt_24 (by decide) hv1 hv2 (by omega) (by omega) (fun h2 => k0 (by omega)) (fun h2 => ?_)
    have ev : ((v.toNat : Nat) : Int) = v := by omega
    rw [← ev]
    refine J.aload_n (pc := 27) G dX4_labelAt_27 rfl ?_
    refine J.getf (pc := 28) (ci := 4) G inX4 rfl 6 q701 dX4_labelAt_28 (hM.at 0 rfl) (by decide) rfl ?_
    refine J.bipushN (pc := 31) G dX4_labelAt_31 12 (by decide +kernel) ?_
    refine J.iload_n (pc := 33) G dX4_labelAt_33 rfl ?_
    refine J.imulN (pc := 34) G dX4_labelAt_34 ?_
    refine J.iload_n (pc := 35) G dX4_labelAt_35 rfl ?_
    refine J.iaddN (pc := 36) G dX4_labelAt_36 ?_
    refine J.ialdN (pc := 37) G dX4_labelAt_37 (hM.at 4 rfl) (by omega) (by decide) ?_
    refine J.goto (pc := 38) (tgt := 46) G dX4_labelAt_38 (by decide) ?_
    exact J.iret (pc := 46) G hO dX4_labelAt_46 (by decide) (by decide) (Or.inl ⟨⟨hl, h, by omega⟩, rfl, rfl, hM, hFr0⟩)
def coI (tm tx : Nat → Nat) (u v t s k : Nat) : Nat := it (fun i s => s + (if tx (12 * t + (1 + i) - 1) = u then (if tx (12 * t + (1 + i)) = v then tm t else 0) else 0)) s k
/-- how often v comes right behind u, with the times -/
def coF (tm ln tx : Nat → Nat) (u v k : Nat) : Nat := it (fun t s => coI tm tx u v t s (ln t - 1)) 0 k
theorem coI_le {tm tx : Nat → Nat} {u v t s k : Nat} (ht : tm t ≤ 99) : coI tm tx u v t s k ≤ s + 99 * k :=
  it_inv (fun k x => x ≤ s + 99 * k) k (Nat.le_refl _) (fun i x hi hx => by
    show x + (if tx (12 * t + (1 + i) - 1) = u then (if tx (12 * t + (1 + i)) = v then tm t else 0) else 0) ≤ s + 99 * (i + 1)
    split
    · split <;> omega
    · omega)
theorem coF_le {tm ln tx : Nat → Nat} {u v k : Nat} (ht : ∀ t, t < 10 → tm t ≤ 99) (hl : ∀ t, t < 10 → ln t ≤ 12) (hk : k ≤ 10) : coF tm ln tx u v k ≤ 1188 * k :=
  it_inv (fun k x => x ≤ 1188 * k) k (Nat.le_refl _) (fun t x ht9 hx => by
    have h1 := coI_le (tm := tm) (tx := tx) (u := u) (v := v) (t := t) (s := x) (k := ln t - 1) (ht t (by omega))
    have h2 := hl t (by omega)
    show coI tm tx u v t x (ln t - 1) ≤ 1188 * (t + 1)
    omega)
set_option maxRecDepth 100000 in
set_option maxHeartbeats 4000000 in
theorem m_countOf (n : Nat) (M : AH) {a u v : Nat} {R : Nat → Nat → Nat} {P : Nat → Int} {Z : Nat → Nat} (hM : Cl M a (modC a R P Z)) (hok : MdOk R Z) (hu : u < 8) (hv : v < 8) : Fn yX4_countOf cX4_countOf 7 (some .int) 0 [.ref a, .int (iI (u : Int)), .int (iI (v : Int))] n M 0 0 (fun r n' M' => r = some (.int (iI ((coF (R 2) (R 3) (R 4) u v (Z 3) : Nat) : Int))) ∧ n' = n ∧ M' = M) := by
  refine Fn.of (by decide) [some _, some _, some _, none, none, none, none] rfl rfl (Nat.le_of_ble_eq_true rfl) ?_
  intro g G hin hO
  obtain ⟨h1, h3, h7, hbu, htx, hln, htm⟩ := hok
  refine J.iconstN (pc := 0) G dX4_countOf_0 0 rfl ?_
  refine J.istore_n (L' := [_, _, _, _, _, _, _]) (pc := 1) G dX4_countOf_1 rfl (Nat.le_of_ble_eq_true rfl) rfl ?_
  refine J.iconstN (pc := 2) G dX4_countOf_2 0 rfl ?_
  refine J.istore (L' := [_, _, _, _, _, _, _]) (pc := 3) G dX4_countOf_3 rfl (Nat.le_of_ble_eq_true rfl) rfl ?_
  have K1 : ∀ t : Nat, t ≤ Z 3 → ∀ l5 l6, J g 0 0 n M [some (.ref a), some (.int (iI (u : Int))), some (.int (iI (v : Int))), some (.int (iI (coF (R 2) (R 3) (R 4) u v t : Int))), some (.int (iI (t : Int))), l5, l6] 5 [] := by
    refine loopJ (fun t => Z 3 - t) _ _ ?_
    intro t ht ih l5 l6
    have hstep : coF (R 2) (R 3) (R 4) u v (t + 1) = coI (R 2) (R 4) u v t (coF (R 2) (R 3) (R 4) u v t) (R 3 t - 1) := rfl
    refine J.iload (pc := 5) G dX4_countOf_5 rfl ?_
    refine J.aload_n (pc := 7) G dX4_countOf_7 rfl ?_
    refine J.getf (pc := 8) (ci := 4) G inX4 rfl 3 q698 dX4_countOf_8 (hM.at 0 rfl) (by decide) rfl ?_
    refine J.icmp_geN (pc := 11) (tgt := 92) G dX4_countOf_11 (by decide) (by omega) (by omega) (fun h => ?_) (fun h => ?_)
    · refine J.iload_n (pc := 92) G dX4_countOf_92 rfl ?_
      exact J.iret (pc := 93) G hO dX4_countOf_93 (by decide) (by decide) ⟨by rw [show t = Z 3 by omega], rfl, rfl⟩
    · have hl := hln t (by omega)
      generalize coF (R 2) (R 3) (R 4) u v t = s at hstep ⊢
      refine J.bipushN (pc := 14) G dX4_countOf_14 12 (by decide +kernel) ?_
      refine J.iload (pc := 16) G dX4_countOf_16 rfl ?_
      refine J.imulN (pc := 18) G dX4_countOf_18 ?_
      refine J.istore (L' := [_, _, _, _, _, _, _]) (pc := 19) G dX4_countOf_19 rfl (Nat.le_of_ble_eq_true rfl) rfl ?_
      refine J.iconstN (pc := 21) G dX4_countOf_21 1 rfl ?_
      refine J.istore (L' := [_, _, _, _, _, _, _]) (pc := 22) G dX4_countOf_22 rfl (Nat.le_of_ble_eq_true rfl) rfl ?_
      have K2 : ∀ j : Nat, j ≤ R 3 t - 1 → J g 0 0 n M [some (.ref a), some (.int (iI (u : Int))), some (.int (iI (v : Int))), some (.int (iI (coI (R 2) (R 4) u v t s j : Int))), some (.int (iI (t : Int))), some (.int (iI ((12 * t : Nat) : Int))), some (.int (iI ((1 + j : Nat) : Int)))] 24 [] := by
        refine loopJ (fun j => R 3 t - j) _ _ ?_
        intro j hj ih2
        have hs2 : coI (R 2) (R 4) u v t s (j + 1) = coI (R 2) (R 4) u v t s j + (if R 4 (12 * t + (1 + j) - 1) = u then (if R 4 (12 * t + (1 + j)) = v then R 2 t else 0) else 0) := rfl
        refine J.iload (pc := 24) G dX4_countOf_24 rfl ?_
        refine J.aload_n (pc := 26) G dX4_countOf_26 rfl ?_
        refine J.getf (pc := 27) (ci := 4) G inX4 rfl 5 q700 dX4_countOf_27 (hM.at 0 rfl) (by decide) rfl ?_
        refine J.iload (pc := 30) G dX4_countOf_30 rfl ?_
        refine J.ialdN (pc := 32) G dX4_countOf_32 (hM.at 3 rfl) (by omega) (by decide) ?_
        refine J.icmp_geN (pc := 33) (tgt := 86) G dX4_countOf_33 (by decide) (by omega) (by omega) (fun h2 => ?_) (fun h2 => ?_)
        · refine J.iincN (L' := [_, _, _, _, _, _, _]) (pc := 86) G dX4_countOf_86 1 rfl rfl rfl rfl ?_
          refine J.goto (pc := 89) (tgt := 5) G dX4_countOf_89 (by decide) ?_
          have := ih (t + 1) (by omega) (by omega) (some (.int (iI ((12 * t : Nat) : Int)))) (some (.int (iI ((1 + j : Nat) : Int))))
          rw [hstep, ← show j = R 3 t - 1 by omega] at this
          exact this
        · have e1 := htx (12 * t + (1 + j) - 1) (by omega)
          have e2 := htx (12 * t + (1 + j)) (by omega)
          generalize coI (R 2) (R 4) u v t s j = x at hs2 ⊢
          have nx : ∀ y : Nat, coI (R 2) (R 4) u v t s (j + 1) = x + y → J g 0 0 n M [some (.ref a), some (.int (iI (u : Int))), some (.int (iI (v : Int))), some (.int (iI (x : Int))), some (.int (iI (t : Int))), some (.int (iI ((12 * t : Nat) : Int))), some (.int (iI ((1 + j : Nat) : Int)))] 78 [.int (iI (y : Int)), .int (iI (x : Int))] := by
            intro y hy
            refine J.iaddN (pc := 78) G dX4_countOf_78 ?_
            refine J.istore_n (L' := [_, _, _, _, _, _, _]) (pc := 79) G dX4_countOf_79 rfl (Nat.le_of_ble_eq_true rfl) rfl ?_
            refine J.iincN (L' := [_, _, _, _, _, _, _]) (pc := 80) G dX4_countOf_80 1 rfl rfl rfl rfl ?_
            refine J.goto (pc := 83) (tgt := 24) G dX4_countOf_83 (by decide) ?_
            rw [← hy]
            exact ih2 (j + 1) (by omega) (by omega)
          refine J.iload_n (pc := 36) G dX4_countOf_36 rfl ?_
          refine J.aload_n (pc := 37) G dX4_countOf_37 rfl ?_
          refine J.getf (pc := 38) (ci := 4) G inX4 rfl 6 q701 dX4_countOf_38 (hM.at 0 rfl) (by decide) rfl ?_
          refine J.iload (pc := 41) G dX4_countOf_41 rfl ?_
          refine J.iload (pc := 43) G dX4_countOf_43 rfl ?_
          refine J.iaddN (pc := 45) G dX4_countOf_45 ?_
          refine J.iconstN (pc := 46) G dX4_countOf_46 1 rfl ?_
          refine J.isubN (pc := 47) G dX4_countOf_47 (by omega) ?_
          refine J.ialdN (pc := 48) G dX4_countOf_48 (hM.at 4 rfl) (by omega) (by decide) ?_
          refine J.iload_n (pc := 49) G dX4_countOf_49 rfl ?_
          refine J.icmp_neN (pc := 50) (tgt := 77) G dX4_countOf_50 (by decide) (by omega) (by omega) (fun g1 => ?_) (fun g1 => ?_)
          · refine J.iconstN (pc := 77) G dX4_countOf_77 0 rfl ?_
            exact nx 0 (by rw [hs2, if_neg g1])
          · rw [if_pos g1] at hs2
            refine J.aload_n (pc := 53) G dX4_countOf_53 rfl ?_
            refine J.getf (pc := 54) (ci := 4) G inX4 rfl 6 q701 dX4_countOf_54 (hM.at 0 rfl) (by decide) rfl ?_
            refine J.iload (pc := 57) G dX4_countOf_57 rfl ?_
            refine J.iload (pc := 59) G dX4_countOf_59 rfl ?_
            refine J.iaddN (pc := 61) G dX4_countOf_61 ?_
            refine J.ialdN (pc := 62) G dX4_countOf_62 (hM.at 4 rfl) (by omega) (by decide) ?_
            refine J.iload_n (pc := 63) G dX4_countOf_63 rfl ?_
            refine J.icmp_neN (pc := 64) (tgt := 77) G dX4_countOf_64 (by decide) (by omega) (by omega) (fun g2 => ?_) (fun g2 => ?_)
            · refine J.iconstN (pc := 77) G dX4_countOf_77 0 rfl ?_
              exact nx 0 (by rw [hs2, if_neg g2])
            · refine J.aload_n (pc := 67) G dX4_countOf_67 rfl ?_
              refine J.getf (pc := 68) (ci := 4) G inX4 rfl 4 q699 dX4_countOf_68 (hM.at 0 rfl) (by decide) rfl ?_
              refine J.iload (pc := 71) G dX4_countOf_71 rfl ?_
              refine J.ialdN (pc := 73) G dX4_countOf_73 (hM.at 2 rfl) (by omega) (by decide) ?_
              refine J.goto (pc := 74) (tgt := 78) G dX4_countOf_74 (by decide) ?_
              exact nx _ (by rw [hs2, if_pos g2])
      exact K2 0 (Nat.zero_le _)
  exact K1 0 (Nat.zero_le _) _ _
end MOD4
