section MOD13
def utF (p k : Nat) : Nat := p &&& (2 ^ k - 1)
set_option maxRecDepth 100000 in
set_option maxHeartbeats 4000000 in
theorem m_until (n : Nat) (M : AH) {p k : Nat} (hk : k ≤ 12) : Fn yX4_until cX4_until 2 (some .int) 0 [.int (iI (p : Int)), .int (iI (k : Int))] n M 0 0 (fun r n' M' => r = some (.int (iI ((utF p k : Nat) : Int))) ∧ n' = n ∧ M' = M) := by
  refine Fn.of (by decide) [some _, some _] rfl rfl (Nat.le_of_ble_eq_true rfl) ?_
  intro g G hin hO
  have hp := Nat.one_le_two_pow (n := k)
  refine J.iload_n (pc := 0) G dX4_until_0 rfl ?_
  refine J.iconstN (pc := 1) G dX4_until_1 1 rfl ?_
  refine J.iload_n (pc := 2) G dX4_until_2 rfl ?_
  refine J.ishl1 (pc := 3) G dX4_until_3 (by omega) ?_
  refine J.iconstN (pc := 4) G dX4_until_4 1 rfl ?_
  refine J.isubN (pc := 5) G dX4_until_5 (by omega) ?_
  refine J.iandN (pc := 6) G dX4_until_6 ?_
  exact J.iret (pc := 7) G hO dX4_until_7 (by decide) (by decide) ⟨rfl, rfl, rfl⟩
def cuB (p k : Nat) : Bool := decide (k = 0) || p.testBit (k - 1)
set_option maxRecDepth 100000 in
set_option maxHeartbeats 4000000 in
theorem m_isCut (n : Nat) (M : AH) {p k : Nat} (hp : p < 2147483648) (hk : k ≤ 12) : Fn yX4_isCut cX4_isCut 2 (some .boolean) 1 [.int (iI (p : Int)), .int (iI (k : Int))] n M 0 0 (fun r n' M' => r = some (.int (bI (cuB p k))) ∧ n' = n ∧ M' = M) := by
  refine Fn.of (by decide) [some _, some _] rfl rfl (Nat.le_of_ble_eq_true rfl) ?_
  intro g G hin hO
  have K14 : cuB p k = true → J g 0 0 n M [some (.int (iI (p : Int))), some (.int (iI (k : Int)))] 14 [] := by
    intro h
    refine J.iconstN (pc := 14) G dX4_isCut_14 1 rfl ?_
    refine J.goto (pc := 15) (tgt := 19) G dX4_isCut_15 (by decide) ?_
    exact J.zret1 (pc := 19) G hO dX4_isCut_19 (by decide) (by decide) ⟨by rw [h], rfl, rfl⟩
  refine J.iload_n (pc := 0) G dX4_isCut_0 rfl ?_
  refine J.if_eqN (pc := 1) (tgt := 14) G dX4_isCut_1 (by decide) (by omega) (fun h => ?_) (fun h => ?_)
  · exact K14 (by unfold cuB; rw [decide_eq_true h]; rfl)
  · refine J.iload_n (pc := 4) G dX4_isCut_4 rfl ?_
    refine J.iload_n (pc := 5) G dX4_isCut_5 rfl ?_
    refine J.iconstN (pc := 6) G dX4_isCut_6 1 rfl ?_
    refine J.isubN (pc := 7) G dX4_isCut_7 (by omega) ?_
    refine J.callS (pc := 8) (na := 2) G (m_has n M (m := p) (l := k - 1) hp (by omega)) q805 q806 q807 q5 (by decide +kernel) dX4_isCut_8 rfl (Nat.le_of_ble_eq_true rfl) rfl ⟨by omega, by decide, by omega, by omega⟩ ?_
    rintro r9 n9 M9 ⟨hr9, hn9, hM9⟩
    subst hr9
    rw [hn9, hM9]
    clear hn9 hM9 n9 M9
    dsimp only [Option.toList, List.cons_append, List.nil_append]
    refine J.if_eq_b (pc := 11) (tgt := 18) G dX4_isCut_11 (by decide) (fun hb => ?_) (fun hb => ?_)
    · refine J.iconstN (pc := 18) G dX4_isCut_18 0 rfl ?_
      exact J.zret0 (pc := 19) G hO dX4_isCut_19 (by decide) (by decide) ⟨by unfold cuB; rw [hb, decide_eq_false (by omega)]; rfl, rfl, rfl⟩
    · exact K14 (by unfold cuB; rw [hb, Bool.or_true])
def plF (w : Nat → Nat) (p l k : Nat) : Nat := it (fun i s => if p.testBit i then (if l.testBit (w i) then s ||| 2 ^ i else s) else s) 0 k
set_option maxRecDepth 100000 in
set_option maxHeartbeats 4000000 in
theorem m_placesOf (n : Nat) (M : AH) {a p l : Nat} {R : Nat → Nat → Nat} {P : Nat → Int} {Z : Nat → Nat} (hM : Cl M a (modC a R P Z)) (hp : p < 2147483648) (hl : l < 2147483648) (hw : ∀ i, i < 12 → R 8 i < 8) : Fn yX4_placesOf cX4_placesOf 5 (some .int) 1 [.ref a, .int (iI (p : Int)), .int (iI (l : Int))] n M 0 0 (fun r n' M' => r = some (.int (iI ((plF (R 8) p l 12 : Nat) : Int))) ∧ n' = n ∧ M' = M) := by
  refine Fn.of (by decide) [some _, some _, some _, none, none] rfl rfl (Nat.le_of_ble_eq_true rfl) ?_
  intro g G hin hO
  refine J.iconstN (pc := 0) G dX4_placesOf_0 0 rfl ?_
  refine J.istore_n (L' := [_, _, _, _, _]) (pc := 1) G dX4_placesOf_1 rfl (Nat.le_of_ble_eq_true rfl) rfl ?_
  refine J.iconstN (pc := 2) G dX4_placesOf_2 0 rfl ?_
  refine J.istore (L' := [_, _, _, _, _]) (pc := 3) G dX4_placesOf_3 rfl (Nat.le_of_ble_eq_true rfl) rfl ?_
  have K1 : ∀ k : Nat, k ≤ 12 → J g 0 0 n M [some (.ref a), some (.int (iI (p : Int))), some (.int (iI (l : Int))), some (.int (iI (plF (R 8) p l k : Int))), some (.int (iI (k : Int)))] 5 [] := by
    refine loopJ (fun k => 12 - k) _ _ ?_
    intro k hk ih
    have hstep : plF (R 8) p l (k + 1) = if p.testBit k then (if l.testBit (R 8 k) then plF (R 8) p l k ||| 2 ^ k else plF (R 8) p l k) else plF (R 8) p l k := rfl
    refine J.iload (pc := 5) G dX4_placesOf_5 rfl ?_
    refine J.bipushN (pc := 7) G dX4_placesOf_7 12 (by decide +kernel) ?_
    refine J.icmp_geN (pc := 9) (tgt := 48) G dX4_placesOf_9 (by decide) (by omega) (by omega) (fun h => ?_) (fun h => ?_)
    · rw [show k = 12 by omega]
      refine J.iload_n (pc := 48) G dX4_placesOf_48 rfl ?_
      exact J.iret (pc := 49) G hO dX4_placesOf_49 (by decide) (by decide) ⟨rfl, rfl, rfl⟩
    · generalize plF (R 8) p l k = s at hstep ⊢
      have hwk := hw k h
      have nx : ∀ x : Nat, plF (R 8) p l (k + 1) = x → J g 0 0 n M [some (.ref a), some (.int (iI (p : Int))), some (.int (iI (l : Int))), some (.int (iI (x : Int))), some (.int (iI (k : Int)))] 42 [] := by
        intro x hx
        refine J.iincN (L' := [_, _, _, _, _]) (pc := 42) G dX4_placesOf_42 1 rfl rfl rfl rfl ?_
        refine J.goto (pc := 45) (tgt := 5) G dX4_placesOf_45 (by decide) ?_
        rw [← hx]
        exact ih (k + 1) (by omega) (by omega)
      refine J.iload_n (pc := 12) G dX4_placesOf_12 rfl ?_
      refine J.iload (pc := 13) G dX4_placesOf_13 rfl ?_
      refine J.callS (pc := 15) (na := 2) G (m_has n M (m := p) (l := k) hp (by omega)) q805 q806 q807 q5 (by decide +kernel) dX4_placesOf_15 rfl (Nat.le_of_ble_eq_true rfl) rfl ⟨by omega, by decide, by omega, by omega⟩ ?_
      rintro r9 n9 M9 ⟨hr9, hn9, hM9⟩
      subst hr9
      rw [hn9, hM9]
      clear hn9 hM9 n9 M9
      dsimp only [Option.toList, List.cons_append, List.nil_append]
      refine J.if_eq_b (pc := 18) (tgt := 42) G dX4_placesOf_18 (by decide) (fun hb => ?_) (fun hb => ?_)
      · exact nx _ (by rw [hstep, hb]; rfl)
      · rw [hb, if_pos rfl] at hstep
        refine J.iload_n (pc := 21) G dX4_placesOf_21 rfl ?_
        refine J.aload_n (pc := 22) G dX4_placesOf_22 rfl ?_
        refine J.getf (pc := 23) (ci := 4) G inX4 rfl 12 q707 dX4_placesOf_23 (hM.at 0 rfl) (by decide) rfl ?_
        refine J.iload (pc := 26) G dX4_placesOf_26 rfl ?_
        refine J.ialdN (pc := 28) G dX4_placesOf_28 (hM.at 8 rfl) (by omega) (by decide) ?_
        refine J.callS (pc := 29) (na := 2) G (m_has n M (m := l) (l := R 8 k) hl (by omega)) q805 q806 q807 q5 (by decide +kernel) dX4_placesOf_29 rfl (Nat.le_of_ble_eq_true rfl) rfl ⟨by omega, by decide, by omega, by omega⟩ ?_
        rintro r9 n9 M9 ⟨hr9, hn9, hM9⟩
        subst hr9
        rw [hn9, hM9]
        clear hn9 hM9 n9 M9
        dsimp only [Option.toList, List.cons_append, List.nil_append]
        refine J.if_eq_b (pc := 32) (tgt := 42) G dX4_placesOf_32 (by decide) (fun hb2 => ?_) (fun hb2 => ?_)
        · exact nx _ (by rw [hstep, hb2]; rfl)
        · rw [hb2, if_pos rfl] at hstep
          refine J.iload_n (pc := 35) G dX4_placesOf_35 rfl ?_
          refine J.iconstN (pc := 36) G dX4_placesOf_36 1 rfl ?_
          refine J.iload (pc := 37) G dX4_placesOf_37 rfl ?_
          refine J.ishl1 (pc := 39) G dX4_placesOf_39 (by omega) ?_
          refine J.iorN (pc := 40) G dX4_placesOf_40 ?_
          refine J.istore_n (L' := [_, _, _, _, _]) (pc := 41) G dX4_placesOf_41 rfl (Nat.le_of_ble_eq_true rfl) rfl ?_
          exact nx _ hstep
  exact K1 0 (Nat.zero_le _)
end MOD13
