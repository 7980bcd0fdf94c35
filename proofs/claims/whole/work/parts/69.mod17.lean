section MOD17
def beC (part fi be en a b : Nat) : Bool := ((andn fi en).testBit a && part.testBit b) || (part.testBit a && (andn fi be).testBit b)
def beI (part fi be en : Nat) (fo : Nat → Nat) (a : Nat) (x : Bool) (k : Nat) : Bool := it (fun b x => if (fo a).testBit b then (x || beC part fi be en a b) else x) x k
def beF (part fi be en : Nat) (fo : Nat → Nat) (k : Nat) : Bool := it (fun a x => beI part fi be en fo a x 8) false k
set_option maxRecDepth 100000 in
set_option maxHeartbeats 4000000 in
theorem m_belongs (n : Nat) (M : AH) {r part fi be en : Nat} {fo : Nat → Nat} (hr : M r = some (cN 8 fo)) (hfo : ∀ j, j < 8 → fo j < 256) (hpa : part < 256) (hfi : fi < 256) (hbe : be < 256) (hen : en < 256) : Fn yX4_belongs cX4_belongs 8 (some .boolean) 1 [.int (iI (part : Int)), .int (iI (fi : Int)), .int (iI (be : Int)), .int (iI (en : Int)), .ref r] n M 0 0 (fun rr n' M' => rr = some (.int (bI (beF part fi be en fo 8))) ∧ n' = n ∧ M' = M) := by
  refine Fn.of (by decide) [some _, some _, some _, some _, some _, none, none, none] rfl rfl (Nat.le_of_ble_eq_true rfl) ?_
  intro g G hin hO
  have ha1 := andn_lt8 (b := en) hfi
  have ha2 := andn_lt8 (b := be) hfi
  refine J.iconstN (pc := 0) G dX4_belongs_0 0 rfl ?_
  refine J.istore (L' := [_, _, _, _, _, _, _, _]) (pc := 1) G dX4_belongs_1 rfl (Nat.le_of_ble_eq_true rfl) rfl ?_
  refine J.iconstN (pc := 3) G dX4_belongs_3 0 rfl ?_
  refine J.istore (L' := [_, _, _, _, _, _, _, _]) (pc := 4) G dX4_belongs_4 rfl (Nat.le_of_ble_eq_true rfl) rfl ?_
  refine J.stk rfl ?_
  have K1 : ∀ a : Nat, a ≤ 8 → ∀ l7, J g 0 0 n M [some (.int (iI (part : Int))), some (.int (iI (fi : Int))), some (.int (iI (be : Int))), some (.int (iI (en : Int))), some (.ref r), some (.int (bI (beF part fi be en fo a))), some (.int (iI (a : Int))), l7] 6 [] := by
    refine loopJ (fun a => 8 - a) _ _ ?_
    intro a ha ih l7
    have hstep : beF part fi be en fo (a + 1) = beI part fi be en fo a (beF part fi be en fo a) 8 := rfl
    refine J.iload (pc := 6) G dX4_belongs_6 rfl ?_
    refine J.bipushN (pc := 8) G dX4_belongs_8 8 (by decide +kernel) ?_
    refine J.icmp_geN (pc := 10) (tgt := 107) G dX4_belongs_10 (by decide) (by omega) (by omega) (fun h => ?_) (fun h => ?_)
    · rw [show a = 8 by omega]
      refine J.iload (pc := 107) G dX4_belongs_107 rfl ?_
      exact J.zret (pc := 109) G hO dX4_belongs_109 (by decide) (by decide) ⟨rfl, rfl, rfl⟩
    · generalize beF part fi be en fo a = x at hstep ⊢
      have hfa := hfo a h
      refine J.iconstN (pc := 13) G dX4_belongs_13 0 rfl ?_
      refine J.istore (L' := [_, _, _, _, _, _, _, _]) (pc := 14) G dX4_belongs_14 rfl (Nat.le_of_ble_eq_true rfl) rfl ?_
      have K2 : ∀ b : Nat, b ≤ 8 → J g 0 0 n M [some (.int (iI (part : Int))), some (.int (iI (fi : Int))), some (.int (iI (be : Int))), some (.int (iI (en : Int))), some (.ref r), some (.int (bI (beI part fi be en fo a x b))), some (.int (iI (a : Int))), some (.int (iI (b : Int)))] 16 [] := by
        refine loopJ (fun b => 8 - b) _ _ ?_
        intro b hb ih2
        have hs2 : beI part fi be en fo a x (b + 1) = if (fo a).testBit b then (beI part fi be en fo a x b || beC part fi be en a b) else beI part fi be en fo a x b := rfl
        refine J.iload (pc := 16) G dX4_belongs_16 rfl ?_
        refine J.bipushN (pc := 18) G dX4_belongs_18 8 (by decide +kernel) ?_
        refine J.icmp_geN (pc := 20) (tgt := 101) G dX4_belongs_20 (by decide) (by omega) (by omega) (fun h2 => ?_) (fun h2 => ?_)
        · rw [show b = 8 by omega, ← hstep]
          refine J.iincN (L' := [_, _, _, _, _, _, _, _]) (pc := 101) G dX4_belongs_101 1 rfl rfl rfl rfl ?_
          refine J.goto (pc := 104) (tgt := 6) G dX4_belongs_104 (by decide) ?_
          exact ih (a + 1) (by omega) (by omega) _
        · generalize beI part fi be en fo a x b = y at hs2 ⊢
          have nx : ∀ z : Bool, beI part fi be en fo a x (b + 1) = z → J g 0 0 n M [some (.int (iI (part : Int))), some (.int (iI (fi : Int))), some (.int (iI (be : Int))), some (.int (iI (en : Int))), some (.ref r), some (.int (bI z)), some (.int (iI (a : Int))), some (.int (iI (b : Int)))] 95 [] := by
            intro z hz
            refine J.iincN (L' := [_, _, _, _, _, _, _, _]) (pc := 95) G dX4_belongs_95 1 rfl rfl rfl rfl ?_
            refine J.goto (pc := 98) (tgt := 16) G dX4_belongs_98 (by decide) ?_
            rw [← hz]
            exact ih2 (b + 1) (by omega) (by omega)
          refine J.aload (pc := 23) G dX4_belongs_23 rfl ?_
          refine J.iload (pc := 25) G dX4_belongs_25 rfl ?_
          refine J.ialdN (pc := 27) G dX4_belongs_27 hr h (by decide) ?_
          refine J.iload (pc := 28) G dX4_belongs_28 rfl ?_
          refine J.callS (pc := 30) (na := 2) G (m_has n M (m := fo a) (l := b) (by omega) (by omega)) q805 q806 q807 q5 (by decide +kernel) dX4_belongs_30 rfl (Nat.le_of_ble_eq_true rfl) rfl ⟨by omega, by decide, by omega, by omega⟩ ?_
          rintro r9 n9 M9 ⟨hr9, hn9, hM9⟩
          subst hr9
          rw [hn9, hM9]
          clear hn9 hM9 n9 M9
          dsimp only [Option.toList, List.cons_append, List.nil_append]
          refine J.if_ne_b (pc := 33) (tgt := 39) G dX4_belongs_33 (by decide) (fun hq => ?_) (fun hq => ?_)
          · rw [hq, if_pos rfl] at hs2
            have K88 : (y || beC part fi be en a b) = true → J g 0 0 n M [some (.int (iI (part : Int))), some (.int (iI (fi : Int))), some (.int (iI (be : Int))), some (.int (iI (en : Int))), some (.ref r), some (.int (bI y)), some (.int (iI (a : Int))), some (.int (iI (b : Int)))] 88 [] := by
              intro ht
              rw [ht] at hs2
              refine J.iconstN (pc := 88) G dX4_belongs_88 1 rfl ?_
              refine J.goto (pc := 89) (tgt := 93) G dX4_belongs_89 (by decide) ?_
              refine J.topv (b := bI true) rfl ?_
              refine J.istore (L' := [_, _, _, _, _, _, _, _]) (pc := 93) G dX4_belongs_93 rfl (Nat.le_of_ble_eq_true rfl) rfl ?_
              exact nx true hs2
            have K92 : (y || beC part fi be en a b) = false → J g 0 0 n M [some (.int (iI (part : Int))), some (.int (iI (fi : Int))), some (.int (iI (be : Int))), some (.int (iI (en : Int))), some (.ref r), some (.int (bI y)), some (.int (iI (a : Int))), some (.int (iI (b : Int)))] 92 [] := by
              intro ht
              rw [ht] at hs2
              refine J.iconstN (pc := 92) G dX4_belongs_92 0 rfl ?_
              refine J.topv (b := bI false) rfl ?_
              refine J.istore (L' := [_, _, _, _, _, _, _, _]) (pc := 93) G dX4_belongs_93 rfl (Nat.le_of_ble_eq_true rfl) rfl ?_
              exact nx false hs2
            unfold beC at K88 K92
            refine J.iload (pc := 39) G dX4_belongs_39 rfl ?_
            refine J.if_ne_b (pc := 41) (tgt := 88) G dX4_belongs_41 (by decide) (fun hy => K88 (by rw [hy]; rfl)) (fun hy => ?_)
            rw [hy, Bool.false_or] at K88 K92
            have K66 : ((andn fi en).testBit a && part.testBit b) = false → J g 0 0 n M [some (.int (iI (part : Int))), some (.int (iI (fi : Int))), some (.int (iI (be : Int))), some (.int (iI (en : Int))), some (.ref r), some (.int (bI false)), some (.int (iI (a : Int))), some (.int (iI (b : Int)))] 66 [] := by
              intro h0
              rw [h0, Bool.false_or] at K88 K92
              refine J.iload_n (pc := 66) G dX4_belongs_66 rfl ?_
              refine J.iload (pc := 67) G dX4_belongs_67 rfl ?_
              refine J.callS (pc := 69) (na := 2) G (m_has n M (m := part) (l := a) (by omega) (by omega)) q805 q806 q807 q5 (by decide +kernel) dX4_belongs_69 rfl (Nat.le_of_ble_eq_true rfl) rfl ⟨by omega, by decide, by omega, by omega⟩ ?_
              rintro r9 n9 M9 ⟨hr9, hn9, hM9⟩
              subst hr9
              rw [hn9, hM9]
              clear hn9 hM9 n9 M9
              dsimp only [Option.toList, List.cons_append, List.nil_append]
              refine J.if_eq_b (pc := 72) (tgt := 92) G dX4_belongs_72 (by decide) (fun h5 => ?_) (fun h5 => ?_)
              · exact K92 (by rw [h5]; rfl)
              · rw [h5, Bool.true_and] at K88 K92
                refine J.iload_n (pc := 75) G dX4_belongs_75 rfl ?_
                refine J.iload_n (pc := 76) G dX4_belongs_76 rfl ?_
                refine J.andnN (pc := 77) G dX4_belongs_77 dX4_belongs_78 dX4_belongs_79 ?_
                refine J.iload (pc := 80) G dX4_belongs_80 rfl ?_
                refine J.callS (pc := 82) (na := 2) G (m_has n M (m := andn fi be) (l := b) (by omega) (by omega)) q805 q806 q807 q5 (by decide +kernel) dX4_belongs_82 rfl (Nat.le_of_ble_eq_true rfl) rfl ⟨by omega, by decide, by omega, by omega⟩ ?_
                rintro r9 n9 M9 ⟨hr9, hn9, hM9⟩
                subst hr9
                rw [hn9, hM9]
                clear hn9 hM9 n9 M9
                dsimp only [Option.toList, List.cons_append, List.nil_append]
                refine J.if_eq_b (pc := 85) (tgt := 92) G dX4_belongs_85 (by decide) (fun h6 => ?_) (fun h6 => ?_)
                · exact K92 h6
                · exact K88 h6
            rw [hy]
            refine J.iload_n (pc := 44) G dX4_belongs_44 rfl ?_
            refine J.iload_n (pc := 45) G dX4_belongs_45 rfl ?_
            refine J.andnN (pc := 46) G dX4_belongs_46 dX4_belongs_47 dX4_belongs_48 ?_
            refine J.iload (pc := 49) G dX4_belongs_49 rfl ?_
            refine J.callS (pc := 51) (na := 2) G (m_has n M (m := andn fi en) (l := a) (by omega) (by omega)) q805 q806 q807 q5 (by decide +kernel) dX4_belongs_51 rfl (Nat.le_of_ble_eq_true rfl) rfl ⟨by omega, by decide, by omega, by omega⟩ ?_
            rintro r9 n9 M9 ⟨hr9, hn9, hM9⟩
            subst hr9
            rw [hn9, hM9]
            clear hn9 hM9 n9 M9
            dsimp only [Option.toList, List.cons_append, List.nil_append]
            refine J.if_eq_b (pc := 54) (tgt := 66) G dX4_belongs_54 (by decide) (fun h5 => ?_) (fun h5 => ?_)
            · exact K66 (by rw [h5]; rfl)
            · rw [h5, Bool.true_and] at K66 K88
              refine J.iload_n (pc := 57) G dX4_belongs_57 rfl ?_
              refine J.iload (pc := 58) G dX4_belongs_58 rfl ?_
              refine J.callS (pc := 60) (na := 2) G (m_has n M (m := part) (l := b) (by omega) (by omega)) q805 q806 q807 q5 (by decide +kernel) dX4_belongs_60 rfl (Nat.le_of_ble_eq_true rfl) rfl ⟨by omega, by decide, by omega, by omega⟩ ?_
              rintro r9 n9 M9 ⟨hr9, hn9, hM9⟩
              subst hr9
              rw [hn9, hM9]
              clear hn9 hM9 n9 M9
              dsimp only [Option.toList, List.cons_append, List.nil_append]
              refine J.if_ne_b (pc := 63) (tgt := 88) G dX4_belongs_63 (by decide) (fun h6 => K88 (by rw [h6]; rfl)) (fun h6 => ?_)
              exact K66 h6
          · rw [hq] at hs2
            refine J.goto (pc := 36) (tgt := 95) G dX4_belongs_36 (by decide) ?_
            exact nx y hs2
      exact K2 0 (Nat.zero_le _)
  exact K1 0 (Nat.zero_le _) _
end MOD17
