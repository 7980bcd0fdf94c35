section ISW2
set_option maxRecDepth 100000 in
set_option maxHeartbeats 4000000 in
theorem m_isOrder (n : Nat) (M : AH) {a : Nat} {R : Nat → Nat → Nat} {P : Nat → Int} {Z : Nat → Nat} {nd : List Nd} {iw aw : Nat → Nat → Bool} {od : Nat → Nat → Nat → Bool} {ag : Nat → Nat → Bool} {go : Nat → Nat → Nat → Bool} (hH : IwH M a R P Z nd) (hE : IwEq nd (R 8) iw aw od ag go) (m : Nat) (h1 : ∀ m', m' < m → IwW n M a nd iw m') (h2 : ∀ m', m' < m → IwO n M a nd od m') : IwO n M a nd od m := by
  intro i k p hi hk hp hm
  refine Fn.of (by decide) [some _, some _, some _, some _, none, none, none] rfl rfl (Nat.le_of_ble_eq_true rfl) ?_
  intro g G hin hO
  obtain ⟨hM, hT, hsh, hc8, hS, hw⟩ := hH
  obtain ⟨g8, g64, gi, gp⟩ := id hT
  have hE1 := hE.2.2.1 i k p hi hk hp
  have hc8i := hc8 i hi
  have hck := chl_in (nd := nd) (i := i) (c := k) hk
  have hpk := (gp _ hck.1).2
  refine J.aload_n (pc := 0) G dX4_isOrder_0 rfl ?_
  refine J.iload_n (pc := 1) G dX4_isOrder_1 rfl ?_
  refine J.iload_n (pc := 2) G dX4_isOrder_2 rfl ?_
  refine J.callV (pc := 3) (na := 2) G (m_childOf n M (i := i) (c := k) (nd := nd) hM hT hi hk) q913 q915 qp50 q916 q5 (by decide +kernel) dX4_isOrder_3 (hM.at 0 rfl) rfl rfl (Nat.le_of_ble_eq_true rfl) rfl ⟨by omega, by decide, by omega, by omega⟩ ?_
  rintro r9 n9 M9 ⟨hr9, hn9, hM9⟩
  subst hr9
  rw [hn9, hM9]
  clear hn9 hM9 n9 M9
  dsimp only [Option.toList, List.cons_append, List.nil_append]
  refine J.istore (L' := [_, _, _, _, _, _, _]) (pc := 6) G dX4_isOrder_6 rfl (Nat.le_of_ble_eq_true rfl) rfl ?_
  refine J.iload_n (pc := 8) G dX4_isOrder_8 rfl ?_
  refine J.aload_n (pc := 9) G dX4_isOrder_9 rfl ?_
  refine J.iload_n (pc := 10) G dX4_isOrder_10 rfl ?_
  refine J.callV (pc := 11) (na := 1) G (m_childCount n M (i := i) (nd := nd) hM hT hi) q905 q907 qp49 q908 q5 (by decide +kernel) dX4_isOrder_11 (hM.at 0 rfl) rfl rfl (Nat.le_of_ble_eq_true rfl) rfl ⟨by omega, by decide, by omega, by omega⟩ ?_
  rintro r9 n9 M9 ⟨hr9, hn9, hM9⟩
  subst hr9
  rw [hn9, hM9]
  clear hn9 hM9 n9 M9
  dsimp only [Option.toList, List.cons_append, List.nil_append]
  refine J.iconstN (pc := 14) G dX4_isOrder_14 1 rfl ?_
  refine J.isubN (pc := 15) G dX4_isOrder_15 (by omega) ?_
  refine J.icmp_neN (pc := 16) (tgt := 27) G dX4_isOrder_16 (by decide) (by omega) (by omega) (fun h5 => ?_) (fun h5 => ?_)
  · rw [if_neg (by omega)] at hE1
    have K103 : ∀ b : Bool, b = od i k p → ∀ l6, J g 0 0 n M [some (.ref a), some (.int (iI (i : Int))), some (.int (iI (k : Int))), some (.int (iI (p : Int))), some (.int (iI ((gd (chl nd i) k : Nat) : Int))), some (.int (bI b)), l6] 103 [] := by
      intro b hb l6
      refine J.iload (pc := 103) G dX4_isOrder_103 rfl ?_
      exact J.zret (pc := 105) G hO dX4_isOrder_105 (by decide) (by decide) ⟨by rw [hb], rfl, rfl⟩
    generalize hf : (fun q => cuB p q && (iw (gd (chl nd i) k) (utF p q) && od i (k + 1) (andn p (utF p q)))) = f at hE1
    have hfq : ∀ q, f q = (cuB p q && (iw (gd (chl nd i) k) (utF p q) && od i (k + 1) (andn p (utF p q)))) := fun q => by rw [← hf]
    refine J.iconstN (pc := 27) G dX4_isOrder_27 0 rfl ?_
    refine J.istore (L' := [_, _, _, _, _, _, _]) (pc := 28) G dX4_isOrder_28 rfl (Nat.le_of_ble_eq_true rfl) rfl ?_
    refine J.iconstN (pc := 30) G dX4_isOrder_30 0 rfl ?_
    refine J.istore (L' := [_, _, _, _, _, _, _]) (pc := 31) G dX4_isOrder_31 rfl (Nat.le_of_ble_eq_true rfl) rfl ?_
    have K1 : ∀ q : Nat, q ≤ 13 → J g 0 0 n M [some (.ref a), some (.int (iI (i : Int))), some (.int (iI (k : Int))), some (.int (iI (p : Int))), some (.int (iI ((gd (chl nd i) k : Nat) : Int))), some (.int (bI (anyU f q))), some (.int (iI (q : Int)))] 33 [] := by
      refine loopJ (fun q => 13 - q) _ _ ?_
      intro q hq ih
      refine J.iload (pc := 33) G dX4_isOrder_33 rfl ?_
      refine J.bipushN (pc := 35) G dX4_isOrder_35 12 (by decide +kernel) ?_
      refine J.icmp_gtN (pc := 37) (tgt := 103) G dX4_isOrder_37 (by decide) (by omega) (by omega) (fun h => ?_) (fun h => ?_)
      · exact K103 _ (by rw [hE1, show q = 13 by omega]) _
      · refine J.iload (pc := 40) G dX4_isOrder_40 rfl ?_
        refine J.if_ne_b (pc := 42) (tgt := 103) G dX4_isOrder_42 (by decide) (fun hx => ?_) (fun hx => ?_)
        · exact K103 _ (by rw [hE1, hx, anyU_mono hx (by omega)]) _
        · have nx : ∀ y : Bool, f q = y → J g 0 0 n M [some (.ref a), some (.int (iI (i : Int))), some (.int (iI (k : Int))), some (.int (iI (p : Int))), some (.int (iI ((gd (chl nd i) k : Nat) : Int))), some (.int (bI (anyU f q))), some (.int (iI (q : Int)))] 95 [.int (bI y)] := by
            intro y hy
            refine J.istore (L' := [_, _, _, _, _, _, _]) (pc := 95) G dX4_isOrder_95 rfl (Nat.le_of_ble_eq_true rfl) rfl ?_
            refine J.iincN (L' := [_, _, _, _, _, _, _]) (pc := 97) G dX4_isOrder_97 1 rfl rfl rfl rfl ?_
            refine J.goto (pc := 100) (tgt := 33) G dX4_isOrder_100 (by decide) ?_
            have := ih (q + 1) (by omega) (by omega)
            rw [anyU_s hx, hy] at this
            exact this
          have K94 : f q = false → J g 0 0 n M [some (.ref a), some (.int (iI (i : Int))), some (.int (iI (k : Int))), some (.int (iI (p : Int))), some (.int (iI ((gd (chl nd i) k : Nat) : Int))), some (.int (bI (anyU f q))), some (.int (iI (q : Int)))] 94 [] := by
            intro hy
            refine J.iconstN (pc := 94) G dX4_isOrder_94 0 rfl ?_
            refine J.topv (b := bI false) rfl ?_
            exact nx false hy
          have hut := utF_lt (k := q) hp
          have han := andn_lt12 (q := utF p q) hp
          have hfq := hfq q
          refine J.iload_n (pc := 45) G dX4_isOrder_45 rfl ?_
          refine J.iload (pc := 46) G dX4_isOrder_46 rfl ?_
          refine J.callS (pc := 48) (na := 2) G (m_isCut n M (p := p) (k := q) (by omega) (by omega)) q949 q950 q951 q5 (by decide +kernel) dX4_isOrder_48 rfl (Nat.le_of_ble_eq_true rfl) rfl ⟨by omega, by decide, by omega, by omega⟩ ?_
          rintro r9 n9 M9 ⟨hr9, hn9, hM9⟩
          subst hr9
          rw [hn9, hM9]
          clear hn9 hM9 n9 M9
          dsimp only [Option.toList, List.cons_append, List.nil_append]
          refine J.if_eq_b (pc := 51) (tgt := 94) G dX4_isOrder_51 (by decide) (fun hb1 => ?_) (fun hb1 => ?_)
          · exact K94 (by rw [hfq, hb1]; rfl)
          · rw [hb1, Bool.true_and] at hfq
            refine J.aload_n (pc := 54) G dX4_isOrder_54 rfl ?_
            refine J.iload (pc := 55) G dX4_isOrder_55 rfl ?_
            refine J.iload_n (pc := 57) G dX4_isOrder_57 rfl ?_
            refine J.iload (pc := 58) G dX4_isOrder_58 rfl ?_
            refine J.callS (pc := 60) (na := 2) G (m_until n M (p := p) (k := q) (by omega)) q952 q953 q954 q5 (by decide +kernel) dX4_isOrder_60 rfl (Nat.le_of_ble_eq_true rfl) rfl ⟨by omega, by decide, by omega, by omega⟩ ?_
            rintro r9 n9 M9 ⟨hr9, hn9, hM9⟩
            subst hr9
            rw [hn9, hM9]
            clear hn9 hM9 n9 M9
            dsimp only [Option.toList, List.cons_append, List.nil_append]
            refine J.callV (pc := 63) (na := 2) G (h1 (28 * (nd.length - gd (chl nd i) k) + 4) (by omega) (gd (chl nd i) k) (utF p q) hck.1 hut rfl) q937 q939 qp53 q940 q5 (by decide +kernel) dX4_isOrder_63 (hM.at 0 rfl) rfl rfl (Nat.le_of_ble_eq_true rfl) rfl ⟨by omega, by decide, by omega, by omega⟩ ?_
            rintro r9 n9 M9 ⟨hr9, hn9, hM9⟩
            subst hr9
            rw [hn9, hM9]
            clear hn9 hM9 n9 M9
            dsimp only [Option.toList, List.cons_append, List.nil_append]
            refine J.if_eq_b (pc := 66) (tgt := 94) G dX4_isOrder_66 (by decide) (fun hb2 => ?_) (fun hb2 => ?_)
            · exact K94 (by rw [hfq, hb2]; rfl)
            · rw [hb2, Bool.true_and] at hfq
              refine J.aload_n (pc := 69) G dX4_isOrder_69 rfl ?_
              refine J.iload_n (pc := 70) G dX4_isOrder_70 rfl ?_
              refine J.iload_n (pc := 71) G dX4_isOrder_71 rfl ?_
              refine J.iconstN (pc := 72) G dX4_isOrder_72 1 rfl ?_
              refine J.iaddN (pc := 73) G dX4_isOrder_73 ?_
              refine J.iload_n (pc := 74) G dX4_isOrder_74 rfl ?_
              refine J.iload_n (pc := 75) G dX4_isOrder_75 rfl ?_
              refine J.iload (pc := 76) G dX4_isOrder_76 rfl ?_
              refine J.callS (pc := 78) (na := 2) G (m_until n M (p := p) (k := q) (by omega)) q952 q953 q954 q5 (by decide +kernel) dX4_isOrder_78 rfl (Nat.le_of_ble_eq_true rfl) rfl ⟨by omega, by decide, by omega, by omega⟩ ?_
              rintro r9 n9 M9 ⟨hr9, hn9, hM9⟩
              subst hr9
              rw [hn9, hM9]
              clear hn9 hM9 n9 M9
              dsimp only [Option.toList, List.cons_append, List.nil_append]
              refine J.andnN (pc := 81) G dX4_isOrder_81 dX4_isOrder_82 dX4_isOrder_83 ?_
              refine J.callV (pc := 84) (na := 3) G (h2 (28 * (nd.length - i) - 15 - (k + 1)) (by omega) i (k + 1) (andn p (utF p q)) hi (by omega) han rfl) q945 q947 qp55 q948 q5 (by decide +kernel) dX4_isOrder_84 (hM.at 0 rfl) rfl rfl (Nat.le_of_ble_eq_true rfl) rfl ⟨by omega, by decide, by omega, by omega⟩ ?_
              rintro r9 n9 M9 ⟨hr9, hn9, hM9⟩
              subst hr9
              rw [hn9, hM9]
              clear hn9 hM9 n9 M9
              dsimp only [Option.toList, List.cons_append, List.nil_append]
              refine J.if_eq_b (pc := 87) (tgt := 94) G dX4_isOrder_87 (by decide) (fun hb3 => ?_) (fun hb3 => ?_)
              · exact K94 (by rw [hfq, hb3])
              · refine J.iconstN (pc := 90) G dX4_isOrder_90 1 rfl ?_
                refine J.goto (pc := 91) (tgt := 95) G dX4_isOrder_91 (by decide) ?_
                refine J.topv (b := bI true) rfl ?_
                exact nx true (by rw [hfq, hb3])
    exact K1 0 (by omega)
  · rw [if_pos (by omega)] at hE1
    refine J.aload_n (pc := 19) G dX4_isOrder_19 rfl ?_
    refine J.iload (pc := 20) G dX4_isOrder_20 rfl ?_
    refine J.iload_n (pc := 22) G dX4_isOrder_22 rfl ?_
    refine J.callV (pc := 23) (na := 2) G (h1 (28 * (nd.length - gd (chl nd i) k) + 4) (by omega) (gd (chl nd i) k) p hck.1 hp rfl) q937 q939 qp53 q940 q5 (by decide +kernel) dX4_isOrder_23 (hM.at 0 rfl) rfl rfl (Nat.le_of_ble_eq_true rfl) rfl ⟨by omega, by decide, by omega, by omega⟩ ?_
    rintro r9 n9 M9 ⟨hr9, hn9, hM9⟩
    subst hr9
    rw [hn9, hM9]
    clear hn9 hM9 n9 M9
    dsimp only [Option.toList, List.cons_append, List.nil_append]
    exact J.zret (pc := 26) G hO dX4_isOrder_26 (by decide) (by decide) ⟨by rw [hE1], rfl, rfl⟩
set_option maxRecDepth 100000 in
set_option maxHeartbeats 4000000 in
theorem m_isAgain (n : Nat) (M : AH) {a : Nat} {R : Nat → Nat → Nat} {P : Nat → Int} {Z : Nat → Nat} {nd : List Nd} {iw aw : Nat → Nat → Bool} {od : Nat → Nat → Nat → Bool} {ag : Nat → Nat → Bool} {go : Nat → Nat → Nat → Bool} (hH : IwH M a R P Z nd) (hE : IwEq nd (R 8) iw aw od ag go) (m : Nat) (h1 : ∀ m', m' < m → IwW n M a nd iw m') (h2 : ∀ m', m' < m → IwN n M a nd go m') : IwG n M a nd ag m := by
  intro i p hi hc1 hp hm
  refine Fn.of (by decide) [some _, some _, some _, none, none, none, none] rfl rfl (Nat.le_of_ble_eq_true rfl) ?_
  intro g G hin hO
  obtain ⟨hM, hT, hsh, hc8, hS, hw⟩ := hH
  obtain ⟨g8, g64, gi, gp⟩ := id hT
  have hE1 := hE.2.2.2.1 i p hi hp
  have hck := chl_in (nd := nd) (i := i) (c := 0) (by omega)
  have hpk := (gp _ hck.1).2
  refine J.aload_n (pc := 0) G dX4_isAgain_0 rfl ?_
  refine J.iload_n (pc := 1) G dX4_isAgain_1 rfl ?_
  refine J.iconstN (pc := 2) G dX4_isAgain_2 0 rfl ?_
  refine J.callV (pc := 3) (na := 2) G (m_childOf n M (i := i) (c := 0) (nd := nd) hM hT hi (by omega)) q913 q915 qp50 q916 q5 (by decide +kernel) dX4_isAgain_3 (hM.at 0 rfl) rfl rfl (Nat.le_of_ble_eq_true rfl) rfl ⟨by omega, by decide, by omega, by omega⟩ ?_
  rintro r9 n9 M9 ⟨hr9, hn9, hM9⟩
  subst hr9
  rw [hn9, hM9]
  clear hn9 hM9 n9 M9
  dsimp only [Option.toList, List.cons_append, List.nil_append]
  refine J.istore_n (L' := [_, _, _, _, _, _, _]) (pc := 6) G dX4_isAgain_6 rfl (Nat.le_of_ble_eq_true rfl) rfl ?_
  refine J.aload_n (pc := 7) G dX4_isAgain_7 rfl ?_
  refine J.iload_n (pc := 8) G dX4_isAgain_8 rfl ?_
  refine J.iload_n (pc := 9) G dX4_isAgain_9 rfl ?_
  refine J.callV (pc := 10) (na := 2) G (h1 (28 * (nd.length - gd (chl nd i) 0) + 4) (by omega) (gd (chl nd i) 0) p hck.1 hp rfl) q937 q939 qp53 q940 q5 (by decide +kernel) dX4_isAgain_10 (hM.at 0 rfl) rfl rfl (Nat.le_of_ble_eq_true rfl) rfl ⟨by omega, by decide, by omega, by omega⟩ ?_
  rintro r9 n9 M9 ⟨hr9, hn9, hM9⟩
  subst hr9
  rw [hn9, hM9]
  clear hn9 hM9 n9 M9
  dsimp only [Option.toList, List.cons_append, List.nil_append]
  refine J.istore (L' := [_, _, _, _, _, _, _]) (pc := 13) G dX4_isAgain_13 rfl (Nat.le_of_ble_eq_true rfl) rfl ?_
  refine J.iconstN (pc := 15) G dX4_isAgain_15 0 rfl ?_
  refine J.istore (L' := [_, _, _, _, _, _, _]) (pc := 16) G dX4_isAgain_16 rfl (Nat.le_of_ble_eq_true rfl) rfl ?_
  generalize iw (gd (chl nd i) 0) p = b0 at hE1 ⊢
  generalize hf : (fun q => cuB p q && (iw (gd (chl nd i) 0) (utF p q) && go i (utF p q) (andn p (utF p q)))) = f at hE1
  have hfq : ∀ q, f q = (cuB p q && (iw (gd (chl nd i) 0) (utF p q) && go i (utF p q) (andn p (utF p q)))) := fun q => by rw [← hf]
  have K78 : ∀ b : Bool, b = ag i p → ∀ l5 l6, J g 0 0 n M [some (.ref a), some (.int (iI (i : Int))), some (.int (iI (p : Int))), some (.int (iI ((gd (chl nd i) 0 : Nat) : Int))), some (.int (bI b)), l5, l6] 78 [] := by
    intro b hb l5 l6
    refine J.iload (pc := 78) G dX4_isAgain_78 rfl ?_
    exact J.zret (pc := 80) G hO dX4_isAgain_80 (by decide) (by decide) ⟨by rw [hb], rfl, rfl⟩
  have K1 : ∀ q : Nat, q ≤ 13 → ∀ b : Bool, b = (b0 || anyU f q) → ∀ l6, J g 0 0 n M [some (.ref a), some (.int (iI (i : Int))), some (.int (iI (p : Int))), some (.int (iI ((gd (chl nd i) 0 : Nat) : Int))), some (.int (bI b)), some (.int (iI (q : Int))), l6] 18 [] := by
    refine loopJ (fun q => 13 - q) _ _ ?_
    intro q hq ih b hbq l6
    refine J.iload (pc := 18) G dX4_isAgain_18 rfl ?_
    refine J.bipushN (pc := 20) G dX4_isAgain_20 12 (by decide +kernel) ?_
    refine J.icmp_gtN (pc := 22) (tgt := 78) G dX4_isAgain_22 (by decide) (by omega) (by omega) (fun h => ?_) (fun h => ?_)
    · exact K78 _ (by rw [hE1, hbq, show q = 13 by omega]) _ _
    · refine J.iload (pc := 25) G dX4_isAgain_25 rfl ?_
      refine J.if_ne_b (pc := 27) (tgt := 78) G dX4_isAgain_27 (by decide) (fun hx => ?_) (fun hx => ?_)
      · refine K78 _ ?_ _ _
        rw [hx] at hbq
        rw [hE1, hx]
        rcases Bool.or_eq_true _ _ ▸ hbq.symm with q1 | q1
        · rw [q1]; rfl
        · rw [anyU_mono q1 (by omega : q ≤ 13), Bool.or_true]
      · rw [hx] at hbq ⊢
        obtain ⟨hb0, hau⟩ := Bool.or_eq_false_iff.mp hbq.symm
        have nx : ∀ y : Bool, f q = y → ∀ l6, J g 0 0 n M [some (.ref a), some (.int (iI (i : Int))), some (.int (iI (p : Int))), some (.int (iI ((gd (chl nd i) 0 : Nat) : Int))), some (.int (bI y)), some (.int (iI (q : Int))), l6] 72 [] := by
          intro y hy l6
          refine J.iincN (L' := [_, _, _, _, _, _, _]) (pc := 72) G dX4_isAgain_72 1 rfl rfl rfl rfl ?_
          refine J.goto (pc := 75) (tgt := 18) G dX4_isAgain_75 (by decide) ?_
          exact ih (q + 1) (by omega) (by omega) y (by rw [anyU_s hau, hy, hb0]; rfl) _
        have hut := utF_lt (k := q) hp
        have han := andn_lt12 (q := utF p q) hp
        have hfq := hfq q
        have hsp := popc_split (p := p) (k := q)
        refine J.iload_n (pc := 30) G dX4_isAgain_30 rfl ?_
        refine J.iload (pc := 31) G dX4_isAgain_31 rfl ?_
        refine J.callS (pc := 33) (na := 2) G (m_until n M (p := p) (k := q) (by omega)) q952 q953 q954 q5 (by decide +kernel) dX4_isAgain_33 rfl (Nat.le_of_ble_eq_true rfl) rfl ⟨by omega, by decide, by omega, by omega⟩ ?_
        rintro r9 n9 M9 ⟨hr9, hn9, hM9⟩
        subst hr9
        rw [hn9, hM9]
        clear hn9 hM9 n9 M9
        dsimp only [Option.toList, List.cons_append, List.nil_append]
        refine J.istore (L' := [_, _, _, _, _, _, _]) (pc := 36) G dX4_isAgain_36 rfl (Nat.le_of_ble_eq_true rfl) rfl ?_
        refine J.iload_n (pc := 38) G dX4_isAgain_38 rfl ?_
        refine J.iload (pc := 39) G dX4_isAgain_39 rfl ?_
        refine J.callS (pc := 41) (na := 2) G (m_isCut n M (p := p) (k := q) (by omega) (by omega)) q949 q950 q951 q5 (by decide +kernel) dX4_isAgain_41 rfl (Nat.le_of_ble_eq_true rfl) rfl ⟨by omega, by decide, by omega, by omega⟩ ?_
        rintro r9 n9 M9 ⟨hr9, hn9, hM9⟩
        subst hr9
        rw [hn9, hM9]
        clear hn9 hM9 n9 M9
        dsimp only [Option.toList, List.cons_append, List.nil_append]
        refine J.if_eq_b (pc := 44) (tgt := 72) G dX4_isAgain_44 (by decide) (fun hb1 => ?_) (fun hb1 => ?_)
        · exact nx false (by rw [hfq, hb1]; rfl) _
        · rw [hb1, Bool.true_and] at hfq
          refine J.aload_n (pc := 47) G dX4_isAgain_47 rfl ?_
          refine J.iload_n (pc := 48) G dX4_isAgain_48 rfl ?_
          refine J.iload (pc := 49) G dX4_isAgain_49 rfl ?_
          refine J.callV (pc := 51) (na := 2) G (h1 (28 * (nd.length - gd (chl nd i) 0) + 4) (by omega) (gd (chl nd i) 0) (utF p q) hck.1 hut rfl) q937 q939 qp53 q940 q5 (by decide +kernel) dX4_isAgain_51 (hM.at 0 rfl) rfl rfl (Nat.le_of_ble_eq_true rfl) rfl ⟨by omega, by decide, by omega, by omega⟩ ?_
          rintro r9 n9 M9 ⟨hr9, hn9, hM9⟩
          subst hr9
          rw [hn9, hM9]
          clear hn9 hM9 n9 M9
          dsimp only [Option.toList, List.cons_append, List.nil_append]
          refine J.if_eq_b (pc := 54) (tgt := 72) G dX4_isAgain_54 (by decide) (fun hb2 => ?_) (fun hb2 => ?_)
          · exact nx false (by rw [hfq, hb2]; rfl) _
          · rw [hb2, Bool.true_and] at hfq
            refine J.aload_n (pc := 57) G dX4_isAgain_57 rfl ?_
            refine J.iload_n (pc := 58) G dX4_isAgain_58 rfl ?_
            refine J.iload (pc := 59) G dX4_isAgain_59 rfl ?_
            refine J.iload_n (pc := 61) G dX4_isAgain_61 rfl ?_
            refine J.iload (pc := 62) G dX4_isAgain_62 rfl ?_
            refine J.andnN (pc := 64) G dX4_isAgain_64 dX4_isAgain_65 dX4_isAgain_66 ?_
            refine J.callV (pc := 67) (na := 3) G (h2 (28 * (nd.length - i) - 23 + 2 * (popc (utF p q) + popc (andn p (utF p q)))) (by omega) i (utF p q) (andn p (utF p q)) hi hc1 hut han rfl) q959 q961 qp57 q962 q5 (by decide +kernel) dX4_isAgain_67 (hM.at 0 rfl) rfl rfl (Nat.le_of_ble_eq_true rfl) rfl ⟨by omega, by decide, by omega, by omega⟩ ?_
            rintro r9 n9 M9 ⟨hr9, hn9, hM9⟩
            subst hr9
            rw [hn9, hM9]
            clear hn9 hM9 n9 M9
            dsimp only [Option.toList, List.cons_append, List.nil_append]
            refine J.istore (L' := [_, _, _, _, _, _, _]) (pc := 70) G dX4_isAgain_70 rfl (Nat.le_of_ble_eq_true rfl) rfl ?_
            exact nx _ hfq _
  exact K1 0 (by omega) b0 (by simp [anyU]) _
set_option maxRecDepth 100000 in
set_option maxHeartbeats 4000000 in
theorem m_goesOn (n : Nat) (M : AH) {a : Nat} {R : Nat → Nat → Nat} {P : Nat → Int} {Z : Nat → Nat} {nd : List Nd} {iw aw : Nat → Nat → Bool} {od : Nat → Nat → Nat → Bool} {ag : Nat → Nat → Bool} {go : Nat → Nat → Nat → Bool} (hH : IwH M a R P Z nd) (hE : IwEq nd (R 8) iw aw od ag go) (m : Nat) (h1 : ∀ m', m' < m → IwW n M a nd iw m') (h2 : ∀ m', m' < m → IwG n M a nd ag m') : IwN n M a nd go m := by
  intro i t r hi hc1 ht hr hm
  refine Fn.of (by decide) [some _, some _, some _, some _, none, none, none, none, none, none] rfl rfl (Nat.le_of_ble_eq_true rfl) ?_
  intro g G hin hO
  obtain ⟨hM, hT, hsh, hc8, hS, hw⟩ := hH
  obtain ⟨g8, g64, gi, gp⟩ := id hT
  have hE1 := hE.2.2.2.2 i t r hi ht hr
  have hc8i := hc8 i hi
  refine J.aload_n (pc := 0) G dX4_goesOn_0 rfl ?_
  refine J.iload_n (pc := 1) G dX4_goesOn_1 rfl ?_
  refine J.callV (pc := 2) (na := 1) G (m_childCount n M (i := i) (nd := nd) hM hT hi) q905 q907 qp49 q908 q5 (by decide +kernel) dX4_goesOn_2 (hM.at 0 rfl) rfl rfl (Nat.le_of_ble_eq_true rfl) rfl ⟨by omega, by decide, by omega, by omega⟩ ?_
  rintro r9 n9 M9 ⟨hr9, hn9, hM9⟩
  subst hr9
  rw [hn9, hM9]
  clear hn9 hM9 n9 M9
  dsimp only [Option.toList, List.cons_append, List.nil_append]
  refine J.istore (L' := [_, _, _, _, _, _, _, _, _, _]) (pc := 5) G dX4_goesOn_5 rfl (Nat.le_of_ble_eq_true rfl) rfl ?_
  refine J.iconstN (pc := 7) G dX4_goesOn_7 0 rfl ?_
  refine J.istore (L' := [_, _, _, _, _, _, _, _, _, _]) (pc := 8) G dX4_goesOn_8 rfl (Nat.le_of_ble_eq_true rfl) rfl ?_
  refine J.iconstN (pc := 10) G dX4_goesOn_10 1 rfl ?_
  refine J.istore (L' := [_, _, _, _, _, _, _, _, _, _]) (pc := 11) G dX4_goesOn_11 rfl (Nat.le_of_ble_eq_true rfl) rfl ?_
  generalize hF : (fun k => anyU (fun q => cuB r q && (decide (0 < (t ||| utF r q)) && (iw (gd (chl nd i) (1 + k)) (utF r q) && ag i (andn r (utF r q))))) 13) = F at hE1
  have K109 : ∀ b : Bool, b = go i t r → ∀ l6 l7 l8 l9, J g 0 0 n M [some (.ref a), some (.int (iI (i : Int))), some (.int (iI (t : Int))), some (.int (iI (r : Int))), some (.int (iI ((chl nd i).length : Int))), some (.int (bI b)), l6, l7, l8, l9] 109 [] := by
    intro b hb l6 l7 l8 l9
    refine J.iload (pc := 109) G dX4_goesOn_109 rfl ?_
    exact J.zret (pc := 111) G hO dX4_goesOn_111 (by decide) (by decide) ⟨by rw [hb], rfl, rfl⟩
  have K1 : ∀ k : Nat, k ≤ (chl nd i).length - 1 → ∀ l7 l8 l9, J g 0 0 n M [some (.ref a), some (.int (iI (i : Int))), some (.int (iI (t : Int))), some (.int (iI (r : Int))), some (.int (iI ((chl nd i).length : Int))), some (.int (bI (anyU F k))), some (.int (iI ((1 + k : Nat) : Int))), l7, l8, l9] 13 [] := by
    refine loopJ (fun k => (chl nd i).length - k) _ _ ?_
    intro k hk ih l7 l8 l9
    refine J.iload (pc := 13) G dX4_goesOn_13 rfl ?_
    refine J.iload (pc := 15) G dX4_goesOn_15 rfl ?_
    refine J.icmp_geN (pc := 17) (tgt := 109) G dX4_goesOn_17 (by decide) (by omega) (by omega) (fun h => ?_) (fun h => ?_)
    · exact K109 _ (by rw [hE1, show k = (chl nd i).length - 1 by omega]) _ _ _ _
    · refine J.iload (pc := 20) G dX4_goesOn_20 rfl ?_
      refine J.if_ne_b (pc := 22) (tgt := 109) G dX4_goesOn_22 (by decide) (fun hx => ?_) (fun hx => ?_)
      · exact K109 _ (by rw [hE1, hx, anyU_mono hx (by omega)]) _ _ _ _
      · have hck := chl_in (nd := nd) (i := i) (c := 1 + k) h
        have hpk := (gp _ hck.1).2
        have hFk : F k = anyU (fun q => cuB r q && (decide (0 < (t ||| utF r q)) && (iw (gd (chl nd i) (1 + k)) (utF r q) && ag i (andn r (utF r q))))) 13 := by rw [← hF]
        generalize hf : (fun q => cuB r q && (decide (0 < (t ||| utF r q)) && (iw (gd (chl nd i) (1 + k)) (utF r q) && ag i (andn r (utF r q))))) = f at hFk
        have hfq : ∀ q, f q = (cuB r q && (decide (0 < (t ||| utF r q)) && (iw (gd (chl nd i) (1 + k)) (utF r q) && ag i (andn r (utF r q))))) := fun q => by rw [← hf]
        have K103 : ∀ b : Bool, b = F k → ∀ l7 l8 l9, J g 0 0 n M [some (.ref a), some (.int (iI (i : Int))), some (.int (iI (t : Int))), some (.int (iI (r : Int))), some (.int (iI ((chl nd i).length : Int))), some (.int (bI b)), some (.int (iI ((1 + k : Nat) : Int))), l7, l8, l9] 103 [] := by
          intro b hb l7 l8 l9
          refine J.iincN (L' := [_, _, _, _, _, _, _, _, _, _]) (pc := 103) G dX4_goesOn_103 1 rfl rfl rfl rfl ?_
          refine J.goto (pc := 106) (tgt := 13) G dX4_goesOn_106 (by decide) ?_
          have := ih (k + 1) (by omega) (by omega) l7 l8 l9
          rw [anyU_s hx, ← hb] at this
          exact this
        refine J.aload_n (pc := 25) G dX4_goesOn_25 rfl ?_
        refine J.iload_n (pc := 26) G dX4_goesOn_26 rfl ?_
        refine J.iload (pc := 27) G dX4_goesOn_27 rfl ?_
        refine J.callV (pc := 29) (na := 2) G (m_childOf n M (i := i) (c := 1 + k) (nd := nd) hM hT hi h) q913 q915 qp50 q916 q5 (by decide +kernel) dX4_goesOn_29 (hM.at 0 rfl) rfl rfl (Nat.le_of_ble_eq_true rfl) rfl ⟨by omega, by decide, by omega, by omega⟩ ?_
        rintro r9 n9 M9 ⟨hr9, hn9, hM9⟩
        subst hr9
        rw [hn9, hM9]
        clear hn9 hM9 n9 M9
        dsimp only [Option.toList, List.cons_append, List.nil_append]
        refine J.istore (L' := [_, _, _, _, _, _, _, _, _, _]) (pc := 32) G dX4_goesOn_32 rfl (Nat.le_of_ble_eq_true rfl) rfl ?_
        refine J.iconstN (pc := 34) G dX4_goesOn_34 0 rfl ?_
        refine J.istore (L' := [_, _, _, _, _, _, _, _, _, _]) (pc := 35) G dX4_goesOn_35 rfl (Nat.le_of_ble_eq_true rfl) rfl ?_
        rw [hx]
        generalize gd (chl nd i) (1 + k) = c at hck hpk hfq ⊢
        have K2 : ∀ q : Nat, q ≤ 13 → ∀ l9, J g 0 0 n M [some (.ref a), some (.int (iI (i : Int))), some (.int (iI (t : Int))), some (.int (iI (r : Int))), some (.int (iI ((chl nd i).length : Int))), some (.int (bI (anyU f q))), some (.int (iI ((1 + k : Nat) : Int))), some (.int (iI (c : Int))), some (.int (iI (q : Int))), l9] 37 [] := by
          refine loopJ (fun q => 13 - q) _ _ ?_
          intro q hq ih2 l9
          refine J.iload (pc := 37) G dX4_goesOn_37 rfl ?_
          refine J.bipushN (pc := 39) G dX4_goesOn_39 12 (by decide +kernel) ?_
          refine J.icmp_gtN (pc := 41) (tgt := 103) G dX4_goesOn_41 (by decide) (by omega) (by omega) (fun h3 => ?_) (fun h3 => ?_)
          · exact K103 _ (by rw [hFk, show q = 13 by omega]) _ _ _
          · refine J.iload (pc := 44) G dX4_goesOn_44 rfl ?_
            refine J.if_ne_b (pc := 46) (tgt := 103) G dX4_goesOn_46 (by decide) (fun hy => ?_) (fun hy => ?_)
            · exact K103 _ (by rw [hFk, hy, anyU_mono hy (by omega)]) _ _ _
            · have nx : ∀ y : Bool, f q = y → ∀ l9, J g 0 0 n M [some (.ref a), some (.int (iI (i : Int))), some (.int (iI (t : Int))), some (.int (iI (r : Int))), some (.int (iI ((chl nd i).length : Int))), some (.int (bI y)), some (.int (iI ((1 + k : Nat) : Int))), some (.int (iI (c : Int))), some (.int (iI (q : Int))), l9] 97 [] := by
                intro y he l9
                refine J.iincN (L' := [_, _, _, _, _, _, _, _, _, _]) (pc := 97) G dX4_goesOn_97 1 rfl rfl rfl rfl ?_
                refine J.goto (pc := 100) (tgt := 37) G dX4_goesOn_100 (by decide) ?_
                have := ih2 (q + 1) (by omega) (by omega) l9
                rw [anyU_s hy, he] at this
                exact this
              rw [hy]
              have hut := utF_lt (k := q) hr
              have han := andn_lt12 (q := utF r q) hr
              have hfq := hfq q
              have hsp := popc_split (p := r) (k := q)
              have hor := or_lt12 ht hut
              refine J.iload_n (pc := 49) G dX4_goesOn_49 rfl ?_
              refine J.iload (pc := 50) G dX4_goesOn_50 rfl ?_
              refine J.callS (pc := 52) (na := 2) G (m_until n M (p := r) (k := q) (by omega)) q952 q953 q954 q5 (by decide +kernel) dX4_goesOn_52 rfl (Nat.le_of_ble_eq_true rfl) rfl ⟨by omega, by decide, by omega, by omega⟩ ?_
              rintro r9 n9 M9 ⟨hr9, hn9, hM9⟩
              subst hr9
              rw [hn9, hM9]
              clear hn9 hM9 n9 M9
              dsimp only [Option.toList, List.cons_append, List.nil_append]
              refine J.istore (L' := [_, _, _, _, _, _, _, _, _, _]) (pc := 55) G dX4_goesOn_55 rfl (Nat.le_of_ble_eq_true rfl) rfl ?_
              refine J.iload_n (pc := 57) G dX4_goesOn_57 rfl ?_
              refine J.iload (pc := 58) G dX4_goesOn_58 rfl ?_
              refine J.callS (pc := 60) (na := 2) G (m_isCut n M (p := r) (k := q) (by omega) (by omega)) q949 q950 q951 q5 (by decide +kernel) dX4_goesOn_60 rfl (Nat.le_of_ble_eq_true rfl) rfl ⟨by omega, by decide, by omega, by omega⟩ ?_
              rintro r9 n9 M9 ⟨hr9, hn9, hM9⟩
              subst hr9
              rw [hn9, hM9]
              clear hn9 hM9 n9 M9
              dsimp only [Option.toList, List.cons_append, List.nil_append]
              refine J.if_eq_b (pc := 63) (tgt := 97) G dX4_goesOn_63 (by decide) (fun hb1 => ?_) (fun hb1 => ?_)
              · exact nx false (by rw [hfq, hb1]; rfl) _
              · rw [hb1, Bool.true_and] at hfq
                refine J.iload_n (pc := 66) G dX4_goesOn_66 rfl ?_
                refine J.iload (pc := 67) G dX4_goesOn_67 rfl ?_
                refine J.iorN (pc := 69) G dX4_goesOn_69 ?_
                refine J.if_eqN (pc := 70) (tgt := 97) G dX4_goesOn_70 (by decide) (by omega) (fun h6 => ?_) (fun h6 => ?_)
                · exact nx false (by rw [hfq, decide_eq_false (by omega)]; rfl) _
                · rw [decide_eq_true h6, Bool.true_and] at hfq
                  have hne : 1 ≤ popc t + popc (utF r q) := by
                    by_cases e1 : t = 0
                    · by_cases e2 : utF r q = 0
                      · rw [e1, e2] at h6; exact absurd h6 (by decide)
                      · have := popc_pos hut e2; omega
                    · have := popc_pos ht e1; omega
                  refine J.aload_n (pc := 73) G dX4_goesOn_73 rfl ?_
                  refine J.iload (pc := 74) G dX4_goesOn_74 rfl ?_
                  refine J.iload (pc := 76) G dX4_goesOn_76 rfl ?_
                  refine J.callV (pc := 78) (na := 2) G (h1 (28 * (nd.length - c) + 4) (by omega) c (utF r q) hck.1 hut rfl) q937 q939 qp53 q940 q5 (by decide +kernel) dX4_goesOn_78 (hM.at 0 rfl) rfl rfl (Nat.le_of_ble_eq_true rfl) rfl ⟨by omega, by decide, by omega, by omega⟩ ?_
                  rintro r9 n9 M9 ⟨hr9, hn9, hM9⟩
                  subst hr9
                  rw [hn9, hM9]
                  clear hn9 hM9 n9 M9
                  dsimp only [Option.toList, List.cons_append, List.nil_append]
                  refine J.if_eq_b (pc := 81) (tgt := 97) G dX4_goesOn_81 (by decide) (fun hb2 => ?_) (fun hb2 => ?_)
                  · exact nx false (by rw [hfq, hb2]; rfl) _
                  · rw [hb2, Bool.true_and] at hfq
                    refine J.aload_n (pc := 84) G dX4_goesOn_84 rfl ?_
                    refine J.iload_n (pc := 85) G dX4_goesOn_85 rfl ?_
                    refine J.iload_n (pc := 86) G dX4_goesOn_86 rfl ?_
                    refine J.iload (pc := 87) G dX4_goesOn_87 rfl ?_
                    refine J.andnN (pc := 89) G dX4_goesOn_89 dX4_goesOn_90 dX4_goesOn_91 ?_
                    refine J.callV (pc := 92) (na := 2) G (h2 (28 * (nd.length - i) - 22 + 2 * popc (andn r (utF r q))) (by omega) i (andn r (utF r q)) hi hc1 han rfl) q955 q957 qp56 q958 q5 (by decide +kernel) dX4_goesOn_92 (hM.at 0 rfl) rfl rfl (Nat.le_of_ble_eq_true rfl) rfl ⟨by omega, by decide, by omega, by omega⟩ ?_
                    rintro r9 n9 M9 ⟨hr9, hn9, hM9⟩
                    subst hr9
                    rw [hn9, hM9]
                    clear hn9 hM9 n9 M9
                    dsimp only [Option.toList, List.cons_append, List.nil_append]
                    refine J.istore (L' := [_, _, _, _, _, _, _, _, _, _]) (pc := 95) G dX4_goesOn_95 rfl (Nat.le_of_ble_eq_true rfl) rfl ?_
                    exact nx _ hfq _
        exact K2 0 (by omega) _
  exact K1 0 (by omega) _ _ _
/-- all five, by the frames that are left -/
theorem m_iw (n : Nat) (M : AH) {a : Nat} {R : Nat → Nat → Nat} {P : Nat → Int} {Z : Nat → Nat} {nd : List Nd} {iw aw : Nat → Nat → Bool} {od : Nat → Nat → Nat → Bool} {ag : Nat → Nat → Bool} {go : Nat → Nat → Nat → Bool} (hH : IwH M a R P Z nd) (hE : IwEq nd (R 8) iw aw od ag go) : ∀ m : Nat, IwW n M a nd iw m ∧ IwA n M a nd aw m ∧ IwO n M a nd od m ∧ IwG n M a nd ag m ∧ IwN n M a nd go m := by
  intro m
  induction m using Nat.strongRecOn with
  | ind m IH =>
    have w1 : ∀ m', m' < m → IwW n M a nd iw m' := fun m' h => (IH m' h).1
    have w3 : ∀ m', m' < m → IwO n M a nd od m' := fun m' h => (IH m' h).2.2.1
    have w4 : ∀ m', m' < m → IwG n M a nd ag m' := fun m' h => (IH m' h).2.2.2.1
    exact ⟨m_isWord n M hH hE m (fun m' h => (IH m' h).2.1) w3 w4, m_areWords n M hH hE m w1, m_isOrder n M hH hE m w1 w3, m_isAgain n M hH hE m w1 (fun m' h => (IH m' h).2.2.2.2), m_goesOn n M hH hE m w1 w4⟩
end ISW2
