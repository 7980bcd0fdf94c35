section LOG10
theorem Cut.tr {M' : AH} {a : Nat} {A B : Nat → Nat → Nat} {S : Nat → Nat} {m : Nat} {ps : List Nat} (hK : KeepA A B) (h : Cut M' a B (upN S 12 m) ps) : Cut M' a A S ps := by
  obtain ⟨A', h1, h2, h3⟩ := h
  rw [upN2] at h2
  exact ⟨A', hK.tr h1, h2, h3⟩
def cutF (nx : Nat → Nat) (u b e h : Nat) : Nat × List Nat :=
  if u = 0 then (0, []) else if 0 < h then (2, [u]) else
  if popc u = 1 then (if anyU (fun x => decide (nx x ≠ 0)) 8 then (5, []) else (1, [])) else
  if 1 < (pCh nx u).length then (2, pCh nx u) else
  if 1 < (pOr nx u).length then (3, pOr nx u) else
  if 1 < (pBo nx u b e).length then (4, pBo nx u b e) else
  if 1 < (pAg nx u b e).length then (5, pAg nx u b e) else (6, [])
set_option maxRecDepth 100000 in
set_option maxHeartbeats 4000000 in
theorem c_cut (n : Nat) (M0 : AH) {a : Nat} {A : Nat → Nat → Nat} {S : Nat → Nat} (hL : Cl M0 a (logC a A S)) (hb : ∀ j, j < 8 → A 3 j < 256) (hu : S 4 < 256) (hb5 : S 5 < 256) (hb6 : S 6 < 256) (hb7 : S 7 ≤ 1) : Fn yX0_cut cX0_cut 1 (some .int) 4 [.ref a] n M0 0 0 (fun r n' M' => r = some (.int (iI ((cutF (A 3) (S 4) (S 5) (S 6) (S 7)).1 : Int))) ∧ n' = n ∧ Cut M' a A S (cutF (A 3) (S 4) (S 5) (S 6) (S 7)).2 ∧ Fr a (a + 7) M0 M') := by
  refine Fn.of (by decide) [some _] rfl rfl (Nat.le_of_ble_eq_true rfl) ?_
  intro g G hin hO
  have hFr : Fr a (a + 7) M0 M0 := Fr.rf
  have nilP : ∀ p : Nat → Nat, Pl p [] := fun p j hj => absurd hj (Nat.not_lt_zero j)
  generalize hcf : cutF (A 3) (S 4) (S 5) (S 6) (S 7) = cf at hO
  unfold cutF at hcf
  generalize hM1 : M0 = M1 at hL hFr
  refine J.aload_n (pc := 0) G dX0_cut_0 rfl ?_
  refine J.iconstN (pc := 1) G dX0_cut_1 0 rfl ?_
  refine J.putf (pc := 2) (ci := 0) G inX0 rfl tyX0 tyX0_ok nmX0 12 q106 dX0_cut_2 (hL.at 0 rfl) (by decide) (Nat.le_of_ble_eq_true rfl) (Or.inl rfl) (tyX0_ok 12 (by decide)) (by first | rfl | decide +kernel) (by first | rfl | decide +kernel) (fun M hput hag => ?_)
  have hL := logS12 hL hput hag
  have hFr := hFr.put hag (by omega) (by omega)
  clear hput hag
  refine J.aload_n (pc := 5) G dX0_cut_5 rfl ?_
  refine J.getf (pc := 6) (ci := 0) G inX0 rfl 4 q91 dX0_cut_6 (hL.at 0 rfl) (by decide) rfl ?_
  refine J.topv (b := iI (S 4 : Int)) rfl ?_
  have hL : Cl M a (logC a A (upN S 12 0)) := hL
  refine J.if_neN (pc := 9) (tgt := 14) G dX0_cut_9 (by decide) (by omega) (fun h4 => ?_) (fun h4 => ?_)
  · rw [if_neg (by have : 0 < S 4 := h4; omega)] at hcf
    refine J.aload_n (pc := 14) G dX0_cut_14 rfl ?_
    refine J.getf (pc := 15) (ci := 0) G inX0 rfl 7 q97 dX0_cut_15 (hL.at 0 rfl) (by decide) rfl ?_
    refine J.topv (b := iI (S 7 : Int)) rfl ?_
    refine J.if_eqN (pc := 18) (tgt := 31) G dX0_cut_18 (by decide) (by omega) (fun h7 => ?_) (fun h7 => ?_)
    · rw [if_neg (by omega)] at hcf
      refine J.aload_n (pc := 31) G dX0_cut_31 rfl ?_
      refine J.getf (pc := 32) (ci := 0) G inX0 rfl 4 q91 dX0_cut_32 (hL.at 0 rfl) (by decide) rfl ?_
      refine J.topv (b := iI (S 4 : Int)) rfl ?_
      have hu9 : S 4 < 4096 := by omega
      have hpl : popc (S 4) ≤ 12 := it_inv (fun i c => c ≤ i) 12 (Nat.le_refl 0) (fun i x _ hx => by
        try dsimp only
        split <;> omega)
      refine J.callS (pc := 35) (na := 1) G (c_bitCount n M (m := S 4) hu9) q229 q230 q231 q12 (by decide +kernel) dX0_cut_35 rfl (Nat.le_of_ble_eq_true rfl) rfl ⟨by omega, by decide, by omega, by omega⟩ ?_
      rintro r9 n9 M9 ⟨hr9, hn9, hM9⟩
      subst hr9
      rw [hn9, hM9]
      clear hn9 hM9 n9 M9
      dsimp only [Option.toList, List.cons_append, List.nil_append]
      refine J.iconstN (pc := 38) G dX0_cut_38 1 rfl ?_
      refine J.icmp_neN (pc := 39) (tgt := 55) G dX0_cut_39 (by decide) (by omega) (by omega) (fun hp => ?_) (fun hp => ?_)
      · rw [if_neg hp] at hcf
        refine J.aload_n (pc := 55) G dX0_cut_55 rfl ?_
        refine J.callV (pc := 56) (na := 0) G (c_isCutByChoice n M hL hb hu) q239 q241 qp6 q242 q4 (by decide +kernel) dX0_cut_56 (hL.at 0 rfl) rfl rfl (Nat.le_of_ble_eq_true rfl) rfl ⟨by omega, by decide, by omega, by omega⟩ ?_
        rintro r9 n9 M ⟨hr9, hn9, ⟨hC, hFr1⟩⟩
        subst hr9
        rw [hn9]
        clear hn9 n9
        dsimp only [Option.toList, List.cons_append, List.nil_append]
        have hFr := hFr.trans hFr1
        have ep : pCh (A 3) (upN S 12 0 4) = pCh (A 3) (S 4) := rfl
        rw [ep] at hC ⊢
        have hC := Cut.tr KeepA.rf hC
        clear hL
        refine J.if_eq_b (pc := 59) (tgt := 64) G dX0_cut_59 (by decide) (fun hd => ?_) (fun hd => ?_)
        · rw [if_neg (by simpa using hd)] at hcf
          obtain ⟨A1, hK1, hL, -, -, -⟩ := hC
          have e3 : A1 3 = A 3 := hK1.2.2
          refine J.aload_n (pc := 64) G dX0_cut_64 rfl ?_
          refine J.callV (pc := 65) (na := 0) G (c_isCutByOrder n M hL (by rw [e3]; exact hb) hu) q258 q260 qp10 q261 q4 (by decide +kernel) dX0_cut_65 (hL.at 0 rfl) rfl rfl (Nat.le_of_ble_eq_true rfl) rfl ⟨by omega, by decide, by omega, by omega⟩ ?_
          rintro r9 n9 M ⟨hr9, hn9, ⟨hC, hFr1⟩⟩
          subst hr9
          rw [hn9]
          clear hn9 n9
          dsimp only [Option.toList, List.cons_append, List.nil_append]
          have hFr := hFr.trans hFr1
          have ep : pOr (A1 3) (upN S 12 (pCh (A 3) (S 4)).length 4) = pOr (A 3) (S 4) := by rw [e3]; rfl
          rw [ep] at hC ⊢
          have hC := Cut.tr hK1 hC
          clear hL
          refine J.if_eq_b (pc := 68) (tgt := 73) G dX0_cut_68 (by decide) (fun hd => ?_) (fun hd => ?_)
          · rw [if_neg (by simpa using hd)] at hcf
            obtain ⟨A2, hK2, hL, -, -, -⟩ := hC
            have e3 : A2 3 = A 3 := hK2.2.2
            refine J.aload_n (pc := 73) G dX0_cut_73 rfl ?_
            refine J.callV (pc := 74) (na := 0) G (c_isCutByBoth n M hL (by rw [e3]; exact hb) hu) q274 q276 qp13 q277 q4 (by decide +kernel) dX0_cut_74 (hL.at 0 rfl) rfl rfl (Nat.le_of_ble_eq_true rfl) rfl ⟨by omega, by decide, by omega, by omega⟩ ?_
            rintro r9 n9 M ⟨hr9, hn9, ⟨hC, hFr1⟩⟩
            subst hr9
            rw [hn9]
            clear hn9 n9
            dsimp only [Option.toList, List.cons_append, List.nil_append]
            have hFr := hFr.trans hFr1
            have ep : pBo (A2 3) (upN S 12 (pOr (A 3) (S 4)).length 4) (upN S 12 (pOr (A 3) (S 4)).length 5) (upN S 12 (pOr (A 3) (S 4)).length 6) = pBo (A 3) (S 4) (S 5) (S 6) := by rw [e3]; rfl
            rw [ep] at hC ⊢
            have hC := Cut.tr hK2 hC
            clear hL
            refine J.if_eq_b (pc := 77) (tgt := 82) G dX0_cut_77 (by decide) (fun hd => ?_) (fun hd => ?_)
            · rw [if_neg (by simpa using hd)] at hcf
              obtain ⟨A4, hK4, hL, -, -, -⟩ := hC
              have e3 : A4 3 = A 3 := hK4.2.2
              refine J.aload_n (pc := 82) G dX0_cut_82 rfl ?_
              refine J.callV (pc := 83) (na := 0) G (c_isCutByAgain n M hL (by rw [e3]; exact hb) hu hb5 hb6) q290 q292 qp17 q293 q4 (by decide +kernel) dX0_cut_83 (hL.at 0 rfl) rfl rfl (Nat.le_of_ble_eq_true rfl) rfl ⟨by omega, by decide, by omega, by omega⟩ ?_
              rintro r9 n9 M ⟨hr9, hn9, ⟨hC, hFr1⟩⟩
              subst hr9
              rw [hn9]
              clear hn9 n9
              dsimp only [Option.toList, List.cons_append, List.nil_append]
              have hFr := hFr.trans hFr1
              have ep : pAg (A4 3) (upN S 12 (pBo (A 3) (S 4) (S 5) (S 6)).length 4) (upN S 12 (pBo (A 3) (S 4) (S 5) (S 6)).length 5) (upN S 12 (pBo (A 3) (S 4) (S 5) (S 6)).length 6) = pAg (A 3) (S 4) (S 5) (S 6) := by rw [e3]; rfl
              rw [ep] at hC ⊢
              have hC := Cut.tr hK4 hC
              clear hL
              refine J.if_eq_b (pc := 86) (tgt := 91) G dX0_cut_86 (by decide) (fun hd => ?_) (fun hd => ?_)
              · rw [if_neg (by simpa using hd)] at hcf
                obtain ⟨A6, hK6, hL, -, -, -⟩ := hC
                refine J.aload_n (pc := 91) G dX0_cut_91 rfl ?_
                refine J.iconstN (pc := 92) G dX0_cut_92 0 rfl ?_
                refine J.putf (pc := 93) (ci := 0) G inX0 rfl tyX0 tyX0_ok nmX0 12 q106 dX0_cut_93 (hL.at 0 rfl) (by decide) (Nat.le_of_ble_eq_true rfl) (Or.inl rfl) (tyX0_ok 12 (by decide)) (by first | rfl | decide +kernel) (by first | rfl | decide +kernel) (fun M hput hag => ?_)
                have hL := logS12 hL hput hag
                have hFr := hFr.put hag (by omega) (by omega)
                clear hput hag
                refine J.bipushN (pc := 96) G dX0_cut_96 6 (by decide +kernel) ?_
                rw [upN2] at hL
                exact J.iret (pc := 98) G hO dX0_cut_98 (Nat.le_refl _) (Nat.le_refl _) ⟨by rw [← hcf], rfl, by rw [← hcf]; exact ⟨A6, hK6, hL, nilP _, Nat.zero_le _, all8_nil⟩, hM1 ▸ hFr⟩
              · rw [if_pos (by simpa using hd)] at hcf
                refine J.iconstN (pc := 89) G dX0_cut_89 5 rfl ?_
                exact J.iret (pc := 90) G hO dX0_cut_90 (Nat.le_refl _) (Nat.le_refl _) ⟨by rw [← hcf], rfl, by rw [← hcf]; exact hC, hM1 ▸ hFr⟩
            · rw [if_pos (by simpa using hd)] at hcf
              refine J.iconstN (pc := 80) G dX0_cut_80 4 rfl ?_
              exact J.iret (pc := 81) G hO dX0_cut_81 (Nat.le_refl _) (Nat.le_refl _) ⟨by rw [← hcf], rfl, by rw [← hcf]; exact hC, hM1 ▸ hFr⟩
          · rw [if_pos (by simpa using hd)] at hcf
            refine J.iconstN (pc := 71) G dX0_cut_71 3 rfl ?_
            exact J.iret (pc := 72) G hO dX0_cut_72 (Nat.le_refl _) (Nat.le_refl _) ⟨by rw [← hcf], rfl, by rw [← hcf]; exact hC, hM1 ▸ hFr⟩
        · rw [if_pos (by simpa using hd)] at hcf
          refine J.iconstN (pc := 62) G dX0_cut_62 2 rfl ?_
          exact J.iret (pc := 63) G hO dX0_cut_63 (Nat.le_refl _) (Nat.le_refl _) ⟨by rw [← hcf], rfl, by rw [← hcf]; exact hC, hM1 ▸ hFr⟩
      · rw [if_pos hp] at hcf
        refine J.aload_n (pc := 42) G dX0_cut_42 rfl ?_
        refine J.callV (pc := 43) (na := 0) G (c_hasNext n M hL hb) q235 q237 qp5 q238 q4 (by decide +kernel) dX0_cut_43 (hL.at 0 rfl) rfl rfl (Nat.le_of_ble_eq_true rfl) rfl ⟨by omega, by decide, by omega, by omega⟩ ?_
        rintro r9 n9 M9 ⟨hr9, hn9, hM9⟩
        subst hr9
        rw [hn9, hM9]
        clear hn9 hM9 n9 M9
        dsimp only [Option.toList, List.cons_append, List.nil_append]
        have hC : Cut M a A S [] := ⟨A, KeepA.rf, hL, nilP _, Nat.zero_le _, all8_nil⟩
        refine J.if_eq_b (pc := 46) (tgt := 53) G dX0_cut_46 (by decide) (fun hd => ?_) (fun hd => ?_)
        · rw [if_neg (by rw [hd]; decide)] at hcf
          refine J.iconstN (pc := 53) G dX0_cut_53 1 rfl ?_
          exact J.iret (pc := 54) G hO dX0_cut_54 (Nat.le_refl _) (Nat.le_refl _) ⟨by rw [← hcf], rfl, by rw [← hcf]; exact hC, hM1 ▸ hFr⟩
        · rw [if_pos hd] at hcf
          refine J.iconstN (pc := 49) G dX0_cut_49 5 rfl ?_
          refine J.goto (tgt := 54) (pc := 50) G dX0_cut_50 (by decide) ?_
          exact J.iret (pc := 54) G hO dX0_cut_54 (Nat.le_refl _) (Nat.le_refl _) ⟨by rw [← hcf], rfl, by rw [← hcf]; exact hC, hM1 ▸ hFr⟩
    · rw [if_pos h7] at hcf
      refine J.aload_n (pc := 21) G dX0_cut_21 rfl ?_
      refine J.aload_n (pc := 22) G dX0_cut_22 rfl ?_
      refine J.getf (pc := 23) (ci := 0) G inX0 rfl 4 q91 dX0_cut_23 (hL.at 0 rfl) (by decide) rfl ?_
      have ev : upN S 12 0 4 = S 4 := rfl
      rw [ev]
      refine J.callV (pc := 26) (na := 1) G (c_addPart n M (v := S 4) (ps := []) hL (nilP _) rfl (Nat.zero_le _)) q225 q227 qp4 q228 q4 (by decide +kernel) dX0_cut_26 (hL.at 0 rfl) rfl rfl (Nat.le_of_ble_eq_true rfl) rfl ⟨by omega, by decide, by omega, by omega⟩ ?_
      rintro r9 n9 M ⟨hr9, hn9, ⟨⟨p7, hL7, hp7⟩, hFr7⟩⟩
      subst hr9
      rw [hn9]
      clear hn9 n9
      dsimp only [Option.toList, List.cons_append, List.nil_append]
      have hFr := hFr.trans hFr7
      rw [upN2] at hL7
      refine J.iconstN (pc := 29) G dX0_cut_29 2 rfl ?_
      refine J.iret (pc := 30) G hO dX0_cut_30 (Nat.le_refl _) (Nat.le_refl _) ⟨by rw [← hcf], rfl, ?_, hM1 ▸ hFr⟩
      rw [← hcf]
      refine ⟨upAN A 6 p7, KeepA.up (by omega), hL7, hp7, by simp, fun j hj => ?_⟩
      have : j = 0 := by simp at hj; exact hj
      subst this
      exact hu
  · have h40 : S 4 = 0 := h4
    rw [if_pos h40] at hcf
    refine J.iconstN (pc := 12) G dX0_cut_12 0 rfl ?_
    exact J.iret (pc := 13) G hO dX0_cut_13 (Nat.le_refl _) (Nat.le_refl _) ⟨by rw [← hcf], rfl, by rw [← hcf]; exact ⟨A, KeepA.rf, hL, nilP _, Nat.zero_le _, all8_nil⟩, hM1 ▸ hFr⟩
end LOG10
