section LOG9
/-- one pass over the parts behind the first: those that belong to it are taken into it -/
def agI (nx : Nat → Nat) (b e : Nat) (qs : List Nat) (k : Nat) : Nat × List Nat := it (fun t (s : Nat × List Nat) => if btf nx b e (gd qs (t + 1)) then (s.1 ||| gd qs (t + 1), s.2) else (s.1, s.2 ++ [gd qs (t + 1)])) (gd qs 0, []) k
def pAg (nx : Nat → Nat) (u b e : Nat) : List Nat := (agI nx b e (grps (linkV nx) (andn u (b ||| e)) [b ||| e]) ((grps (linkV nx) (andn u (b ||| e)) [b ||| e]).length - 1)).1 :: (agI nx b e (grps (linkV nx) (andn u (b ||| e)) [b ||| e]) ((grps (linkV nx) (andn u (b ||| e)) [b ||| e]).length - 1)).2
theorem agI_len {nx : Nat → Nat} {b e : Nat} {qs : List Nat} (k : Nat) : (agI nx b e qs k).2.length ≤ k :=
  it_inv (fun i (s : Nat × List Nat) => s.2.length ≤ i) k (Nat.le_refl 0) (fun i x _ hx => by
    try dsimp only
    split
    · exact Nat.le_succ_of_le hx
    · simpa using hx)
theorem gd_snoc {ps : List Nat} {v x : Nat} : gd (ps ++ [v]) x = if x = ps.length then v else gd ps x := by
  simp only [gd, List.getD_eq_getElem?_getD]
  by_cases e : x = ps.length
  · subst e; simp
  · rw [if_neg e]
    by_cases h : x < ps.length
    · rw [List.getElem?_append_left h]
    · rw [List.getElem?_eq_none (by simp; omega), List.getElem?_eq_none (by omega)]
theorem gd_cons {ps : List Nat} {v x : Nat} : gd (v :: ps) x = if x = 0 then v else gd ps (x - 1) := by
  cases x with
  | zero => simp [gd]
  | succ x => simp [gd]
theorem agI_all {nx : Nat → Nat} {b e : Nat} {qs : List Nat} (hq : All8 qs) (k : Nat) (hk : k + 1 ≤ qs.length) : (agI nx b e qs k).1 < 256 ∧ All8 (agI nx b e qs k).2 :=
  it_inv (fun _ (s : Nat × List Nat) => s.1 < 256 ∧ All8 s.2) k ⟨hq 0 (by omega), all8_nil⟩ (fun i x hi hx => by
    have h1 := hq (i + 1) (by omega)
    try dsimp only
    split
    · exact ⟨or_lt8 hx.1 h1, hx.2⟩
    · refine ⟨hx.1, fun j hj => ?_⟩
      rw [gd_snoc]
      split
      · exact h1
      · refine hx.2 j ?_
        simp at hj; omega)
set_option maxRecDepth 100000 in
set_option maxHeartbeats 4000000 in
theorem c_isCutByAgain (n : Nat) (M0 : AH) {a : Nat} {A : Nat → Nat → Nat} {S : Nat → Nat} (hL : Cl M0 a (logC a A S)) (hb : ∀ j, j < 8 → A 3 j < 256) (hu : S 4 < 256) (hb5 : S 5 < 256) (hb6 : S 6 < 256) : Fn yX0_isCutByAgain cX0_isCutByAgain 4 (some .boolean) 3 [.ref a] n M0 0 0 (fun r n' M' => r = some (.int (bI (decide (1 < (pAg (A 3) (S 4) (S 5) (S 6)).length)))) ∧ n' = n ∧ Cut M' a A S (pAg (A 3) (S 4) (S 5) (S 6)) ∧ Fr a (a + 7) M0 M') := by
  refine Fn.of (by decide) [some _, none, none, none] rfl rfl (Nat.le_of_ble_eq_true rfl) ?_
  intro g G hin hO
  have hFr : Fr a (a + 7) M0 M0 := Fr.rf
  generalize hM1 : M0 = M1 at hL hFr
  have hf8 := or_lt8 hb5 hb6
  refine J.aload_n (pc := 0) G dX0_isCutByAgain_0 rfl ?_
  refine J.iconstN (pc := 1) G dX0_isCutByAgain_1 0 rfl ?_
  refine J.putf (pc := 2) (ci := 0) G inX0 rfl tyX0 tyX0_ok nmX0 12 q106 dX0_isCutByAgain_2 (hL.at 0 rfl) (by decide) (Nat.le_of_ble_eq_true rfl) (Or.inl rfl) (tyX0_ok 12 (by decide)) (by first | rfl | decide +kernel) (by first | rfl | decide +kernel) (fun M hput hag => ?_)
  have hL := logS12 hL hput hag
  have hFr := hFr.put hag (by omega) (by omega)
  clear hput hag
  refine J.aload_n (pc := 5) G dX0_isCutByAgain_5 rfl ?_
  refine J.getf (pc := 6) (ci := 0) G inX0 rfl 5 q93 dX0_isCutByAgain_6 (hL.at 0 rfl) (by decide) rfl ?_
  refine J.aload_n (pc := 9) G dX0_isCutByAgain_9 rfl ?_
  refine J.getf (pc := 10) (ci := 0) G inX0 rfl 6 q95 dX0_isCutByAgain_10 (hL.at 0 rfl) (by decide) rfl ?_
  refine J.iorN (pc := 13) G dX0_isCutByAgain_13 ?_
  refine J.istore_n (L' := [_, _, _, _]) (pc := 14) G dX0_isCutByAgain_14 rfl (Nat.le_of_ble_eq_true rfl) rfl ?_
  refine J.aload_n (pc := 15) G dX0_isCutByAgain_15 rfl ?_
  refine J.iload_n (pc := 16) G dX0_isCutByAgain_16 rfl ?_
  have hL : Cl M a (logC a A (upN S 12 0)) := hL
  have ef : upN S 12 0 5 ||| upN S 12 0 6 = S 5 ||| S 6 := rfl
  rw [ef]
  have epA : pAg (A 3) (S 4) (S 5) (S 6) = (agI (A 3) (S 5) (S 6) (grps (linkV (A 3)) (andn (S 4) (S 5 ||| S 6)) [S 5 ||| S 6]) ((grps (linkV (A 3)) (andn (S 4) (S 5 ||| S 6)) [S 5 ||| S 6]).length - 1)).1 :: (agI (A 3) (S 5) (S 6) (grps (linkV (A 3)) (andn (S 4) (S 5 ||| S 6)) [S 5 ||| S 6]) ((grps (linkV (A 3)) (andn (S 4) (S 5 ||| S 6)) [S 5 ||| S 6]).length - 1)).2 := rfl
  generalize hpa : pAg (A 3) (S 4) (S 5) (S 6) = pa at epA hO
  generalize hfi : S 5 ||| S 6 = first at hf8 epA
  refine J.callV (pc := 17) (na := 1) G (c_addPart n M (v := first) (ps := []) hL (fun j hj => absurd hj (Nat.not_lt_zero j)) rfl (Nat.zero_le _)) q225 q227 qp4 q228 q4 (by decide +kernel) dX0_isCutByAgain_17 (hL.at 0 rfl) rfl rfl (Nat.le_of_ble_eq_true rfl) rfl ⟨by omega, by decide, by omega, by omega⟩ ?_
  rintro r9 n9 M ⟨hr9, hn9, ⟨⟨p1, hL1, hp1⟩, hFr1⟩⟩
  subst hr9
  rw [hn9]
  clear hn9 n9
  dsimp only [Option.toList, List.cons_append, List.nil_append]
  have hFr := hFr.trans hFr1
  have hL : Cl M a (logC a (upAN A 6 p1) (upN S 12 1)) := by rw [← upN2 S 12 0]; exact hL1
  have hp1 : Pl p1 [first] := hp1
  refine J.aload_n (pc := 20) G dX0_isCutByAgain_20 rfl ?_
  refine J.callV (pc := 21) (na := 0) G (c_linkNeighbours n M hL hb) q243 q245 qp7 q246 q4 (by decide +kernel) dX0_isCutByAgain_21 (hL.at 0 rfl) rfl rfl (Nat.le_of_ble_eq_true rfl) rfl ⟨by omega, by decide, by omega, by omega⟩ ?_
  rintro r9 n9 M ⟨hr9, hn9, ⟨hL, hFr1⟩⟩
  subst hr9
  rw [hn9]
  clear hn9 n9
  dsimp only [Option.toList, List.cons_append, List.nil_append]
  have hFr := hFr.trans hFr1
  have hq8 : ∀ j, j < 8 → fillN (linkV (A 3)) (A 5) 8 j < 256 := fun j hj => by rw [fillN_in hj]; exact linkV_lt hb hj
  have hL : Cl M a (logC a (upAN (upAN A 6 p1) 5 (fillN (linkV (A 3)) (A 5) 8)) (upN S 12 1)) := hL
  have hg : grps (fillN (linkV (A 3)) (A 5) 8) (andn (S 4) first) [first] = grps (linkV (A 3)) (andn (S 4) first) [first] := grps_cong (fun j hj => fillN_in hj)
  generalize fillN (linkV (A 3)) (A 5) 8 = q at hL hq8 hg
  refine J.aload_n (pc := 24) G dX0_isCutByAgain_24 rfl ?_
  refine J.aload_n (pc := 25) G dX0_isCutByAgain_25 rfl ?_
  refine J.getf (pc := 26) (ci := 0) G inX0 rfl 4 q91 dX0_isCutByAgain_26 (hL.at 0 rfl) (by decide) rfl ?_
  refine J.iload_n (pc := 29) G dX0_isCutByAgain_29 rfl ?_
  refine J.andnN (pc := 30) G dX0_isCutByAgain_30 dX0_isCutByAgain_31 dX0_isCutByAgain_32 ?_
  have eu : andn (upN S 12 1 4) first = andn (S 4) first := rfl
  rw [eu]
  have hu9 : andn (S 4) first < 256 := andn_lt8 hu
  refine J.callV (pc := 33) (na := 1) G (c_addGroups n M (set := andn (S 4) first) (ps := [first]) hL hp1 rfl (by simp) hq8 hu9) q250 q252 qp8 q253 q4 (by decide +kernel) dX0_isCutByAgain_33 (hL.at 0 rfl) rfl rfl (Nat.le_of_ble_eq_true rfl) rfl ⟨by omega, by decide, by omega, by omega⟩ ?_
  rintro r9 n9 M ⟨hr9, hn9, ⟨⟨p7, hL7, hp7⟩, hFr7⟩⟩
  subst hr9
  rw [hn9]
  clear hn9 n9
  dsimp only [Option.toList, List.cons_append, List.nil_append]
  have hFr := hFr.trans hFr7
  have hgA : grps (upAN (upAN A 6 p1) 5 q 5) (andn (S 4) first) [first] = grps (linkV (A 3)) (andn (S 4) first) [first] := hg
  rw [hgA] at hL7 hp7
  have hlen : (grps (linkV (A 3)) (andn (S 4) first) [first]).length ≤ 8 := grps_len hu9 (by simp)
  have hall : All8 (grps (linkV (A 3)) (andn (S 4) first) [first]) := grps_all (fun j hj => linkV_lt hb hj) (fun j hj => by
    have : j = 0 := by simp at hj; exact hj
    subst this
    exact hf8)
  have hne : 1 ≤ (grps (linkV (A 3)) (andn (S 4) first) [first]).length := by
    unfold grps grpsI
    refine it_inv (fun _ (s : Nat × List Nat) => 1 ≤ s.2.length) 8 (by simp) (fun i x _ hx => ?_)
    unfold grpsStep addP
    split
    · dsimp only
      split
      · simp
      · exact hx
    · exact hx
  generalize grps (linkV (A 3)) (andn (S 4) first) [first] = qs at hL7 hp7 hlen hall hne epA
  rw [upN2] at hL7
  have hK : KeepA A (upAN (upAN (upAN A 6 p1) 5 q) 6 p7) := KeepA.tr (KeepA.up (by omega)) (KeepA.tr (KeepA.up (by omega)) (KeepA.up (by omega)))
  have hB : ∃ B, KeepA A B ∧ upAN (upAN (upAN A 6 p1) 5 q) 6 p7 = upAN B 6 p7 := ⟨upAN (upAN A 6 p1) 5 q, KeepA.tr (KeepA.up (by omega)) (KeepA.up (by omega)), rfl⟩
  obtain ⟨B, hKB, hBe⟩ := hB
  rw [hBe] at hL7
  clear hL hL1 hBe hK
  have hB3 : B 3 = A 3 := hKB.2.2
  refine J.iconstN (pc := 36) G dX0_isCutByAgain_36 1 rfl ?_
  refine J.istore_n (L' := [_, _, _, _]) (pc := 37) G dX0_isCutByAgain_37 rfl (Nat.le_of_ble_eq_true rfl) rfl ?_
  refine J.iconstN (pc := 38) G dX0_isCutByAgain_38 1 rfl ?_
  refine J.istore_n (L' := [_, _, _, _]) (pc := 39) G dX0_isCutByAgain_39 rfl (Nat.le_of_ble_eq_true rfl) rfl ?_
  have K1 : ∀ s : Nat × AH, (s.1 + 1 ≤ qs.length ∧ (∃ p', Cl s.2 a (logC a (upAN B 6 p') (upN S 12 qs.length)) ∧ p' 0 = (agI (A 3) (S 5) (S 6) qs s.1).1 ∧ (∀ x, x < (agI (A 3) (S 5) (S 6) qs s.1).2.length → p' (x + 1) = gd (agI (A 3) (S 5) (S 6) qs s.1).2 x) ∧ ∀ x, s.1 + 1 ≤ x → x < qs.length → p' x = gd qs x) ∧ Fr a (a + 7) M1 s.2) → J g 0 0 n s.2 [some (.ref a), some (.int (iI (first : Int))), some (.int (iI (((agI (A 3) (S 5) (S 6) qs s.1).2.length + 1 : Nat) : Int))), some (.int (iI ((s.1 + 1 : Nat) : Int)))] 40 [] := by
    refine loopJ (fun s => qs.length - s.1) _ _ ?_
    rintro ⟨t, M⟩ ⟨ht, ⟨p, hL, h0, h1, h2⟩, hFr⟩ ih
    dsimp only at ht hL h0 h1 h2 hFr ih ⊢
    have hlt := agI_len (nx := A 3) (b := S 5) (e := S 6) (qs := qs) t
    have hal := agI_all (nx := A 3) (b := S 5) (e := S 6) hall t ht
    have hstep : agI (A 3) (S 5) (S 6) qs (t + 1) = if btf (A 3) (S 5) (S 6) (gd qs (t + 1)) then ((agI (A 3) (S 5) (S 6) qs t).1 ||| gd qs (t + 1), (agI (A 3) (S 5) (S 6) qs t).2) else ((agI (A 3) (S 5) (S 6) qs t).1, (agI (A 3) (S 5) (S 6) qs t).2 ++ [gd qs (t + 1)]) := rfl
    have hend : t = qs.length - 1 → (agI (A 3) (S 5) (S 6) qs t).1 :: (agI (A 3) (S 5) (S 6) qs t).2 = pa := fun e => by rw [e]; exact epA.symm
    generalize hr : agI (A 3) (S 5) (S 6) qs t = r at h0 h1 hlt hal hstep hend
    obtain ⟨r1, r2⟩ := r
    dsimp only at h0 h1 hlt hal hstep hend ⊢
    have hS : upN S 12 qs.length 12 = qs.length := upN_s
    refine J.iload_n (pc := 40) G dX0_isCutByAgain_40 rfl ?_
    refine J.aload_n (pc := 41) G dX0_isCutByAgain_41 rfl ?_
    refine J.getf (pc := 42) (ci := 0) G inX0 rfl 12 q106 dX0_isCutByAgain_42 (hL.at 0 rfl) (by decide) rfl ?_
    refine J.icmp_geN (pc := 45) (tgt := 100) G dX0_isCutByAgain_45 (by decide) (by omega) (by omega) (fun h => ?_) (fun h => ?_)
    · have e8 : t = qs.length - 1 := by omega
      have hpe := hend e8
      have hpl : pa.length = r2.length + 1 := by rw [← hpe]; rfl
      refine J.aload_n (pc := 100) G dX0_isCutByAgain_100 rfl ?_
      refine J.iload_n (pc := 101) G dX0_isCutByAgain_101 rfl ?_
      refine J.putf (pc := 102) (ci := 0) G inX0 rfl tyX0 tyX0_ok nmX0 12 q106 dX0_isCutByAgain_102 (hL.at 0 rfl) (by decide) (Nat.le_of_ble_eq_true rfl) (Or.inl rfl) (tyX0_ok 12 (by decide)) (by first | rfl | decide +kernel) (by first | rfl | decide +kernel) (fun M hput hag => ?_)
      have hL := logS12 hL hput hag
      have hFr := hFr.put hag (by omega) (by omega)
      clear hput hag
      rw [upN2] at hL
      have hcut : Cut M a A S pa := by
        refine ⟨upAN B 6 p, KeepA.tr hKB (KeepA.up (by omega)), by rw [hpl]; exact hL, fun x hx => ?_, by omega, ?_⟩
        · show p x = gd pa x
          rw [← hpe, gd_cons]
          by_cases e : x = 0
          · subst e; rw [if_pos rfl]; exact h0
          · rw [if_neg e]
            have := h1 (x - 1) (by omega)
            rw [show x - 1 + 1 = x by omega] at this
            exact this
        · intro x hx
          rw [← hpe, gd_cons]
          split
          · exact hal.1
          · exact hal.2 (x - 1) (by omega)
      have hS2 : upN S 12 (r2.length + 1) 12 = r2.length + 1 := upN_s
      refine J.aload_n (pc := 105) G dX0_isCutByAgain_105 rfl ?_
      refine J.getf (pc := 106) (ci := 0) G inX0 rfl 12 q106 dX0_isCutByAgain_106 (hL.at 0 rfl) (by decide) rfl ?_
      refine J.iconstN (pc := 109) G dX0_isCutByAgain_109 1 rfl ?_
      refine J.icmp_leN (pc := 110) (tgt := 117) G dX0_isCutByAgain_110 (by decide) (by omega) (by omega) (fun h9 => ?_) (fun h9 => ?_)
      · refine J.iconstN (pc := 117) G dX0_isCutByAgain_117 0 rfl ?_
        exact J.zret0 (pc := 118) G hO dX0_isCutByAgain_118 (Nat.le_refl _) (Nat.le_refl _) ⟨by rw [decide_eq_false (by omega)], rfl, hcut, hM1 ▸ hFr⟩
      · refine J.iconstN (pc := 113) G dX0_isCutByAgain_113 1 rfl ?_
        refine J.goto (tgt := 118) (pc := 114) G dX0_isCutByAgain_114 (by decide) ?_
        exact J.zret1 (pc := 118) G hO dX0_isCutByAgain_118 (Nat.le_refl _) (Nat.le_refl _) ⟨by rw [decide_eq_true (by omega)], rfl, hcut, hM1 ▸ hFr⟩
    · have ht2 : t + 1 < qs.length := by omega
      have pt : p (t + 1) = gd qs (t + 1) := h2 (t + 1) (Nat.le_refl _) ht2
      have gt8 := hall (t + 1) ht2
      refine J.aload_n (pc := 48) G dX0_isCutByAgain_48 rfl ?_
      refine J.aload_n (pc := 49) G dX0_isCutByAgain_49 rfl ?_
      refine J.getf (pc := 50) (ci := 0) G inX0 rfl 11 q104 dX0_isCutByAgain_50 (hL.at 0 rfl) (by decide) rfl ?_
      refine J.iload_n (pc := 53) G dX0_isCutByAgain_53 rfl ?_
      refine J.ialdN (pc := 54) G dX0_isCutByAgain_54 (hL.at 6 rfl) (by omega) (by decide) ?_
      rw [show upAN B 6 p 6 (t + 1) = gd qs (t + 1) from pt]
      refine J.callV (pc := 55) (na := 1) G (c_belongsToFirst n M (part := gd qs (t + 1)) hL (fun j hj => by rw [show upAN B 6 p 3 = A 3 from hB3]; exact hb j hj) gt8 hb5 hb6) q294 q296 qp18 q297 q4 (by decide +kernel) dX0_isCutByAgain_55 (hL.at 0 rfl) rfl rfl (Nat.le_of_ble_eq_true rfl) rfl ⟨by omega, by decide, by omega, by omega⟩ ?_
      rintro r9 n9 M9 ⟨hr9, hn9, hM9⟩
      subst hr9
      rw [hn9, hM9]
      clear hn9 hM9 n9 M9
      dsimp only [Option.toList, List.cons_append, List.nil_append]
      have hbt : btf (upAN B 6 p 3) (upN S 12 qs.length 5) (upN S 12 qs.length 6) (gd qs (t + 1)) = btf (A 3) (S 5) (S 6) (gd qs (t + 1)) := by rw [show upAN B 6 p 3 = A 3 from hB3]; rfl
      rw [hbt]
      refine J.if_eq_b (pc := 58) (tgt := 79) G dX0_isCutByAgain_58 (by decide) (fun hc => ?_) (fun hc => ?_)
      · simp only [hc, Bool.false_eq_true, if_false] at hstep
        refine J.aload_n (pc := 79) G dX0_isCutByAgain_79 rfl ?_
        refine J.getf (pc := 80) (ci := 0) G inX0 rfl 11 q104 dX0_isCutByAgain_80 (hL.at 0 rfl) (by decide) rfl ?_
        refine J.iload_n (pc := 83) G dX0_isCutByAgain_83 rfl ?_
        refine J.aload_n (pc := 84) G dX0_isCutByAgain_84 rfl ?_
        refine J.getf (pc := 85) (ci := 0) G inX0 rfl 11 q104 dX0_isCutByAgain_85 (hL.at 0 rfl) (by decide) rfl ?_
        refine J.iload_n (pc := 88) G dX0_isCutByAgain_88 rfl ?_
        refine J.ialdN (pc := 89) G dX0_isCutByAgain_89 (hL.at 6 rfl) (by omega) (by decide) ?_
        refine J.iastN (pc := 90) G dX0_isCutByAgain_90 (hL.at 6 rfl) (by omega) (by decide) (fun M hput hag => ?_)
        have hL := logA6 hL hput hag
        have hFr := hFr.put hag (by omega) (by omega)
        clear hput hag
        refine J.iincN (L' := [_, _, _, _]) (pc := 91) G dX0_isCutByAgain_91 1 rfl rfl rfl rfl ?_
        refine J.iincN (L' := [_, _, _, _]) (pc := 94) G dX0_isCutByAgain_94 1 rfl rfl rfl rfl ?_
        refine J.goto (tgt := 40) (pc := 97) G dX0_isCutByAgain_97 (by decide) ?_
        rw [upAN2] at hL
        have := ih (t + 1, M) ⟨by dsimp only; omega, ⟨upN p (r2.length + 1) (p (t + 1)), hL, ?_, ?_, ?_⟩, hFr⟩ (by dsimp only; omega)
        · dsimp only at this
          rw [hstep] at this
          simp only [List.length_append, List.length_singleton] at this
          exact this
        · dsimp only
          rw [hstep, upN_n (by omega)]; exact h0
        · intro x hx
          dsimp only at hx ⊢
          rw [hstep] at hx ⊢
          simp only [List.length_append, List.length_singleton] at hx
          dsimp only
          rw [gd_snoc]
          by_cases e : x = r2.length
          · subst e; rw [upN_s, if_pos rfl]; exact pt
          · rw [upN_n (by omega), if_neg e]; exact h1 x (by omega)
        · intro x hx1 hx2
          dsimp only at hx1
          rw [upN_n (by omega)]
          exact h2 x (by omega) hx2
      · simp only [hc, if_true] at hstep
        refine J.aload_n (pc := 61) G dX0_isCutByAgain_61 rfl ?_
        refine J.getf (pc := 62) (ci := 0) G inX0 rfl 11 q104 dX0_isCutByAgain_62 (hL.at 0 rfl) (by decide) rfl ?_
        refine J.iconstN (pc := 65) G dX0_isCutByAgain_65 0 rfl ?_
        refine J.dup2 (pc := 66) G dX0_isCutByAgain_66 rfl rfl ?_
        refine J.ialdN (pc := 67) G dX0_isCutByAgain_67 (hL.at 6 rfl) (by omega) (by decide) ?_
        refine J.aload_n (pc := 68) G dX0_isCutByAgain_68 rfl ?_
        refine J.getf (pc := 69) (ci := 0) G inX0 rfl 11 q104 dX0_isCutByAgain_69 (hL.at 0 rfl) (by decide) rfl ?_
        refine J.iload_n (pc := 72) G dX0_isCutByAgain_72 rfl ?_
        refine J.ialdN (pc := 73) G dX0_isCutByAgain_73 (hL.at 6 rfl) (by omega) (by decide) ?_
        refine J.iorN (pc := 74) G dX0_isCutByAgain_74 ?_
        refine J.iastN (pc := 75) G dX0_isCutByAgain_75 (hL.at 6 rfl) (by omega) (by decide) (fun M hput hag => ?_)
        have hL := logA6 hL hput hag
        have hFr := hFr.put hag (by omega) (by omega)
        clear hput hag
        rw [upAN2] at hL
        refine J.goto (tgt := 94) (pc := 76) G dX0_isCutByAgain_76 (by decide) ?_
        refine J.iincN (L' := [_, _, _, _]) (pc := 94) G dX0_isCutByAgain_94 1 rfl rfl rfl rfl ?_
        refine J.goto (tgt := 40) (pc := 97) G dX0_isCutByAgain_97 (by decide) ?_
        have := ih (t + 1, M) ⟨by dsimp only; omega, ⟨upN p 0 (p 0 ||| p (t + 1)), hL, ?_, ?_, ?_⟩, hFr⟩ (by dsimp only; omega)
        · dsimp only at this
          rw [hstep] at this
          exact this
        · dsimp only
          rw [hstep, upN_s, h0, pt]
        · intro x hx
          dsimp only at hx ⊢
          rw [hstep] at hx ⊢
          rw [upN_n (by omega)]
          exact h1 x hx
        · intro x hx1 hx2
          dsimp only at hx1
          rw [upN_n (by omega)]
          exact h2 x (by omega) hx2
  refine K1 (0, M) ⟨by dsimp only; omega, ⟨p7, hL7, hp7 0 (by omega), fun x hx => absurd hx (Nat.not_lt_zero x), fun x _ hx => hp7 x hx⟩, hFr⟩
end LOG9
