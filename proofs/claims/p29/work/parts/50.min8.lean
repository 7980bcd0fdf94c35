section MIN8
set_option maxRecDepth 100000 in
set_option maxHeartbeats 4000000 in
theorem c_countWords (n : Nat) (M0 : AH) {a t wl : Nat} {A : Nat → Nat → Nat} {S : Nat → Nat} {nd : List Nd} (hm : Mt M0 a t A S nd) (hta : t = a + 1) (hkd : KdOk nd) (h1 : 1 ≤ nd.length) (hw : wl ≤ 3) : Fn yX1_countWords cX1_countWords 2 (some .int) 9 [.ref a, .int (iI (wl : Int))] n M0 0 0 (fun r n' M' => r = some (.int (iI ((spF nd wl wl (A 1) (rdF nd (A 1) wl wl (A 2) nd.length)).1 : Int))) ∧ n' = n ∧ (∃ A' S', Mt M' a t A' S' nd) ∧ Fq a M0 M') := by
  refine Fn.of (by decide) [some _, some _] rfl rfl (Nat.le_of_ble_eq_true rfl) ?_
  intro g G hin hO
  obtain ⟨hQ, ⟨B, P, T, hT0, hnd⟩, hwl, hen, hst, hwd, hkk⟩ := id hm
  have hFr : Fq a M0 M0 := Fq.rf
  have hm0 := hm
  generalize hM1 : M0 = M1 at hQ hFr
  refine J.aload_n (pc := 0) G dX1_countWords_0 rfl ?_
  refine J.iload_n (pc := 1) G dX1_countWords_1 rfl ?_
  refine J.putf (pc := 2) (ci := 1) G inX1 rfl tyX1 tyX1_ok nmX1 2 q71 dX1_countWords_2 (hQ.a0) (by decide) (Nat.le_of_ble_eq_true rfl) (Or.inl rfl) (tyX1_ok 2 (by decide)) (by first | rfl | decide +kernel) (by first | rfl | decide +kernel) (fun M hput hag => ?_)
  have hQ := matS2 hQ hput hag
  have hFr := hFr.put hag (by omega) (by omega)
  clear hput hag
  refine J.aload_n (pc := 5) G dX1_countWords_5 rfl ?_
  refine J.iload_n (pc := 6) G dX1_countWords_6 rfl ?_
  have hm2 : Mt M a t A (upN S 2 wl) nd := (hM1 ▸ hm0).of (hM1 ▸ hFr) hta hQ (by show wl ≤ 12; omega) hen hwd
  have hFr0 : Fq a M0 M := hM1 ▸ hFr
  refine J.callV (pc := 7) (na := 1) G (c_readFrom n M (s := wl) hm2 hta (Nat.le_refl _) hkd h1) q618 q620 qp29 q621 q3 (by decide +kernel) dX1_countWords_7 (hQ.a0) rfl rfl (Nat.le_of_ble_eq_true rfl) rfl ⟨by omega, by decide, by omega, by omega⟩ ?_
  rintro r9 n9 M7 ⟨hr9, hn9, ⟨hm7, hFr7⟩⟩
  subst hr9
  rw [hn9]
  clear hn9 n9
  dsimp only [Option.toList, List.cons_append, List.nil_append]
  have hm7 : Mt M7 a t (upAN (upAN A 1 (A 1)) 2 (rdF nd (A 1) wl wl (A 2) nd.length)) (upN S 2 wl) nd := by rw [upAN_same]; exact hm7
  have hcs := c_countSpelt hta hkd h1 wl n M7 (Nat.le_refl _) hm7
  rw [show upN S 2 wl 2 = wl from rfl] at hcs
  refine J.aload_n (pc := 10) G dX1_countWords_10 rfl ?_
  refine J.iload_n (pc := 11) G dX1_countWords_11 rfl ?_
  refine J.iconstN (pc := 12) G dX1_countWords_12 1 rfl ?_
  refine J.isub (pc := 13) G dX1_countWords_13 ?_
  rw [show ((wl : Int) - ((1 : Nat) : Int)) = (wl : Int) - 1 from rfl]
  refine J.callS (pc := 14) (na := 2) G (hcs) q686 q687 q688 q3 (by decide +kernel) dX1_countWords_14 rfl (Nat.le_of_ble_eq_true rfl) rfl ⟨by omega, by decide, by omega, by omega⟩ ?_
  rintro r9 n9 M8 ⟨hr9, hn9, ⟨hm8, hFr8⟩⟩
  subst hr9
  rw [hn9]
  clear hn9 n9
  dsimp only [Option.toList, List.cons_append, List.nil_append]
  exact J.iret (pc := 17) G hO dX1_countWords_17 (Nat.le_refl _) (Nat.le_refl _) ⟨rfl, rfl, ⟨_, _, hm8⟩, (hFr0.trans hFr7).trans hFr8⟩
/-- what a question to the Matcher leaves -/
abbrev MtL (M M' : AH) (a : Nat) (nd : List Nd) : Prop := (∃ C' Q', Mt M' (a + 6) (a + 7) C' Q' nd) ∧ Fq (a + 6) M M'
set_option maxRecDepth 100000 in
set_option maxHeartbeats 4000000 in
theorem c_accepts (n : Nat) (M0 : AH) {a : Nat} {v : Int} {A C : Nat → Nat → Nat} {S Q : Nat → Nat} {nd : List Nd} (hX : Cl M0 a (minC a A S)) (hok : MnOk A S) (hm : S 9 = 1 → Mt M0 (a + 6) (a + 7) C Q nd) (hkd : KdOk nd) (h1 : 1 ≤ nd.length) (hv : Rng v) : Fx yX3_accepts cX3_accepts 2 (some .boolean) 8 [.ref a, .int (iI v)] n M0 2 12 (fun r n' M' => r = some (.int (bI (mtR nd (C 1) (C 2) (A 2) (v.toNat * 12) (A 3 v.toNat)))) ∧ n' = n ∧ MtL M0 M' a nd ∧ S 9 = 1 ∧ 0 ≤ v ∧ v < (S 5 : Int)) (fun E n' M' => n ≤ n' ∧ M' = M0 ∧ ((E = ISE ∧ S 9 = 0) ∨ (E = IOB ∧ S 9 = 1 ∧ ¬ (0 ≤ v ∧ v < (S 5 : Int))))) := by
  refine Fx.of (by decide) [some _, some _] rfl rfl (Nat.le_of_ble_eq_true rfl) ?_
  intro g G hO hT htab
  obtain ⟨g1, h5, h9s, hbu, hev, hle, hti⟩ := id hok
  refine J.aload_n (pc := 0) G dX3_accepts_0 rfl ?_
  refine J.callXV (pc := 1) (na := 0) G (c_checkMined n M0 hX h9s) q527 q529 qp25 q530 q1 (by decide +kernel) dX3_accepts_1 (hX.at 0 rfl) rfl rfl (Nat.le_of_ble_eq_true rfl) rfl ⟨by omega, by decide, by omega, by omega⟩ (fun E9 n9 M9 h9 => JX.out G hT htab (by omega) (by omega) (⟨h9.2.1, h9.2.2.1, Or.inl ⟨h9.1, h9.2.2.2⟩⟩)) ?_
  rintro r9 n9 M9 ⟨hr9, hn9, hM9, hs1⟩
  subst hr9
  rw [hn9, hM9]
  clear hn9 hM9 n9 M9
  dsimp only [Option.toList, List.cons_append, List.nil_append]
  refine J.aload_n (pc := 4) G dX3_accepts_4 rfl ?_
  refine J.iload_n (pc := 5) G dX3_accepts_5 rfl ?_
  refine J.callXV (pc := 6) (na := 1) G (c_checkTrace n M0 hX h5 hv) q461 q463 qp22 q464 q1 (by decide +kernel) dX3_accepts_6 (hX.at 0 rfl) rfl rfl (Nat.le_of_ble_eq_true rfl) rfl ⟨by omega, by decide, by omega, by omega⟩ (fun E9 n9 M9 h9 => JX.out G hT htab (by omega) (by omega) (⟨h9.2.1, h9.2.2.1, Or.inr ⟨h9.1, hs1, h9.2.2.2⟩⟩)) ?_
  rintro r9 n9 M9 ⟨hr9, hn9, hM9, ⟨hv0, hv8⟩⟩
  subst hr9
  rw [hn9, hM9]
  clear hn9 hM9 n9 M9
  dsimp only [Option.toList, List.cons_append, List.nil_append]
  have hm := hm hs1
  have eu : ((v.toNat : Nat) : Int) = v := by omega
  generalize v.toNat = w at hO eu
  subst eu
  have h3 := hle w (by omega)
  refine J.aload_n (pc := 9) G dX3_accepts_9 rfl ?_
  refine J.getf (pc := 10) (ci := 3) G inX3 rfl 7 q143 dX3_accepts_10 (hX.at 0 rfl) (by decide) rfl ?_
  refine J.aload_n (pc := 13) G dX3_accepts_13 rfl ?_
  refine J.getf (pc := 14) (ci := 3) G inX3 rfl 2 q137 dX3_accepts_14 (hX.at 0 rfl) (by decide) rfl ?_
  refine J.iload_n (pc := 17) G dX3_accepts_17 rfl ?_
  refine J.bipushN (pc := 18) G dX3_accepts_18 12 (by decide +kernel) ?_
  refine J.imulN (pc := 20) G dX3_accepts_20 ?_
  refine J.aload_n (pc := 21) G dX3_accepts_21 rfl ?_
  refine J.getf (pc := 22) (ci := 3) G inX3 rfl 3 q138 dX3_accepts_22 (hX.at 0 rfl) (by decide) rfl ?_
  refine J.iload_n (pc := 25) G dX3_accepts_25 rfl ?_
  refine J.ialdN (pc := 26) G dX3_accepts_26 (hX.at 3 rfl) (by omega) (by decide) ?_
  refine J.callV (pc := 27) (na := 3) G (c_matches n M0 (r := a + 2) (fr := w * 12) (wl := A 3 w) (m := 120) hm (by omega) hkd h1 (hX.at 2 rfl) (by omega) h3 (by omega) (by omega) (fun j hj => hev _ (by omega))) q614 q615 q616 q617 q3 (by decide +kernel) dX3_accepts_27 (hm.1.a0) rfl rfl (Nat.le_of_ble_eq_true rfl) rfl ⟨by omega, by decide, by omega, by omega⟩ ?_
  rintro r9 n9 M7 ⟨hr9, hn9, ⟨hm7, hFr7⟩⟩
  subst hr9
  rw [hn9]
  clear hn9 n9
  dsimp only [Option.toList, List.cons_append, List.nil_append]
  exact J.zret (pc := 30) G hO dX3_accepts_30 (by decide) (by decide) ⟨rfl, rfl, ⟨hm7, hFr7⟩, hs1, hv0, hv8⟩
set_option maxRecDepth 100000 in
set_option maxHeartbeats 4000000 in
theorem c_words (n : Nat) (M0 : AH) {a : Nat} {v : Int} {A C : Nat → Nat → Nat} {S Q : Nat → Nat} {nd : List Nd} (hX : Cl M0 a (minC a A S)) (hok : MnOk A S) (hm : S 9 = 1 → Mt M0 (a + 6) (a + 7) C Q nd) (hkd : KdOk nd) (h1 : 1 ≤ nd.length) (hv : Rng v) : Fx yX3_words cX3_words 2 (some .int) 10 [.ref a, .int (iI v)] n M0 2 12 (fun r n' M' => r = some (.int (iI ((spF nd v.toNat v.toNat (C 1) (rdF nd (C 1) v.toNat v.toNat (C 2) nd.length)).1 : Int))) ∧ n' = n ∧ MtL M0 M' a nd ∧ S 9 = 1 ∧ 0 ≤ v ∧ v ≤ 3) (fun E n' M' => n ≤ n' ∧ M' = M0 ∧ ((E = ISE ∧ S 9 = 0) ∨ (E = IAE ∧ S 9 = 1 ∧ ¬ (0 ≤ v ∧ v ≤ 3)))) := by
  refine Fx.of (by decide) [some _, some _] rfl rfl (Nat.le_of_ble_eq_true rfl) ?_
  intro g G hO hT htab
  obtain ⟨g1, h5, h9s, hbu, hev, hle, hti⟩ := id hok
  obtain ⟨hv1, hv2⟩ := hv
  refine J.aload_n (pc := 0) G dX3_words_0 rfl ?_
  refine J.callXV (pc := 1) (na := 0) G (c_checkMined n M0 hX h9s) q527 q529 qp25 q530 q1 (by decide +kernel) dX3_words_1 (hX.at 0 rfl) rfl rfl (Nat.le_of_ble_eq_true rfl) rfl ⟨by omega, by decide, by omega, by omega⟩ (fun E9 n9 M9 h9 => JX.out G hT htab (by omega) (by omega) (⟨h9.2.1, h9.2.2.1, Or.inl ⟨h9.1, h9.2.2.2⟩⟩)) ?_
  rintro r9 n9 M9 ⟨hr9, hn9, hM9, hs1⟩
  subst hr9
  rw [hn9, hM9]
  clear hn9 hM9 n9 M9
  dsimp only [Option.toList, List.cons_append, List.nil_append]
  have hm := hm hs1
  have kx : ¬ (0 ≤ v ∧ v ≤ 3) → J g 1 6 n M0 [some (.ref a), some (.int (iI v))] 13 [] := fun h => J.throwS (pc := 13) G hT htab twA (text := "the length is not 0 to 3") (by decide) dX3_words_13 dX3_words_16 dX3_words_17 dX3_words_19 dX3_words_22 (by decide) (Nat.le_refl _) (Nat.le_refl _) (by decide) rfl (fun n' hn => ⟨hn, rfl, Or.inr ⟨rfl, hs1, h⟩⟩)
  refine J.iload_n (pc := 4) G dX3_words_4 rfl ?_
  refine J.if_lt (pc := 5) (tgt := 13) G dX3_words_5 (by decide) hv1 hv2 (fun h => kx (by omega)) (fun h => ?_)
  refine J.iload_n (pc := 8) G dX3_words_8 rfl ?_
  refine J.iconstN (pc := 9) G dX3_words_9 3 rfl ?_
  refine J.icmp_le (pc := 10) (tgt := 23) G dX3_words_10 (by decide) hv1 hv2 (by omega) (by omega) (fun h2 => ?_) (fun h2 => kx (by omega))
  have eu : ((v.toNat : Nat) : Int) = v := by omega
  generalize v.toNat = w at hO eu
  subst eu
  refine J.aload_n (pc := 23) G dX3_words_23 rfl ?_
  refine J.getf (pc := 24) (ci := 3) G inX3 rfl 7 q143 dX3_words_24 (hX.at 0 rfl) (by decide) rfl ?_
  refine J.iload_n (pc := 27) G dX3_words_27 rfl ?_
  refine J.callV (pc := 28) (na := 1) G (c_countWords n M0 (wl := w) hm (by omega) hkd h1 (by omega)) q682 q683 q684 q685 q3 (by decide +kernel) dX3_words_28 (hm.1.a0) rfl rfl (Nat.le_of_ble_eq_true rfl) rfl ⟨by omega, by decide, by omega, by omega⟩ ?_
  rintro r9 n9 M7 ⟨hr9, hn9, ⟨hm7, hFr7⟩⟩
  subst hr9
  rw [hn9]
  clear hn9 n9
  dsimp only [Option.toList, List.cons_append, List.nil_append]
  exact J.iret (pc := 31) G hO dX3_words_31 (by decide) (by decide) ⟨rfl, rfl, ⟨hm7, hFr7⟩, hs1, h, by omega⟩
end MIN8
