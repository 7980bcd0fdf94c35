section MAT4
def wordF (w E : Nat → Nat) (fr k : Nat) : Nat → Nat := it (fun i w => upN w i (2 ^ E (fr + i))) w k
def usedF (E : Nat → Nat) (fr k : Nat) : Nat := it (fun i u => u ||| 2 ^ E (fr + i)) 0 k
def rdAll (nd : List Nd) (wd : Nat → Nat) (wl : Nat) (en : Nat → Nat) (k : Nat) : Nat → Nat := it (fun j en => rdF nd wd wl (wl - j) en nd.length) en k
theorem usedF_lt {E : Nat → Nat} {fr k : Nat} (h : ∀ j, j < k → E (fr + j) < 8) : usedF E fr k < 256 :=
  it_inv (fun _ u => u < 256) k (by decide) (fun i x hi hx => Nat.or_lt_two_pow (n := 8) hx (Nat.pow_lt_pow_right (a := 2) (n := 8) (by omega) (h i hi)))
theorem wordF_lt {w E : Nat → Nat} {fr k : Nat} (hw : ∀ i, i < 12 → w i < 256) (h : ∀ j, j < k → E (fr + j) < 8) : ∀ i, i < 12 → wordF w E fr k i < 256 :=
  it_inv (fun _ (w : Nat → Nat) => ∀ i, i < 12 → w i < 256) k hw (fun j x hj hx i hi => by
    show upN x j (2 ^ E (fr + j)) i < 256
    by_cases q : i = j
    · subst q; rw [upN_s]; exact Nat.pow_lt_pow_right (a := 2) (n := 8) (by omega) (h i hj)
    · rw [upN_n q]; exact hx i hi)
theorem Mt.of {M0 M : AH} {a t : Nat} {A0 A : Nat → Nat → Nat} {S0 S : Nat → Nat} {nd : List Nd} (hm : Mt M0 a t A0 S0 nd) (hFr : Fq a M0 M) (hta : t = a + 1) (hQ : Cq M a t A S) (hwl : S 2 ≤ 12) (hen : ∀ i, i < 832 → A 2 i < 8192) (hwd : ∀ i, i < 12 → A 1 i < 256) : Mt M a t A S nd := by
  obtain ⟨-, ⟨B, P, T, hT, hnd⟩, -, -, hst, -, hkk⟩ := hm
  exact ⟨hQ, ⟨B, P, T, hT.fq hFr (by simp; omega), hnd⟩, hwl, hen, hst, hwd, hkk⟩
def mtR (nd : List Nd) (wd en E : Nat → Nat) (fr wl : Nat) : Bool :=
  if andn (usedF E fr wl) (ndS nd 0) = 0 then (rdAll nd (wordF wd E fr wl) wl en (wl + 1) 0).testBit wl else false
set_option maxRecDepth 100000 in
set_option maxHeartbeats 4000000 in
theorem c_matches (n : Nat) (M0 : AH) {a t r fr wl m : Nat} {A : Nat → Nat → Nat} {S : Nat → Nat} {nd : List Nd} {E : Nat → Nat} (hm : Mt M0 a t A S nd) (hta : t = a + 1) (hkd : KdOk nd) (h1 : 1 ≤ nd.length) (hE : M0 r = some (cN m E)) (hr : r < a ∨ a + 10 ≤ r) (hw : wl ≤ 12) (hm9 : fr + wl ≤ m) (hm8 : m < 1000) (hE8 : ∀ j, j < wl → E (fr + j) < 8) : Fn yX1_matches cX1_matches 6 (some .boolean) 5 [.ref a, .ref r, .int (iI (fr : Int)), .int (iI (wl : Int))] n M0 0 0 (fun rr n' M' => rr = some (.int (bI (mtR nd (A 1) (A 2) E fr wl))) ∧ n' = n ∧ (∃ A' S', Mt M' a t A' S' nd) ∧ Fq a M0 M') := by
  refine Fn.of (by decide) [some _, some _, some _, some _, none, none] rfl rfl (Nat.le_of_ble_eq_true rfl) ?_
  intro g G hin hO
  obtain ⟨hQ, ⟨B, P, T, hT0, hnd⟩, hwl, hen, hst, hwd, hkk⟩ := id hm
  refine J.iconstN (pc := 0) G dX1_matches_0 0 rfl ?_
  refine J.istore (L' := [_, _, _, _, _, _]) (pc := 1) G dX1_matches_1 rfl (Nat.le_of_ble_eq_true rfl) rfl ?_
  refine J.iconstN (pc := 3) G dX1_matches_3 0 rfl ?_
  refine J.istore (L' := [_, _, _, _, _, _]) (pc := 4) G dX1_matches_4 rfl (Nat.le_of_ble_eq_true rfl) rfl ?_
  have K1 : ∀ q : Nat × AH, (q.1 ≤ wl ∧ Cq q.2 a t (upAN A 1 (wordF (A 1) E fr q.1)) S ∧ Fq a M0 q.2) → J g 0 0 n q.2 [some (.ref a), some (.ref r), some (.int (iI (fr : Int))), some (.int (iI (wl : Int))), some (.int (iI (usedF E fr q.1 : Int))), some (.int (iI (q.1 : Int)))] 6 [] := by
    refine loopJ (fun q => wl - q.1) _ _ ?_
    rintro ⟨j, M⟩ ⟨hj, hQ, hFr⟩ ih
    dsimp only at hj hQ hFr ih ⊢
    refine J.iload (pc := 6) G dX1_matches_6 rfl ?_
    refine J.iload_n (pc := 8) G dX1_matches_8 rfl ?_
    refine J.icmp_geN (pc := 9) (tgt := 45) G dX1_matches_9 (by decide) (by omega) (by omega) (fun h => ?_) (fun h => ?_)
    · have hjw : j = wl := by omega
      rw [hjw] at hQ ⊢
      have hu := usedF_lt hE8
      have hs0 := hst 0 (by omega)
      have hwf := wordF_lt hwd hE8
      have hsets := (hnd.2.2.1 0 (by omega)).2.1
      unfold mtR at hO
      generalize usedF E fr wl = u at hu hO ⊢
      generalize wordF (A 1) E fr wl = w at hwf hQ hO ⊢
      refine J.aload_n (pc := 45) G dX1_matches_45 rfl ?_
      refine J.iload_n (pc := 46) G dX1_matches_46 rfl ?_
      refine J.putf (pc := 47) (ci := 1) G inX1 rfl tyX1 tyX1_ok nmX1 2 q71 dX1_matches_47 (hQ.a0) (by decide) (Nat.le_of_ble_eq_true rfl) (Or.inl rfl) (tyX1_ok 2 (by decide)) (by first | rfl | decide +kernel) (by first | rfl | decide +kernel) (fun M hput hag => ?_)
      have hQ := matS2 hQ hput hag
      have hFr := hFr.put hag (by omega) (by omega)
      clear hput hag
      refine J.iload (pc := 50) G dX1_matches_50 rfl ?_
      refine J.aload_n (pc := 52) G dX1_matches_52 rfl ?_
      have hT := hT0.fq hFr (by simp; omega)
      have hm2 : Mt M a t (upAN A 1 w) (upN S 2 wl) nd := hm.of hFr hta hQ hw hen hwf
      refine J.getf (pc := 53) (ci := 1) G inX1 rfl 0 q69 dX1_matches_53 (hQ.a0) (by decide) rfl ?_
      refine J.getf (pc := 56) (ci := 2) G inX2 rfl 1 q35 dX1_matches_56 (hT.at 0 rfl) (by decide) rfl ?_
      refine J.iconstN (pc := 59) G dX1_matches_59 0 rfl ?_
      refine J.ialdN (pc := 60) G dX1_matches_60 (hT.at 2 rfl) (by omega) (by decide) ?_
      rw [hsets]
      refine J.andnN (pc := 61) G dX1_matches_61 dX1_matches_62 dX1_matches_63 ?_
      have ha9 : andn u (ndS nd 0) < 256 := andn_lt8 hu
      refine J.if_eqN (pc := 64) (tgt := 69) G dX1_matches_64 (by decide) (by omega) (fun h2 => ?_) (fun h2 => ?_)
      · rw [if_pos h2] at hO
        refine J.aload_n (pc := 69) G dX1_matches_69 rfl ?_
        refine J.getf (pc := 70) (ci := 1) G inX1 rfl 2 q71 dX1_matches_70 (hQ.a0) (by decide) rfl ?_
        refine J.istore (L' := [_, _, _, _, _, _]) (pc := 73) G dX1_matches_73 rfl (Nat.le_of_ble_eq_true rfl) rfl ?_
        have K2 : ∀ q : Nat × AH, (q.1 ≤ wl + 1 ∧ Mt q.2 a t (upAN (upAN A 1 w) 2 (rdAll nd w wl (A 2) q.1)) (upN S 2 wl) nd ∧ Fq a M0 q.2) → J g 0 0 n q.2 [some (.ref a), some (.ref r), some (.int (iI (fr : Int))), some (.int (iI (wl : Int))), some (.int (iI (u : Int))), some (.int (iI ((wl : Int) - (q.1 : Int))))] 75 [] := by
          refine loopJ (fun q => wl + 1 - q.1) _ _ ?_
          clear hm2 hm hQ hFr hT
          rintro ⟨j, M⟩ ⟨hj, hm, hFr⟩ ih
          dsimp only at hj hm hFr ih ⊢
          have hstep : rdAll nd w wl (A 2) (j + 1) = rdF nd w wl (wl - j) (rdAll nd w wl (A 2) j) nd.length := rfl
          have hend : j = wl + 1 → rdAll nd w wl (A 2) j = rdAll nd w wl (A 2) (wl + 1) := fun e => by rw [e]
          generalize rdAll nd w wl (A 2) j = e at hm hstep hend
          have hQ := hm.1
          refine J.iload (pc := 75) G dX1_matches_75 rfl ?_
          refine J.if_lt (pc := 77) (tgt := 92) G dX1_matches_77 (by decide) (by omega) (by omega) (fun h => ?_) (fun h => ?_)
          · rw [← hend (by omega)] at hO
            refine J.aload_n (pc := 92) G dX1_matches_92 rfl ?_
            refine J.callV (pc := 93) (na := 0) G (c_isWhole n M hm) q656 q658 qp38 q659 q3 (by decide +kernel) dX1_matches_93 (hQ.a0) rfl rfl (Nat.le_of_ble_eq_true rfl) rfl ⟨by omega, by decide, by omega, by omega⟩ ?_
            rintro r9 n9 M9 ⟨hr9, hn9, hM9⟩
            subst hr9
            rw [hn9, hM9]
            clear hn9 hM9 n9 M9
            dsimp only [Option.toList, List.cons_append, List.nil_append]
            exact J.zret (pc := 96) G hO dX1_matches_96 (Nat.le_refl _) (Nat.le_refl _) ⟨rfl, rfl, ⟨_, _, hm⟩, hFr⟩
          · rw [show ((wl : Int) - (j : Int)) = ((wl - j : Nat) : Int) by omega]
            refine J.aload_n (pc := 80) G dX1_matches_80 rfl ?_
            refine J.iload (pc := 81) G dX1_matches_81 rfl ?_
            refine J.callV (pc := 83) (na := 1) G (c_readFrom n M (s := wl - j) hm hta (by show wl - j ≤ wl; omega) hkd h1) q618 q620 qp29 q621 q3 (by decide +kernel) dX1_matches_83 (hQ.a0) rfl rfl (Nat.le_of_ble_eq_true rfl) rfl ⟨by omega, by decide, by omega, by omega⟩ ?_
            rintro r9 n9 M7 ⟨hr9, hn9, ⟨hm7, hFr7⟩⟩
            subst hr9
            rw [hn9]
            clear hn9 n9
            dsimp only [Option.toList, List.cons_append, List.nil_append]
            have hm8 : Mt M7 a t (upAN (upAN A 1 w) 2 (rdAll nd w wl (A 2) (j + 1))) (upN S 2 wl) nd := by
              rw [hstep]
              rw [upAN2] at hm7
              exact hm7
            have nx := ih (j + 1, M7) ⟨by dsimp only; omega, hm8, hFr.trans hFr7⟩ (by dsimp only; omega)
            dsimp only at nx
            rw [show ((wl : Int) - ((j + 1 : Nat) : Int)) = ((wl - j : Nat) : Int) + (-1) by omega] at nx
            refine J.iinc (L' := [_, _, _, _, _, _]) (pc := 86) G dX1_matches_86 rfl rfl rfl ?_
            refine J.goto (pc := 89) (tgt := 75) G dX1_matches_89 (by decide) ?_
            exact nx
        have := K2 (0, M) ⟨Nat.zero_le _, by dsimp only; rw [show rdAll nd w wl (A 2) 0 = upAN A 1 w 2 from rfl, upAN_same]; exact hm2, hFr⟩
        exact this
      · rw [if_neg (by omega)] at hO
        refine J.iconstN (pc := 67) G dX1_matches_67 0 rfl ?_
        exact J.zret0 (pc := 68) G hO dX1_matches_68 (Nat.le_refl _) (Nat.le_refl _) ⟨rfl, rfl, ⟨_, _, hm2⟩, hFr⟩
    · have hE1 := hE8 j (by omega)
      have hsu : usedF E fr (j + 1) = usedF E fr j ||| 2 ^ E (fr + j) := rfl
      have hsw : wordF (A 1) E fr (j + 1) = upN (wordF (A 1) E fr j) j (2 ^ E (fr + j)) := rfl
      have nx := fun M hQ hFr => ih (j + 1, M) ⟨by dsimp only; omega, hQ, hFr⟩ (by dsimp only; omega)
      dsimp only at nx
      rw [hsu, hsw] at nx
      generalize wordF (A 1) E fr j = w at hQ nx ⊢
      generalize usedF E fr j = u at nx ⊢
      refine J.aload_n (pc := 12) G dX1_matches_12 rfl ?_
      refine J.getf (pc := 13) (ci := 1) G inX1 rfl 1 q70 dX1_matches_13 (hQ.a0) (by decide) rfl ?_
      refine J.iload (pc := 16) G dX1_matches_16 rfl ?_
      refine J.iconstN (pc := 18) G dX1_matches_18 1 rfl ?_
      refine J.aload_n (pc := 19) G dX1_matches_19 rfl ?_
      refine J.iload_n (pc := 20) G dX1_matches_20 rfl ?_
      refine J.iload (pc := 21) G dX1_matches_21 rfl ?_
      refine J.iaddN (pc := 23) G dX1_matches_23 ?_
      refine J.ialdN (pc := 24) G dX1_matches_24 ((hFr r (by omega) (by omega)).trans hE) (by omega) (by omega) ?_
      refine J.ishl1 (pc := 25) G dX1_matches_25 (by omega) ?_
      refine J.iastN (pc := 26) G dX1_matches_26 (hQ.a1) (by omega) (by decide) (fun M hput hag => ?_)
      have hQ := matA1 hQ hput hag
      have hFr := hFr.put hag (by omega) (by omega)
      clear hput hag
      refine J.iload (pc := 27) G dX1_matches_27 rfl ?_
      refine J.aload_n (pc := 29) G dX1_matches_29 rfl ?_
      refine J.getf (pc := 30) (ci := 1) G inX1 rfl 1 q70 dX1_matches_30 (hQ.a0) (by decide) rfl ?_
      refine J.iload (pc := 33) G dX1_matches_33 rfl ?_
      refine J.ialdN (pc := 35) G dX1_matches_35 (hQ.a1) (by omega) (by decide) ?_
      refine J.topv (b := iI ((2 ^ E (fr + j) : Nat) : Int)) (by show iI ((upN w j (2 ^ E (fr + j)) j : Nat) : Int) = _; rw [upN_s]) ?_
      refine J.iorN (pc := 36) G dX1_matches_36 ?_
      refine J.istore (L' := [_, _, _, _, _, _]) (pc := 37) G dX1_matches_37 rfl (Nat.le_of_ble_eq_true rfl) rfl ?_
      refine J.iincN (L' := [_, _, _, _, _, _]) (pc := 39) G dX1_matches_39 1 rfl rfl rfl rfl ?_
      refine J.goto (pc := 42) (tgt := 6) G dX1_matches_42 (by decide) ?_
      rw [upAN2] at hQ
      exact nx M hQ hFr
  exact K1 (0, M0) ⟨Nat.zero_le _, by dsimp only; rw [show wordF (A 1) E fr 0 = A 1 from rfl, upAN_same]; exact hQ, Fq.rf⟩
end MAT4
