section MAT5
abbrev Sp := Nat × (Nat → Nat) × (Nat → Nat)
def spS (nd : List Nd) (wl p : Nat) (rec : (Nat → Nat) → (Nat → Nat) → Sp) (b : Nat) (x : Sp) : Sp :=
  if (ndS nd 0).testBit b then
    (x.1 + (rec (upN x.2.1 p (2 ^ b)) (rdF nd (upN x.2.1 p (2 ^ b)) wl p x.2.2 nd.length)).1,
     (rec (upN x.2.1 p (2 ^ b)) (rdF nd (upN x.2.1 p (2 ^ b)) wl p x.2.2 nd.length)).2)
  else x
/-- the words that end with what stands behind the first p places -/
def spF (nd : List Nd) (wl : Nat) : Nat → (Nat → Nat) → (Nat → Nat) → Sp
  | 0, w, en => (if (en 0).testBit wl then 1 else 0, w, en)
  | p + 1, w, en => it (spS nd wl p (spF nd wl p)) (0, w, en) 8
theorem upAN_12 {A : Nat → Nat → Nat} {w e w' : Nat → Nat} : upAN (upAN (upAN A 1 w) 2 e) 1 w' = upAN (upAN A 1 w') 2 e := by
  funext k
  unfold upAN
  split <;> split <;> first | rfl | omega
set_option maxRecDepth 100000 in
set_option maxHeartbeats 4000000 in
theorem c_countSpelt {a t : Nat} {S : Nat → Nat} {nd : List Nd} (hta : t = a + 1) (hkd : KdOk nd) (h1 : 1 ≤ nd.length) : ∀ (p n : Nat) (M0 : AH) {A : Nat → Nat → Nat} {w e : Nat → Nat}, p ≤ S 2 → Mt M0 a t (upAN (upAN A 1 w) 2 e) S nd → Fn yX1_countSpelt cX1_countSpelt 4 (some .int) (5 + p) [.ref a, .int (iI ((p : Int) - 1))] n M0 0 0 (fun r n' M' => r = some (.int (iI ((spF nd (S 2) p w e).1 : Int))) ∧ n' = n ∧ Mt M' a t (upAN (upAN A 1 (spF nd (S 2) p w e).2.1) 2 (spF nd (S 2) p w e).2.2) S nd ∧ Fq a M0 M') := by
  intro p
  induction p with
  | zero =>
    intro n M0 A w e hp hm
    refine Fn.of (by decide) [some _, some _, none, none] rfl rfl (Nat.le_of_ble_eq_true rfl) ?_
    intro g G hin hO
    have hQ := hm.1
    refine J.iload_n (pc := 0) G dX1_countSpelt_0 rfl ?_
    refine J.if_lt (pc := 1) (tgt := 10) G dX1_countSpelt_1 (by decide) (by omega) (by omega) (fun h => ?_) (fun h => ?_)
    · refine J.aload_n (pc := 10) G dX1_countSpelt_10 rfl ?_
      refine J.callV (pc := 11) (na := 0) G (c_isWhole n M0 hm) q656 q658 qp38 q659 q3 (by decide +kernel) dX1_countSpelt_11 (hQ.a0) rfl rfl (Nat.le_of_ble_eq_true rfl) rfl ⟨by omega, by decide, by omega, by omega⟩ ?_
      rintro r9 n9 M9 ⟨hr9, hn9, hM9⟩
      subst hr9
      rw [hn9, hM9]
      clear hn9 hM9 n9 M9
      dsimp only [Option.toList, List.cons_append, List.nil_append]
      refine J.if_eq_b (pc := 14) (tgt := 21) G dX1_countSpelt_14 (by decide) (fun hb => ?_) (fun hb => ?_)
      · have hb : (e 0).testBit (S 2) = false := hb
        have e0 : spF nd (S 2) 0 w e = (0, w, e) := by show ((if (e 0).testBit (S 2) then 1 else 0), w, e) = _; rw [hb]; rfl
        rw [e0] at hO
        refine J.iconstN (pc := 21) G dX1_countSpelt_21 0 rfl ?_
        exact J.iret (pc := 22) G hO dX1_countSpelt_22 (Nat.le_refl _) (Nat.le_refl _) ⟨rfl, rfl, hm, Fq.rf⟩
      · have hb : (e 0).testBit (S 2) = true := hb
        have e0 : spF nd (S 2) 0 w e = (1, w, e) := by show ((if (e 0).testBit (S 2) then 1 else 0), w, e) = _; rw [hb]; rfl
        rw [e0] at hO
        refine J.iconstN (pc := 17) G dX1_countSpelt_17 1 rfl ?_
        refine J.goto (pc := 18) (tgt := 22) G dX1_countSpelt_18 (by decide) ?_
        exact J.iret (pc := 22) G hO dX1_countSpelt_22 (Nat.le_refl _) (Nat.le_refl _) ⟨rfl, rfl, hm, Fq.rf⟩
    · omega
  | succ p IH =>
    intro n M0 A w e hp hm
    refine Fn.of (by decide) [some _, some _, none, none] rfl rfl (Nat.le_of_ble_eq_true rfl) ?_
    intro g G hin hO
    rw [show (((p + 1 : Nat) : Int) - 1) = (p : Int) by omega]
    have hw9 := hm.2.2.1
    have hs0 := hm.2.2.2.2.1 0 (by omega)
    rw [show spF nd (S 2) (p + 1) w e = it (spS nd (S 2) p (spF nd (S 2) p)) (0, w, e) 8 from rfl] at hO
    refine J.iload_n (pc := 0) G dX1_countSpelt_0 rfl ?_
    refine J.if_lt (pc := 1) (tgt := 10) G dX1_countSpelt_1 (by decide) (by omega) (by omega) (fun h => ?_) (fun h => ?_)
    · omega
    refine J.iload_n (pc := 4) G dX1_countSpelt_4 rfl ?_
    refine J.bipushN (pc := 5) G dX1_countSpelt_5 12 (by decide +kernel) ?_
    refine J.icmp_ltN (pc := 7) (tgt := 23) G dX1_countSpelt_7 (by decide) (by omega) (by omega) (fun h2 => ?_) (fun h2 => by omega)
    have hm0 := hm
    refine J.iconstN (pc := 23) G dX1_countSpelt_23 0 rfl ?_
    refine J.istore_n (L' := [_, _, _, _]) (pc := 24) G dX1_countSpelt_24 rfl (Nat.le_of_ble_eq_true rfl) rfl ?_
    refine J.iconstN (pc := 25) G dX1_countSpelt_25 0 rfl ?_
    refine J.istore_n (L' := [_, _, _, _]) (pc := 26) G dX1_countSpelt_26 rfl (Nat.le_of_ble_eq_true rfl) rfl ?_
    have K1 : ∀ q : Nat × Sp × AH, (q.1 ≤ 8 ∧ it (spS nd (S 2) p (spF nd (S 2) p)) (0, w, e) q.1 = q.2.1 ∧ Mt q.2.2 a t (upAN (upAN A 1 q.2.1.2.1) 2 q.2.1.2.2) S nd ∧ Fq a M0 q.2.2) → J g 0 0 n q.2.2 [some (.ref a), some (.int (iI (p : Int))), some (.int (iI (q.2.1.1 : Int))), some (.int (iI (q.1 : Int)))] 27 [] := by
      refine loopJ (fun q => 8 - q.1) _ _ ?_
      clear hm
      rintro ⟨j, ⟨c, w1, e1⟩, M⟩ ⟨hj, hx, hm, hFr⟩ ih
      dsimp only at hj hx hm hFr ih ⊢
      refine J.iload_n (pc := 27) G dX1_countSpelt_27 rfl ?_
      refine J.bipushN (pc := 28) G dX1_countSpelt_28 8 (by decide +kernel) ?_
      refine J.icmp_geN (pc := 30) (tgt := 79) G dX1_countSpelt_30 (by decide) (by omega) (by omega) (fun h3 => ?_) (fun h3 => ?_)
      · have hj8 : j = 8 := by omega
        rw [hj8] at hx
        rw [hx] at hO
        refine J.iload_n (pc := 79) G dX1_countSpelt_79 rfl ?_
        exact J.iret (pc := 80) G hO dX1_countSpelt_80 (Nat.le_refl _) (Nat.le_refl _) ⟨rfl, rfl, hm, hFr⟩
      · have hstep := it_s (f := spS nd (S 2) p (spF nd (S 2) p)) (s := (0, w, e)) (n := j)
        rw [hx] at hstep
        obtain ⟨hQ, ⟨B, P, T, hT, hnd⟩, hwl, hen, hst, hwd, hkk⟩ := id hm
        have hsets := (hnd.2.2.1 0 (by omega)).2.1
        refine J.aload_n (pc := 33) G dX1_countSpelt_33 rfl ?_
        refine J.getf (pc := 34) (ci := 1) G inX1 rfl 0 q69 dX1_countSpelt_34 (hQ.a0) (by decide) rfl ?_
        refine J.getf (pc := 37) (ci := 2) G inX2 rfl 1 q35 dX1_countSpelt_37 (hT.at 0 rfl) (by decide) rfl ?_
        refine J.iconstN (pc := 40) G dX1_countSpelt_40 0 rfl ?_
        refine J.ialdN (pc := 41) G dX1_countSpelt_41 (hT.at 2 rfl) (by omega) (by decide) ?_
        rw [hsets]
        refine J.iload_n (pc := 42) G dX1_countSpelt_42 rfl ?_
        refine J.callSN (pc := 43) (na := 2) G (c_contains n M (by omega) (by omega)) (mem_nw 4) q248 q249 q1 (by decide +kernel) dX1_countSpelt_43 rfl (Nat.le_of_ble_eq_true rfl) rfl ⟨by omega, by decide, by omega, by omega⟩ ?_
        rintro r9 n9 M9 ⟨hr9, hn9, hM9⟩
        subst hr9
        rw [hn9, hM9]
        clear hn9 hM9 n9 M9
        dsimp only [Option.toList, List.cons_append, List.nil_append]
        refine J.if_eq_b (pc := 46) (tgt := 73) G dX1_countSpelt_46 (by decide) (fun hb => ?_) (fun hb => ?_)
        · have hs1 : spS nd (S 2) p (spF nd (S 2) p) j (c, w1, e1) = (c, w1, e1) := if_neg (by rw [hb]; decide)
          rw [hs1] at hstep
          refine J.iincN (L' := [_, _, _, _]) (pc := 73) G dX1_countSpelt_73 1 rfl rfl rfl rfl ?_
          refine J.goto (pc := 76) (tgt := 27) G dX1_countSpelt_76 (by decide) ?_
          exact ih (j + 1, (c, w1, e1), M) ⟨by dsimp only; omega, hstep, hm, hFr⟩ (by dsimp only; omega)
        · have hs1 : spS nd (S 2) p (spF nd (S 2) p) j (c, w1, e1) = (c + (spF nd (S 2) p (upN w1 p (2 ^ j)) (rdF nd (upN w1 p (2 ^ j)) (S 2) p e1 nd.length)).1, (spF nd (S 2) p (upN w1 p (2 ^ j)) (rdF nd (upN w1 p (2 ^ j)) (S 2) p e1 nd.length)).2) := if_pos hb
          rw [hs1] at hstep
          refine J.aload_n (pc := 49) G dX1_countSpelt_49 rfl ?_
          refine J.getf (pc := 50) (ci := 1) G inX1 rfl 1 q70 dX1_countSpelt_50 (hQ.a0) (by decide) rfl ?_
          refine J.iload_n (pc := 53) G dX1_countSpelt_53 rfl ?_
          refine J.iconstN (pc := 54) G dX1_countSpelt_54 1 rfl ?_
          refine J.iload_n (pc := 55) G dX1_countSpelt_55 rfl ?_
          refine J.ishl1 (pc := 56) G dX1_countSpelt_56 (by omega) ?_
          refine J.iastN (pc := 57) G dX1_countSpelt_57 (hQ.a1) (by omega) (by decide) (fun M hput hag => ?_)
          have hQ := matA1 hQ hput hag
          have hFr := hFr.put hag (by omega) (by omega)
          clear hput hag
          refine J.aload_n (pc := 58) G dX1_countSpelt_58 rfl ?_
          refine J.iload_n (pc := 59) G dX1_countSpelt_59 rfl ?_
          have hQ : Cq M a t (upAN (upAN A 1 (upN w1 p (2 ^ j))) 2 e1) S := by rw [← upAN_12]; exact hQ
          have hm2 := hm0.of hFr hta hQ hwl hen (fun i hi => by
            show upN w1 p (2 ^ j) i < 256
            by_cases q : i = p
            · subst q; rw [upN_s]; exact Nat.pow_lt_pow_right (a := 2) (n := 8) (by omega) (by omega)
            · rw [upN_n q]; exact hwd i hi)
          refine J.callV (pc := 60) (na := 1) G (c_readFrom n M (s := p) hm2 hta (by omega) hkd h1) q618 q620 qp29 q621 q3 (by decide +kernel) dX1_countSpelt_60 (hQ.a0) rfl rfl (Nat.le_of_ble_eq_true rfl) rfl ⟨by omega, by decide, by omega, by omega⟩ ?_
          rintro r9 n9 M7 ⟨hr9, hn9, ⟨hm7, hFr7⟩⟩
          subst hr9
          rw [hn9]
          clear hn9 n9
          dsimp only [Option.toList, List.cons_append, List.nil_append]
          rw [upAN2] at hm7
          have hm7 : Mt M7 a t (upAN (upAN A 1 (upN w1 p (2 ^ j))) 2 (rdF nd (upN w1 p (2 ^ j)) (S 2) p e1 nd.length)) S nd := hm7
          have hIH := IH n M7 (by omega) hm7
          generalize spF nd (S 2) p (upN w1 p (2 ^ j)) (rdF nd (upN w1 p (2 ^ j)) (S 2) p e1 nd.length) = res at hIH hstep
          refine J.iload_n (pc := 63) G dX1_countSpelt_63 rfl ?_
          refine J.aload_n (pc := 64) G dX1_countSpelt_64 rfl ?_
          refine J.iload_n (pc := 65) G dX1_countSpelt_65 rfl ?_
          refine J.iconstN (pc := 66) G dX1_countSpelt_66 1 rfl ?_
          refine J.isub (pc := 67) G dX1_countSpelt_67 ?_
          rw [show ((p : Int) - ((1 : Nat) : Int)) = (p : Int) - 1 from rfl]
          refine J.callS (pc := 68) (na := 2) G (hIH) q686 q687 q688 q3 (by decide +kernel) dX1_countSpelt_68 rfl (Nat.le_of_ble_eq_true rfl) rfl ⟨by omega, by decide, by omega, by omega⟩ ?_
          rintro r9 n9 M8 ⟨hr9, hn9, ⟨hm8, hFr8⟩⟩
          subst hr9
          rw [hn9]
          clear hn9 n9
          dsimp only [Option.toList, List.cons_append, List.nil_append]
          refine J.iaddN (pc := 71) G dX1_countSpelt_71 ?_
          refine J.istore_n (L' := [_, _, _, _]) (pc := 72) G dX1_countSpelt_72 rfl (Nat.le_of_ble_eq_true rfl) rfl ?_
          refine J.iincN (L' := [_, _, _, _]) (pc := 73) G dX1_countSpelt_73 1 rfl rfl rfl rfl ?_
          refine J.goto (pc := 76) (tgt := 27) G dX1_countSpelt_76 (by decide) ?_
          exact ih (j + 1, (c + res.1, res.2), M8) ⟨by dsimp only; omega, hstep, hm8, (hFr.trans hFr7).trans hFr8⟩ (by dsimp only; omega)
    exact K1 (0, (0, w, e), M0) ⟨Nat.zero_le _, rfl, hm, Fq.rf⟩
end MAT5
