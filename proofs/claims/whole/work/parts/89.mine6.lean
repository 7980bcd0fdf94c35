section MINE6
theorem lgN_12 {A : Nat → Nat → Nat} {S : Nat → Nat} (hok : MnOk A S) {k : Nat} (hk : k ≤ 10) : L12 (lgN A k) :=
  it_inv (f := fun t l => if 0 < A 4 t then l ++ [rwL A t (A 3 t)] else l) (s := []) (fun _ l => L12 l) k (fun t ht => absurd ht (Nat.not_lt_zero t)) (fun t l ht hl => by
    obtain ⟨-, -, -, -, hev, hle, -⟩ := hok
    have h3 := hle t (by omega)
    by_cases h : 0 < A 4 t
    · rw [if_pos h]
      exact hl.app (by rw [rwL_len]; exact h3)
    · rw [if_neg h]
      exact hl)
theorem lgOf_goodM {A : Nat → Nat → Nat} {S : Nat → Nat} (hok : MnOk A S) : GoodM (lgOf A S) := ⟨lgOf_good hok, lgN_12 hok hok.2.1⟩
theorem lgN_s {A : Nat → Nat → Nat} {t : Nat} : lgN A (t + 1) = if 0 < A 4 t then lgN A t ++ [rwL A t (A 3 t)] else lgN A t := rfl
/-- how mining leaves the model's rows -/
def KpM (R : Nat → Nat → Nat) (Z : Nat → Nat) (R' : Nat → Nat → Nat) (Z' : Nat → Nat) : Prop := (∀ i, i ≠ 5 → i ≠ 7 → R' i = R i) ∧ (∀ i, i ≠ 8 → i ≠ 0 → i ≠ 7 → Z' i = Z i) ∧ Z' 0 = 0 ∧ Z' 7 = 1
theorem LgP.keep {M M' : AH} {b N lo hi : Nat} {q : List (List Nat)} (h : LgP M b N q lo hi) (hag : ∀ x, (x = b ∨ (lo ≤ x ∧ x < hi)) → M' x = M x) : LgP M' b N q lo hi := by
  obtain ⟨f, h1, h2⟩ := h
  refine ⟨f, (hag b (Or.inl rfl)).trans h1, fun j hj => ?_⟩
  obtain ⟨r, e, g1, g2, g3, g4, g5⟩ := h2 j hj
  exact ⟨r, e, g1, g2, g3, (hag r (Or.inr ⟨g2, g3⟩)).trans g4, g5⟩
set_option maxRecDepth 100000 in
set_option maxHeartbeats 4000000 in
theorem m_mineF (f : Nat) (n : Nat) (M0 : AH) {a mc ms : Nat} {R : Nat → Nat → Nat} {P : Nat → Int} {Z : Nat → Nat} {A : Nat → Nat → Nat} {S : Nat → Nat} (hrec : GrowM a f) (hM : Cl M0 a (modC a R P Z)) (hw : Vw R Z A S) (hok : MnOk A S) (hT : Z 7 = 1 → MdG R P Z (growF f (lgOf A S) (-1) [])) (hdp : dpOk f (lgOf A S)) (hgo : growOk f (lgOf A S) (-1) []) (hmc : Z 7 = 0 → 12 + cC f (lgOf A S) ≤ mc) (hms : Z 7 = 0 → 140 + cS f (lgOf A S) ≤ ms) : Fn yX4_mine cX4_mine 5 (some .int) (2 * f + 8) [.ref a] n M0 mc ms (fun r n' M' => r = some (.int (iI (((growF f (lgOf A S) (-1) []).length : Nat) : Int))) ∧ n ≤ n' ∧ (∃ R' P' Z', Cl M' a (modC a R' P' Z') ∧ MdG R' P' Z' (growF f (lgOf A S) (-1) []) ∧ KpM R Z R' Z') ∧ FrM a n M0 M') := by
  refine Fn.of (by decide) [some _, none, none, none, none] rfl rfl (Nat.le_of_ble_eq_true rfl) ?_
  intro g G hin hO
  obtain ⟨w1, w2, w3, w4, z1, z3, z7⟩ := hw
  obtain ⟨h1, h5, h9, hbu, hev, hle, hti⟩ := id hok
  have hgm := lgOf_goodM hok
  have hfin : lgN A (S 5) = lgOf A S := rfl
  have hll := lgN_ok hok h5
  have hlen : (lgOf A S).length ≤ 10 := by rw [← hfin]; omega
  have hgr := fun n M b R P Z => hrec n M b (-1) (lgOf A S) [] R P Z
  generalize growF f (lgOf A S) (-1) [] = ndF at hT hO hgr
  generalize cC f (lgOf A S) = c9 at hmc hgr
  generalize cS f (lgOf A S) = s9 at hms hgr
  have hFr : Fr a (a + 9) M0 M0 := Fr.rf
  generalize hM1 : M0 = M1 at hM hFr
  have e3 : upN Z 0 0 3 = Z 3 := rfl
  have e7 : upN Z 0 0 7 = Z 7 := rfl
  have e8 : upN Z 0 0 8 = Z 8 := rfl
  have hz7 : Z 7 ≤ 1 := by omega
  have hz3 : Z 3 ≤ 10 := by omega
  refine J.aload_n (pc := 0) G dX4_mine_0 rfl ?_
  refine J.iconstN (pc := 1) G dX4_mine_1 0 rfl ?_
  refine J.putf (pc := 2) (ci := 4) G inX4 rfl tyX4 tyX4_ok nmX4 0 q695 dX4_mine_2 (hM.at 0 rfl) (by decide) (Nat.le_of_ble_eq_true rfl) (Or.inl rfl) (tyX4_ok 0 (by decide)) (by first | rfl | decide +kernel) (by first | rfl | decide +kernel) (fun M hput hag => ?_)
  have hM := modS0 hM hput hag
  have hFr := hFr.put hag (by omega) (by omega)
  clear hput hag
  refine J.aload_n (pc := 5) G dX4_mine_5 rfl ?_
  refine J.getf (pc := 6) (ci := 4) G inX4 rfl 7 q702 dX4_mine_6 (hM.at 0 rfl) (by decide) rfl ?_
  rw [e7]
  have hFr0 : Fr a (a + 9) M0 M := hM1 ▸ hFr
  refine J.if_eqN (pc := 9) (tgt := 17) G dX4_mine_9 (by decide) (by omega) (fun hmn => ?_) (fun hmn => ?_)
  rotate_left
  · have hs1 : Z 7 = 1 := by omega
    have hT := hT hs1
    refine J.aload_n (pc := 12) G dX4_mine_12 rfl ?_
    refine J.getf (pc := 13) (ci := 4) G inX4 rfl 8 q703 dX4_mine_13 (hM.at 0 rfl) (by decide) rfl ?_
    rw [e8, hT.1]
    exact J.iret (pc := 16) G hO dX4_mine_16 (by omega) (by omega) ⟨rfl, Nat.le_refl _, ⟨R, P, upN Z 0 0, hM, hT, fun i _ _ => rfl, fun i _ h _ => upN_n h, rfl, hs1⟩, FrM.fr hFr0⟩
  · have hmc := hmc hmn
    have hms := hms hmn
    clear hFr
    refine J.dom (fun hbc => ?_)
    have hbig : a + 9 ≤ n := by
      have := hbc _ _ (hM.at 8 rfl)
      omega
    clear hM1
    refine J.aload_n (pc := 17) G dX4_mine_17 rfl ?_
    refine J.getf (pc := 18) (ci := 4) G inX4 rfl 3 q698 dX4_mine_18 (hM.at 0 rfl) (by decide) rfl ?_
    rw [e3]
    refine J.newR (pc := 21) G q816 dX4_mine_21 (by omega) (by omega) (by omega) (fun M2 hput hag => ?_)
    refine J.astore_n (L' := [_, _, _, _, _]) (pc := 24) G dX4_mine_24 rfl (Nat.le_of_ble_eq_true rfl) rfl ?_
    refine J.iconstN (pc := 25) G dX4_mine_25 0 rfl ?_
    refine J.istore_n (L' := [_, _, _, _, _]) (pc := 26) G dX4_mine_26 rfl (Nat.le_of_ble_eq_true rfl) rfl ?_
    refine J.iconstN (pc := 27) G dX4_mine_27 0 rfl ?_
    refine J.istore_n (L' := [_, _, _, _, _]) (pc := 28) G dX4_mine_28 rfl (Nat.le_of_ble_eq_true rfl) rfl ?_
    refine J.wid (k' := 1) (z' := Z 3) (by omega) (by omega) ?_
    have hM2 : Cl M2 a (modC a R P (upN Z 0 0)) := hM.keep (fun q g1 g2 => hag q (by simp at g2; omega))
    have hF2 : FrM a n M0 M2 := fun q g1 g2 => (hag q (by omega)).trans (hFr0 q g2)
    have K107 : ∀ Mx : AH, LgP Mx n (Z 3) (lgOf A S) (n + 1) (n + 1 + (lgOf A S).length) → FrM a n M0 Mx → Cl Mx a (modC a R P (upN Z 0 0)) → ∀ l4, J g (1 + (lgOf A S).length) (Z 3 + tot (lgOf A S)) (n + 1 + (lgOf A S).length) Mx [some (.ref a), some (.ref n), some (.int (iI ((lgOf A S).length : Int))), some (.int (iI ((Z 3 : Nat) : Int))), l4] 107 [] := by
      clear hM2 hF2 hput hag hbc hM hFr0 M M2
      intro Mx hP hF hM l4
      have hlt : tot (lgOf A S) ≤ 120 := by rw [← hfin]; omega
      have hlz : (lgOf A S).length ≤ Z 3 := by rw [← hfin, z3]; exact hll.2.1
      have hFr : Fr a (a + 9) Mx Mx := Fr.rf
      generalize lgOf A S = q at hP hlen hlt hlz hgm hdp hgo hgr ⊢
      refine J.aload_n (pc := 107) G dX4_mine_107 rfl ?_
      refine J.iconstN (pc := 108) G dX4_mine_108 0 rfl ?_
      refine J.putf (pc := 109) (ci := 4) G inX4 rfl tyX4 tyX4_ok nmX4 8 q703 dX4_mine_109 (hM.at 0 rfl) (by decide) (Nat.le_of_ble_eq_true rfl) (Or.inl rfl) (tyX4_ok 8 (by decide)) (by first | rfl | decide +kernel) (by first | rfl | decide +kernel) (fun M hput hag => ?_)
      have hM := modS8 hM hput hag
      have hFr := hFr.put hag (by omega) (by omega)
      clear hput hag
      refine J.aload_n (pc := 112) G dX4_mine_112 rfl ?_
      refine J.aload_n (pc := 113) G dX4_mine_113 rfl ?_
      refine J.iload_n (pc := 114) G dX4_mine_114 rfl ?_
      have hP := hP.keep (M' := M) (fun x hx => hFr x (by omega))
      have hF : FrM a n M0 M := fun x g1 g2 => (hFr x g2).trans (hF x g1 g2)
      obtain ⟨fr, hbf, hrf⟩ := id hP
      refine J.callS (pc := 115) (na := 2) G (m_shortened (n + 1 + q.length) M (k := q.length) hbf (by omega) (by omega) (by omega) (fun j hj => by obtain ⟨r, e, g1, g2, g3, g4, -⟩ := hrf j hj; exact ⟨r, _, e, g1, g3, g4⟩)) q818 q819 q820 q5 (by decide +kernel) dX4_mine_115 rfl (Nat.le_of_ble_eq_true rfl) rfl ⟨by omega, by decide, by omega, by omega⟩ ?_
      rintro r9 n9 M9 ⟨hr9, hn9, hM9, hag9⟩
      dsimp only [Option.toList, List.cons_append, List.nil_append]
      subst hr9
      subst hn9
      dsimp only [Option.toList, List.cons_append, List.nil_append]
      have hlg := LgR.short hP hlz hbf hM9 hag9 (by omega)
      have hM9' : Cl M9 a (modC a R P (upN (upN Z 0 0) 8 0)) := hM.keep (fun x g1 g2 => hag9 x (by simp at g2; omega))
      have hF9 : FrM a n M0 M9 := fun x g1 g2 => (hag9 x (by omega)).trans (hF x g1 g2)
      refine J.dom (fun hbc => ?_)
      refine J.iconst (pc := 118) G dX4_mine_118 ?_
      refine J.callV (pc := 119) (na := 2) G (hgr (n + 1 + q.length + 1) M9 (n + 1 + q.length) _ _ _ (hlg.wide (by omega)) hbc hgm hM9' ⟨rfl, fun i hi => absurd hi (Nat.not_lt_zero i)⟩ ⟨by decide, by decide⟩ hdp hgo) q821 q823 qp42 q824 q5 (by decide +kernel) dX4_mine_119 (hM9'.at 0 rfl) rfl rfl (Nat.le_of_ble_eq_true rfl) rfl ⟨by omega, by decide, by omega, by omega⟩ ?_
      rintro r8 n8 M5 ⟨hr8, hn8, ⟨R5, P5, Z5, hM5, hT5, hK5⟩, hFr5⟩
      dsimp only [Option.toList, List.cons_append, List.nil_append]
      subst hr8
      dsimp only [Option.toList, List.cons_append, List.nil_append]
      clear hFr hM hM9'
      have hFr : Fr a (a + 9) M5 M5 := Fr.rf
      have hM := hM5
      have e58 : upN Z5 7 1 8 = ndF.length := hT5.1
      have hF5 : FrM a n M0 M5 := fun x g1 g2 => (hFr5 x (by omega) g2).trans (hF9 x g1 g2)
      refine J.aload_n (pc := 122) G dX4_mine_122 rfl ?_
      refine J.iconstN (pc := 123) G dX4_mine_123 1 rfl ?_
      refine J.putf (pc := 124) (ci := 4) G inX4 rfl tyX4 tyX4_ok nmX4 7 q702 dX4_mine_124 (hM.at 0 rfl) (by decide) (Nat.le_of_ble_eq_true rfl) (Or.inl rfl) (tyX4_ok 7 (by decide)) (by first | rfl | decide +kernel) (by first | rfl | decide +kernel) (fun M hput hag => ?_)
      have hM := modS7 hM hput hag
      have hFr := hFr.put hag (by omega) (by omega)
      clear hput hag
      refine J.aload_n (pc := 127) G dX4_mine_127 rfl ?_
      refine J.getf (pc := 128) (ci := 4) G inX4 rfl 8 q703 dX4_mine_128 (hM.at 0 rfl) (by decide) rfl ?_
      rw [e58]
      refine J.iret (pc := 131) G hO dX4_mine_131 (by omega) (by omega) ⟨rfl, by omega, ⟨R5, P5, upN Z5 7 1, hM, hT5, hK5.1, fun i g1 g2 g3 => ?_, ?_, rfl⟩, fun x g1 g2 => (hFr x g2).trans (hF5 x g1 g2)⟩
      · rw [upN_n g3, hK5.2 i g1, upN_n g1, upN_n g2]
      · rw [upN_n (by decide), hK5.2 0 (by decide)]
        rfl
    have K1 : ∀ s : Nat × List (List Nat) × AH, (s.1 ≤ Z 3 ∧ s.2.1 = lgN A s.1 ∧ LgP s.2.2 n (Z 3) s.2.1 (n + 1) (n + 1 + s.2.1.length) ∧ FrM a n M0 s.2.2 ∧ Cl s.2.2 a (modC a R P (upN Z 0 0))) → ∀ l4, J g (1 + s.2.1.length) (Z 3 + tot s.2.1) (n + 1 + s.2.1.length) s.2.2 [some (.ref a), some (.ref n), some (.int (iI (s.2.1.length : Int))), some (.int (iI (s.1 : Int))), l4] 29 [] := by
      refine loopJ (fun s => Z 3 - s.1) _ _ ?_
      clear hM2 hF2 hput hag hbc hM hFr0 M M2
      rintro ⟨t, q, M⟩ ⟨ht, hq, hP, hF, hM⟩ ih l4
      dsimp only at ht hq hP hF hM ih ⊢
      obtain ⟨-, hql, hqt⟩ := lgN_ok hok (k := t) (by omega)
      rw [← hq] at hql hqt
      obtain ⟨fr, hbf, hrf⟩ := id hP
      refine J.iload_n (pc := 29) G dX4_mine_29 rfl ?_
      refine J.aload_n (pc := 30) G dX4_mine_30 rfl ?_
      refine J.getf (pc := 31) (ci := 4) G inX4 rfl 3 q698 dX4_mine_31 (hM.at 0 rfl) (by decide) rfl ?_
      rw [e3]
      refine J.icmp_geN (pc := 34) (tgt := 107) G dX4_mine_34 (by decide) (by omega) (by omega) (fun h => ?_) (fun h => ?_)
      · have hte : t = Z 3 := by omega
        rw [hte, z3, hfin] at hq
        subst hq
        rw [hte]
        exact K107 M hP hF hM _
      · have c2 : R 2 t = A 4 t := by rw [w4]
        have c3 : R 3 t = A 3 t := by rw [w3]
        have c3' := hle t (by omega)
        have c2' := hti t (by omega)
        have hs := lgN_s (A := A) (t := t)
        rw [← hq] at hs
        have K101 : ∀ (q' : List (List Nat)) (M' : AH), q' = lgN A (t + 1) → LgP M' n (Z 3) q' (n + 1) (n + 1 + q'.length) → FrM a n M0 M' → Cl M' a (modC a R P (upN Z 0 0)) → ∀ l4, J g (1 + q'.length) (Z 3 + tot q') (n + 1 + q'.length) M' [some (.ref a), some (.ref n), some (.int (iI (q'.length : Int))), some (.int (iI (t : Int))), l4] 101 [] := by
          intro q' M' a1 a2 a3 a4 l4
          refine J.iincN (L' := [_, _, _, _, _]) (pc := 101) G dX4_mine_101 1 rfl rfl rfl rfl ?_
          refine J.goto (pc := 104) (tgt := 29) G dX4_mine_104 (by decide) ?_
          exact ih (t + 1, q', M') ⟨by dsimp only; omega, a1, a2, a3, a4⟩ (by dsimp only; omega) _
        refine J.aload_n (pc := 37) G dX4_mine_37 rfl ?_
        refine J.getf (pc := 38) (ci := 4) G inX4 rfl 4 q699 dX4_mine_38 (hM.at 0 rfl) (by decide) rfl ?_
        refine J.iload_n (pc := 41) G dX4_mine_41 rfl ?_
        refine J.ialdN (pc := 42) G dX4_mine_42 (hM.at 2 rfl) (by omega) (by decide) ?_
        rw [c2]
        refine J.if_neN (pc := 43) (tgt := 49) G dX4_mine_43 (by decide) (by omega) (fun h6 => ?_) (fun h6 => ?_)
        · rw [if_pos h6] at hs
          refine J.aload_n (pc := 49) G dX4_mine_49 rfl ?_
          refine J.iload_n (pc := 50) G dX4_mine_50 rfl ?_
          refine J.aload_n (pc := 51) G dX4_mine_51 rfl ?_
          refine J.getf (pc := 52) (ci := 4) G inX4 rfl 5 q700 dX4_mine_52 (hM.at 0 rfl) (by decide) rfl ?_
          refine J.iload_n (pc := 55) G dX4_mine_55 rfl ?_
          refine J.ialdN (pc := 56) G dX4_mine_56 (hM.at 3 rfl) (by omega) (by decide) ?_
          rw [c3]
          refine J.newI (pc := 57) G q62 dX4_mine_57 (by omega) (by omega) (by omega) (fun M2 hput2 hag2 => ?_)
          refine J.aastR (pc := 59) G dX4_mine_59 ((hag2 n (by omega)).trans hbf) hput2 q.length rfl (by omega) (by omega) (fun M3 hput3 hag3 => ?_)
          refine J.iconstN (pc := 60) G dX4_mine_60 0 rfl ?_
          refine J.istore (L' := [_, _, _, _, _]) (pc := 61) G dX4_mine_61 rfl (Nat.le_of_ble_eq_true rfl) rfl ?_
          have hla : (q ++ [rwL A t (A 3 t)]).length = q.length + 1 := by rw [List.length_append]; rfl
          have hta := tot_app (tr := q) (w := rwL A t (A 3 t))
          rw [rwL_len] at hta
          have hM3 : Cl M3 a (modC a R P (upN Z 0 0)) := hM.keep (fun x g1 g2 => (hag3 x (by simp at g2; omega)).trans (hag2 x (by simp at g2; omega)))
          have hF3 : FrM a n M0 M3 := fun x g1 g2 => (hag3 x (by omega)).trans ((hag2 x (by omega)).trans (hF x g1 g2))
          have K2 : ∀ s : Nat × AH, (s.1 ≤ A 3 t ∧ s.2 n = some (cR 3 (Z 3) (va_up fr q.length (some (n + 1 + q.length)))) ∧ (∃ e : Nat → Nat, s.2 (n + 1 + q.length) = some (cN (A 3 t) e) ∧ ∀ i, i < s.1 → e i = A 2 (t * 12 + i)) ∧ (∀ x, x ≠ n → x < n + 1 + q.length → s.2 x = M x)) → J g (1 + q.length + 1) (Z 3 + tot q + A 3 t) (n + 1 + q.length + 1) s.2 [some (.ref a), some (.ref n), some (.int (iI (q.length : Int))), some (.int (iI (t : Int))), some (.int (iI (s.1 : Int)))] 63 [] := by
            refine loopJ (fun s => A 3 t - s.1) _ _ ?_
            clear hM3 hF3 hput3 hag3 hput2 hag2 M2 M3
            rintro ⟨j, M9⟩ ⟨hj, hn9, ⟨e, hr9, he9⟩, hag9⟩ ih2
            dsimp only at hj hn9 hr9 he9 hag9 ih2 ⊢
            have hM : Cl M9 a (modC a R P (upN Z 0 0)) := hM.keep (fun x g1 g2 => hag9 x (by simp at g2; omega) (by simp at g2; omega))
            refine J.iload (pc := 63) G dX4_mine_63 rfl ?_
            refine J.aload_n (pc := 65) G dX4_mine_65 rfl ?_
            refine J.getf (pc := 66) (ci := 4) G inX4 rfl 5 q700 dX4_mine_66 (hM.at 0 rfl) (by decide) rfl ?_
            refine J.iload_n (pc := 69) G dX4_mine_69 rfl ?_
            refine J.ialdN (pc := 70) G dX4_mine_70 (hM.at 3 rfl) (by omega) (by decide) ?_
            rw [c3]
            refine J.icmp_geN (pc := 71) (tgt := 98) G dX4_mine_71 (by decide) (by omega) (by omega) (fun h7 => ?_) (fun h7 => ?_)
            · have hje : j = A 3 t := by omega
              subst hje
              have hPn : LgP M9 n (Z 3) (q ++ [rwL A t (A 3 t)]) (n + 1) (n + 1 + q.length + 1) := LgP.push hrf hn9 (by omega) (by rw [rwL_len]; exact hr9) (fun i hi => by
                rw [rwL_len] at hi
                rw [rwL_gd hi]
                exact he9 i hi) (fun x g1 g2 => hag9 x (by omega) g2)
              refine J.iincN (L' := [_, _, _, _, _]) (pc := 98) G dX4_mine_98 1 rfl rfl rfl rfl ?_
              refine J.nn (n' := n + 1 + (q ++ [rwL A t (A 3 t)]).length) (by omega) ?_
              refine J.wid (k' := 1 + (q ++ [rwL A t (A 3 t)]).length) (z' := Z 3 + tot (q ++ [rwL A t (A 3 t)])) (by omega) (by omega) ?_
              rw [← hla]
              exact K101 _ M9 hs.symm (by rw [hla, show n + 1 + (q.length + 1) = n + 1 + q.length + 1 by omega]; exact hPn) (fun x g1 g2 => (hag9 x (by omega) (by omega)).trans (hF x g1 g2)) hM _
            · have c4 : R 4 (12 * t + j) = A 2 (t * 12 + j) := by rw [w2, Nat.mul_comm]
              refine J.aload_n (pc := 74) G dX4_mine_74 rfl ?_
              refine J.iload_n (pc := 75) G dX4_mine_75 rfl ?_
              refine J.aald (pc := 76) G dX4_mine_76 hn9 (Or.inl rfl) q.length rfl (by omega) (by omega) (va_up_self _ _ _) ?_
              refine J.iload (pc := 77) G dX4_mine_77 rfl ?_
              refine J.aload_n (pc := 79) G dX4_mine_79 rfl ?_
              refine J.getf (pc := 80) (ci := 4) G inX4 rfl 6 q701 dX4_mine_80 (hM.at 0 rfl) (by decide) rfl ?_
              refine J.bipushN (pc := 83) G dX4_mine_83 12 (by decide +kernel) ?_
              refine J.iload_n (pc := 85) G dX4_mine_85 rfl ?_
              refine J.imulN (pc := 86) G dX4_mine_86 ?_
              refine J.iload (pc := 87) G dX4_mine_87 rfl ?_
              refine J.iaddN (pc := 89) G dX4_mine_89 ?_
              refine J.ialdN (pc := 90) G dX4_mine_90 (hM.at 4 rfl) (by omega) (by decide) ?_
              rw [c4]
              refine J.iastN (pc := 91) G dX4_mine_91 hr9 h7 (by omega) (fun M4 hput4 hag4 => ?_)
              refine J.iincN (L' := [_, _, _, _, _]) (pc := 92) G dX4_mine_92 1 rfl rfl rfl rfl ?_
              refine J.goto (pc := 95) (tgt := 63) G dX4_mine_95 (by decide) ?_
              exact ih2 (j + 1, M4) ⟨by dsimp only; omega, (hag4 n (by omega)).trans hn9, ⟨_, hput4, fun i hi => by
                by_cases ei : i = j
                · subst ei; rw [upN_s]
                · rw [upN_n ei]; exact he9 i (by dsimp only at hi; omega)⟩, fun x g1 g2 => (hag4 x (by omega)).trans (hag9 x g1 g2)⟩ (by dsimp only; omega)
          exact K2 (0, M3) ⟨Nat.zero_le _, hput3, ⟨_, (hag3 _ (by omega)).trans hput2, fun i hi => absurd hi (Nat.not_lt_zero i)⟩, fun x g1 g2 => (hag3 x g1).trans (hag2 x (by omega))⟩
        · rw [if_neg (by omega)] at hs
          refine J.goto (pc := 46) (tgt := 101) G dX4_mine_46 (by decide) ?_
          exact K101 q M hs.symm hP hF hM _
    exact K1 (0, [], M2) ⟨Nat.zero_le _, rfl, ⟨_, hput, fun j hj => absurd hj (Nat.not_lt_zero j)⟩, hF2, hM2⟩ _
theorem m_mine (n : Nat) (M0 : AH) {a mc ms : Nat} {R : Nat → Nat → Nat} {P : Nat → Int} {Z : Nat → Nat} {A : Nat → Nat → Nat} {S : Nat → Nat} (hcq : ∀ tr, GoodM tr → CutQ tr) (hM : Cl M0 a (modC a R P Z)) (hw : Vw R Z A S) (hok : MnOk A S) (hT : Z 7 = 1 → MdG R P Z (trOf A S)) (hdp : dpOk 16 (lgOf A S)) (hgo : growOk 16 (lgOf A S) (-1) []) (hmc : Z 7 = 0 → 12 + cC 16 (lgOf A S) ≤ mc) (hms : Z 7 = 0 → 140 + cS 16 (lgOf A S) ≤ ms) : Fn yX4_mine cX4_mine 5 (some .int) 40 [.ref a] n M0 mc ms (fun r n' M' => r = some (.int (iI (((trOf A S).length : Nat) : Int))) ∧ n ≤ n' ∧ (∃ R' P' Z', Cl M' a (modC a R' P' Z') ∧ MdG R' P' Z' (trOf A S) ∧ KpM R Z R' Z') ∧ FrM a n M0 M') := m_mineF 16 n M0 (m_mineInto hcq 16) hM hw hok hT hdp hgo hmc hms
end MINE6
