section MOD5
set_option maxRecDepth 100000 in
set_option maxHeartbeats 4000000 in
theorem m_follows (n : Nat) (M0 : AH) {a : Nat} {u v : Int} {R : Nat → Nat → Nat} {P : Nat → Int} {Z : Nat → Nat} (hM : Cl M0 a (modC a R P Z)) (hok : MdOk R Z) (hu : Rng u) (hv : Rng v) : Fn yX4_follows cX4_follows 3 (some .int) 1 [.ref a, .int (iI u), .int (iI v)] n M0 0 0 (fun r n' M' => (((0 ≤ u ∧ u < 8) ∧ 0 ≤ v ∧ v < 8) ∧ MRead n M0 a R P Z (.int (iI ((coF (R 2) (R 3) (R 4) u.toNat v.toNat (Z 3) : Nat) : Int))) 0 r n' M') ∨ (¬ ((0 ≤ u ∧ u < 8) ∧ 0 ≤ v ∧ v < 8) ∧ MRead n M0 a R P Z (.int (iI ((0 : Nat) : Int))) 1 r n' M')) := by
  refine Fn.of (by decide) [some _, some _, some _] rfl rfl (Nat.le_of_ble_eq_true rfl) ?_
  intro g G hin hO
  have hFr : Fr a (a + 9) M0 M0 := Fr.rf
  generalize hM1 : M0 = M1 at hM hFr
  refine J.aload_n (pc := 0) G dX4_follows_0 rfl ?_
  refine J.iconstN (pc := 1) G dX4_follows_1 0 rfl ?_
  refine J.putf (pc := 2) (ci := 4) G inX4 rfl tyX4 tyX4_ok nmX4 0 q695 dX4_follows_2 (hM.at 0 rfl) (by decide) (Nat.le_of_ble_eq_true rfl) (Or.inl rfl) (tyX4_ok 0 (by decide)) (by first | rfl | decide +kernel) (by first | rfl | decide +kernel) (fun M hput hag => ?_)
  have hM := modS0 hM hput hag
  have hFr := hFr.put hag (by omega) (by omega)
  clear hput hag
  refine J.iload_n (pc := 5) G dX4_follows_5 rfl ?_
  have hFr0 : Fr a (a + 9) M0 M := hM1 ▸ hFr
  have k0 : ¬ ((0 ≤ u ∧ u < 8) ∧ 0 ≤ v ∧ v < 8) → J g 0 0 n M [some (.ref a), some (.int (iI u)), some (.int (iI v))] 28 [] := by
    intro h
    refine J.aload_n (pc := 28) G dX4_follows_28 rfl ?_
    refine J.iconstN (pc := 29) G dX4_follows_29 1 rfl ?_
    refine J.callV (pc := 30) (na := 1) G (m_fail n M (c := 1) hM) q746 q748 qp39 q749 q5 (by decide +kernel) dX4_follows_30 (hM.at 0 rfl) rfl rfl (Nat.le_of_ble_eq_true rfl) rfl ⟨by omega, by decide, by omega, by omega⟩ ?_
    rintro r9 n9 M7 ⟨hr9, hn9, ⟨hM7, hFr7⟩⟩
    subst hr9
    rw [hn9]
    clear hn9 n9
    dsimp only [Option.toList, List.cons_append, List.nil_append]
    exact J.iret (pc := 33) G hO dX4_follows_33 (by decide) (by decide) (Or.inr ⟨h, rfl, rfl, by rw [upN2] at hM7; exact hM7, hFr0.trans hFr7⟩)
  refine J.callS (pc := 6) (na := 1) G (m_isLabel n M hu) q743 q744 q745 q5 (by decide +kernel) dX4_follows_6 rfl (Nat.le_of_ble_eq_true rfl) rfl ⟨by omega, by decide, by omega, by omega⟩ ?_
  rintro r9 n9 M9 ⟨hr9, hn9, hM9⟩
  subst hr9
  rw [hn9, hM9]
  clear hn9 hM9 n9 M9
  dsimp only [Option.toList, List.cons_append, List.nil_append]
  refine J.if_eq_b (pc := 9) (tgt := 28) G dX4_follows_9 (by decide) (fun hb => ?_) (fun hb => ?_)
  · exact k0 (fun h => of_decide_eq_false hb h.1)
  · have hl : 0 ≤ u ∧ u < 8 := of_decide_eq_true hb
    refine J.iload_n (pc := 12) G dX4_follows_12 rfl ?_
    refine J.callS (pc := 13) (na := 1) G (m_isLabel n M hv) q743 q744 q745 q5 (by decide +kernel) dX4_follows_13 rfl (Nat.le_of_ble_eq_true rfl) rfl ⟨by omega, by decide, by omega, by omega⟩ ?_
    rintro r9 n9 M9 ⟨hr9, hn9, hM9⟩
    subst hr9
    rw [hn9, hM9]
    clear hn9 hM9 n9 M9
    dsimp only [Option.toList, List.cons_append, List.nil_append]
    refine J.if_eq_b (pc := 16) (tgt := 28) G dX4_follows_16 (by decide) (fun hb2 => ?_) (fun hb2 => ?_)
    · exact k0 (fun h => of_decide_eq_false hb2 h.2)
    · have hl2 : 0 ≤ v ∧ v < 8 := of_decide_eq_true hb2
      have eu : ((u.toNat : Nat) : Int) = u := by omega
      have ev : ((v.toNat : Nat) : Int) = v := by omega
      rw [← eu, ← ev]
      refine J.aload_n (pc := 19) G dX4_follows_19 rfl ?_
      refine J.iload_n (pc := 20) G dX4_follows_20 rfl ?_
      refine J.iload_n (pc := 21) G dX4_follows_21 rfl ?_
      refine J.callV (pc := 22) (na := 2) G (m_countOf n M (u := u.toNat) (v := v.toNat) hM hok (by omega) (by omega)) q789 q791 qp41 q792 q5 (by decide +kernel) dX4_follows_22 (hM.at 0 rfl) rfl rfl (Nat.le_of_ble_eq_true rfl) rfl ⟨by omega, by decide, by omega, by omega⟩ ?_
      rintro r9 n9 M9 ⟨hr9, hn9, hM9⟩
      subst hr9
      rw [hn9, hM9]
      clear hn9 hM9 n9 M9
      dsimp only [Option.toList, List.cons_append, List.nil_append]
      refine J.goto (pc := 25) (tgt := 33) G dX4_follows_25 (by decide) ?_
      exact J.iret (pc := 33) G hO dX4_follows_33 (by decide) (by decide) (Or.inl ⟨⟨hl, hl2⟩, rfl, rfl, hM, hFr0⟩)
def relM (R : Nat → Nat → Nat) (Z : Nat → Nat) (u v : Nat) : Nat := (if 0 < coF (R 2) (R 3) (R 4) u v (Z 3) then 1 else 0) + (if 0 < coF (R 2) (R 3) (R 4) v u (Z 3) then 2 else 0)
set_option maxRecDepth 100000 in
set_option maxHeartbeats 4000000 in
theorem m_relation (n : Nat) (M0 : AH) {a : Nat} {u v : Int} {R : Nat → Nat → Nat} {P : Nat → Int} {Z : Nat → Nat} (hM : Cl M0 a (modC a R P Z)) (hok : MdOk R Z) (hu : Rng u) (hv : Rng v) : Fn yX4_relation cX4_relation 3 (some .int) 1 [.ref a, .int (iI u), .int (iI v)] n M0 0 0 (fun r n' M' => (((0 ≤ u ∧ u < 8) ∧ 0 ≤ v ∧ v < 8) ∧ MRead n M0 a R P Z (.int (iI ((relM R Z u.toNat v.toNat : Nat) : Int))) 0 r n' M') ∨ (¬ ((0 ≤ u ∧ u < 8) ∧ 0 ≤ v ∧ v < 8) ∧ MRead n M0 a R P Z (.int (iI ((0 : Nat) : Int))) 1 r n' M')) := by
  refine Fn.of (by decide) [some _, some _, some _] rfl rfl (Nat.le_of_ble_eq_true rfl) ?_
  intro g G hin hO
  have hFr : Fr a (a + 9) M0 M0 := Fr.rf
  generalize hM1 : M0 = M1 at hM hFr
  refine J.aload_n (pc := 0) G dX4_relation_0 rfl ?_
  refine J.iconstN (pc := 1) G dX4_relation_1 0 rfl ?_
  refine J.putf (pc := 2) (ci := 4) G inX4 rfl tyX4 tyX4_ok nmX4 0 q695 dX4_relation_2 (hM.at 0 rfl) (by decide) (Nat.le_of_ble_eq_true rfl) (Or.inl rfl) (tyX4_ok 0 (by decide)) (by first | rfl | decide +kernel) (by first | rfl | decide +kernel) (fun M hput hag => ?_)
  have hM := modS0 hM hput hag
  have hFr := hFr.put hag (by omega) (by omega)
  clear hput hag
  refine J.iload_n (pc := 5) G dX4_relation_5 rfl ?_
  have hFr0 : Fr a (a + 9) M0 M := hM1 ▸ hFr
  have k0 : ¬ ((0 ≤ u ∧ u < 8) ∧ 0 ≤ v ∧ v < 8) → J g 0 0 n M [some (.ref a), some (.int (iI u)), some (.int (iI v))] 19 [] := by
    intro h
    refine J.aload_n (pc := 19) G dX4_relation_19 rfl ?_
    refine J.iconstN (pc := 20) G dX4_relation_20 1 rfl ?_
    refine J.callV (pc := 21) (na := 1) G (m_fail n M (c := 1) hM) q746 q748 qp39 q749 q5 (by decide +kernel) dX4_relation_21 (hM.at 0 rfl) rfl rfl (Nat.le_of_ble_eq_true rfl) rfl ⟨by omega, by decide, by omega, by omega⟩ ?_
    rintro r9 n9 M7 ⟨hr9, hn9, ⟨hM7, hFr7⟩⟩
    subst hr9
    rw [hn9]
    clear hn9 n9
    dsimp only [Option.toList, List.cons_append, List.nil_append]
    exact J.iret (pc := 24) G hO dX4_relation_24 (by decide) (by decide) (Or.inr ⟨h, rfl, rfl, by rw [upN2] at hM7; exact hM7, hFr0.trans hFr7⟩)
  refine J.callS (pc := 6) (na := 1) G (m_isLabel n M hu) q743 q744 q745 q5 (by decide +kernel) dX4_relation_6 rfl (Nat.le_of_ble_eq_true rfl) rfl ⟨by omega, by decide, by omega, by omega⟩ ?_
  rintro r9 n9 M9 ⟨hr9, hn9, hM9⟩
  subst hr9
  rw [hn9, hM9]
  clear hn9 hM9 n9 M9
  dsimp only [Option.toList, List.cons_append, List.nil_append]
  refine J.if_eq_b (pc := 9) (tgt := 19) G dX4_relation_9 (by decide) (fun hb => ?_) (fun hb => ?_)
  · exact k0 (fun h => of_decide_eq_false hb h.1)
  · have hl : 0 ≤ u ∧ u < 8 := of_decide_eq_true hb
    refine J.iload_n (pc := 12) G dX4_relation_12 rfl ?_
    refine J.callS (pc := 13) (na := 1) G (m_isLabel n M hv) q743 q744 q745 q5 (by decide +kernel) dX4_relation_13 rfl (Nat.le_of_ble_eq_true rfl) rfl ⟨by omega, by decide, by omega, by omega⟩ ?_
    rintro r9 n9 M9 ⟨hr9, hn9, hM9⟩
    subst hr9
    rw [hn9, hM9]
    clear hn9 hM9 n9 M9
    dsimp only [Option.toList, List.cons_append, List.nil_append]
    refine J.if_ne_b (pc := 16) (tgt := 25) G dX4_relation_16 (by decide) (fun hb2 => ?_) (fun hb2 => ?_)
    · have hl2 : 0 ≤ v ∧ v < 8 := of_decide_eq_true hb2
      have eu : ((u.toNat : Nat) : Int) = u := by omega
      have ev : ((v.toNat : Nat) : Int) = v := by omega
      clear k0 hb hb2
      generalize u.toNat = u1 at hO eu
      generalize v.toNat = v1 at hO ev
      subst eu; subst ev
      obtain ⟨h1, h3, h7, hbu, htx, hln, htm⟩ := id hok
      have c1 := coF_le (tx := R 4) (u := u1) (v := v1) htm hln h3
      have c2 := coF_le (tx := R 4) (u := v1) (v := u1) htm hln h3
      have K53 : ∀ x y : Nat, x + y = relM R Z u1 v1 → J g 0 0 n M [some (.ref a), some (.int (iI (u1 : Int))), some (.int (iI (v1 : Int)))] 53 [.int (iI (y : Int)), .int (iI (x : Int))] := by
        intro x y hxy
        refine J.iaddN (pc := 53) G dX4_relation_53 ?_
        exact J.iret (pc := 54) G hO dX4_relation_54 (by decide) (by decide) (Or.inl ⟨⟨hl, hl2⟩, by rw [hxy], rfl, hM, hFr0⟩)
      have K39 : ∀ x : Nat, x = (if 0 < coF (R 2) (R 3) (R 4) u1 v1 (Z 3) then 1 else 0) → J g 0 0 n M [some (.ref a), some (.int (iI (u1 : Int))), some (.int (iI (v1 : Int)))] 39 [.int (iI (x : Int))] := by
        intro x hx
        refine J.aload_n (pc := 39) G dX4_relation_39 rfl ?_
        refine J.iload_n (pc := 40) G dX4_relation_40 rfl ?_
        refine J.iload_n (pc := 41) G dX4_relation_41 rfl ?_
        refine J.callV (pc := 42) (na := 2) G (m_countOf n M (u := v1) (v := u1) hM hok (by omega) (by omega)) q789 q791 qp41 q792 q5 (by decide +kernel) dX4_relation_42 (hM.at 0 rfl) rfl rfl (Nat.le_of_ble_eq_true rfl) rfl ⟨by omega, by decide, by omega, by omega⟩ ?_
        rintro r9 n9 M9 ⟨hr9, hn9, hM9⟩
        subst hr9
        rw [hn9, hM9]
        clear hn9 hM9 n9 M9
        dsimp only [Option.toList, List.cons_append, List.nil_append]
        rw [show upN Z 0 0 3 = Z 3 from rfl]
        refine J.if_le (pc := 45) (tgt := 52) G dX4_relation_45 (by decide) (by omega) (by omega) (fun h => ?_) (fun h => ?_)
        · refine J.iconstN (pc := 52) G dX4_relation_52 0 rfl ?_
          exact K53 x 0 (by unfold relM; rw [← hx, if_neg (show ¬ 0 < coF (R 2) (R 3) (R 4) v1 u1 (Z 3) by omega)])
        · refine J.iconstN (pc := 48) G dX4_relation_48 2 rfl ?_
          refine J.goto (pc := 49) (tgt := 53) G dX4_relation_49 (by decide) ?_
          exact K53 x 2 (by unfold relM; rw [← hx, if_pos (show 0 < coF (R 2) (R 3) (R 4) v1 u1 (Z 3) by omega)])
      refine J.aload_n (pc := 25) G dX4_relation_25 rfl ?_
      refine J.iload_n (pc := 26) G dX4_relation_26 rfl ?_
      refine J.iload_n (pc := 27) G dX4_relation_27 rfl ?_
      refine J.callV (pc := 28) (na := 2) G (m_countOf n M (u := u1) (v := v1) hM hok (by omega) (by omega)) q789 q791 qp41 q792 q5 (by decide +kernel) dX4_relation_28 (hM.at 0 rfl) rfl rfl (Nat.le_of_ble_eq_true rfl) rfl ⟨by omega, by decide, by omega, by omega⟩ ?_
      rintro r9 n9 M9 ⟨hr9, hn9, hM9⟩
      subst hr9
      rw [hn9, hM9]
      clear hn9 hM9 n9 M9
      dsimp only [Option.toList, List.cons_append, List.nil_append]
      rw [show upN Z 0 0 3 = Z 3 from rfl]
      refine J.if_le (pc := 31) (tgt := 38) G dX4_relation_31 (by decide) (by omega) (by omega) (fun h => ?_) (fun h => ?_)
      · refine J.iconstN (pc := 38) G dX4_relation_38 0 rfl ?_
        exact K39 0 (by rw [if_neg (show ¬ 0 < coF (R 2) (R 3) (R 4) u1 v1 (Z 3) by omega)])
      · refine J.iconstN (pc := 34) G dX4_relation_34 1 rfl ?_
        refine J.goto (pc := 35) (tgt := 39) G dX4_relation_35 (by decide) ?_
        exact K39 1 (by rw [if_pos (show 0 < coF (R 2) (R 3) (R 4) u1 v1 (Z 3) by omega)])
    · exact k0 (fun h => of_decide_eq_false hb2 h.2)
def lbT (tm tx : Nat → Nat) (t s k : Nat) : Nat := it (fun i s => if 0 < tm t then s ||| 2 ^ tx (12 * t + i) else s) s k
def lbM (tm ln tx : Nat → Nat) (k : Nat) : Nat := it (fun t s => lbT tm tx t s (ln t)) 0 k
set_option maxRecDepth 100000 in
set_option maxHeartbeats 4000000 in
theorem m_labels (n : Nat) (M0 : AH) {a : Nat} {R : Nat → Nat → Nat} {P : Nat → Int} {Z : Nat → Nat} (hM : Cl M0 a (modC a R P Z)) (hok : MdOk R Z) : Fn yX4_labels cX4_labels 4 (some .int) 0 [.ref a] n M0 0 0 (MRead n M0 a R P Z (.int (iI ((lbM (R 2) (R 3) (R 4) (Z 3) : Nat) : Int))) 0) := by
  refine Fn.of (by decide) [some _, none, none, none] rfl rfl (Nat.le_of_ble_eq_true rfl) ?_
  intro g G hin hO
  obtain ⟨h1, h3, h7, hbu, htx, hln, htm⟩ := hok
  have hFr : Fr a (a + 9) M0 M0 := Fr.rf
  generalize hM1 : M0 = M1 at hM hFr
  have z3' : upN Z 0 0 3 = Z 3 := rfl
  refine J.aload_n (pc := 0) G dX4_labels_0 rfl ?_
  refine J.iconstN (pc := 1) G dX4_labels_1 0 rfl ?_
  refine J.putf (pc := 2) (ci := 4) G inX4 rfl tyX4 tyX4_ok nmX4 0 q695 dX4_labels_2 (hM.at 0 rfl) (by decide) (Nat.le_of_ble_eq_true rfl) (Or.inl rfl) (tyX4_ok 0 (by decide)) (by first | rfl | decide +kernel) (by first | rfl | decide +kernel) (fun M hput hag => ?_)
  have hM := modS0 hM hput hag
  have hFr := hFr.put hag (by omega) (by omega)
  clear hput hag
  refine J.iconstN (pc := 5) G dX4_labels_5 0 rfl ?_
  refine J.istore_n (L' := [_, _, _, _]) (pc := 6) G dX4_labels_6 rfl (Nat.le_of_ble_eq_true rfl) rfl ?_
  refine J.iconstN (pc := 7) G dX4_labels_7 0 rfl ?_
  refine J.istore_n (L' := [_, _, _, _]) (pc := 8) G dX4_labels_8 rfl (Nat.le_of_ble_eq_true rfl) rfl ?_
  have hFr0 : Fr a (a + 9) M0 M := hM1 ▸ hFr
  have K1 : ∀ t : Nat, t ≤ Z 3 → ∀ l3, J g 0 0 n M [some (.ref a), some (.int (iI (lbM (R 2) (R 3) (R 4) t : Int))), some (.int (iI (t : Int))), l3] 9 [] := by
    refine loopJ (fun t => Z 3 - t) _ _ ?_
    intro t ht ih l3
    have hstep : lbM (R 2) (R 3) (R 4) (t + 1) = lbT (R 2) (R 4) t (lbM (R 2) (R 3) (R 4) t) (R 3 t) := rfl
    refine J.iload_n (pc := 9) G dX4_labels_9 rfl ?_
    refine J.aload_n (pc := 10) G dX4_labels_10 rfl ?_
    refine J.getf (pc := 11) (ci := 4) G inX4 rfl 3 q698 dX4_labels_11 (hM.at 0 rfl) (by decide) rfl ?_
    rw [z3']
    refine J.icmp_geN (pc := 14) (tgt := 66) G dX4_labels_14 (by decide) (by omega) (by omega) (fun h => ?_) (fun h => ?_)
    · refine J.iload_n (pc := 66) G dX4_labels_66 rfl ?_
      exact J.iret (pc := 67) G hO dX4_labels_67 (by decide) (by decide) ⟨by rw [show t = Z 3 by omega], rfl, hM, hFr0⟩
    · have hl := hln t (by omega)
      have hm := htm t (by omega)
      generalize lbM (R 2) (R 3) (R 4) t = s at hstep ⊢
      refine J.iconstN (pc := 17) G dX4_labels_17 0 rfl ?_
      refine J.istore_n (L' := [_, _, _, _]) (pc := 18) G dX4_labels_18 rfl (Nat.le_of_ble_eq_true rfl) rfl ?_
      have K2 : ∀ j : Nat, j ≤ R 3 t → J g 0 0 n M [some (.ref a), some (.int (iI (lbT (R 2) (R 4) t s j : Int))), some (.int (iI (t : Int))), some (.int (iI (j : Int)))] 19 [] := by
        refine loopJ (fun j => R 3 t - j) _ _ ?_
        intro j hj ih2
        have hs2 : lbT (R 2) (R 4) t s (j + 1) = if 0 < R 2 t then lbT (R 2) (R 4) t s j ||| 2 ^ R 4 (12 * t + j) else lbT (R 2) (R 4) t s j := rfl
        refine J.iload_n (pc := 19) G dX4_labels_19 rfl ?_
        refine J.aload_n (pc := 20) G dX4_labels_20 rfl ?_
        refine J.getf (pc := 21) (ci := 4) G inX4 rfl 5 q700 dX4_labels_21 (hM.at 0 rfl) (by decide) rfl ?_
        refine J.iload_n (pc := 24) G dX4_labels_24 rfl ?_
        refine J.ialdN (pc := 25) G dX4_labels_25 (hM.at 3 rfl) (by omega) (by decide) ?_
        refine J.icmp_geN (pc := 26) (tgt := 60) G dX4_labels_26 (by decide) (by omega) (by omega) (fun h2 => ?_) (fun h2 => ?_)
        · refine J.iincN (L' := [_, _, _, _]) (pc := 60) G dX4_labels_60 1 rfl rfl rfl rfl ?_
          refine J.goto (pc := 63) (tgt := 9) G dX4_labels_63 (by decide) ?_
          have := ih (t + 1) (by omega) (by omega) (some (.int (iI (j : Int))))
          rw [hstep, ← show j = R 3 t by omega] at this
          exact this
        · have e1 := htx (12 * t + j) (by omega)
          have nx : ∀ x : Nat, lbT (R 2) (R 4) t s (j + 1) = x → J g 0 0 n M [some (.ref a), some (.int (iI (x : Int))), some (.int (iI (t : Int))), some (.int (iI (j : Int)))] 54 [] := by
            intro x hx
            refine J.iincN (L' := [_, _, _, _]) (pc := 54) G dX4_labels_54 1 rfl rfl rfl rfl ?_
            refine J.goto (pc := 57) (tgt := 19) G dX4_labels_57 (by decide) ?_
            rw [← hx]
            exact ih2 (j + 1) (by omega) (by omega)
          refine J.aload_n (pc := 29) G dX4_labels_29 rfl ?_
          refine J.getf (pc := 30) (ci := 4) G inX4 rfl 4 q699 dX4_labels_30 (hM.at 0 rfl) (by decide) rfl ?_
          refine J.iload_n (pc := 33) G dX4_labels_33 rfl ?_
          refine J.ialdN (pc := 34) G dX4_labels_34 (hM.at 2 rfl) (by omega) (by decide) ?_
          refine J.if_le (pc := 35) (tgt := 54) G dX4_labels_35 (by decide) (by omega) (by omega) (fun h4 => ?_) (fun h4 => ?_)
          · exact nx _ (by rw [hs2, if_neg (by omega)])
          · refine J.iload_n (pc := 38) G dX4_labels_38 rfl ?_
            refine J.iconstN (pc := 39) G dX4_labels_39 1 rfl ?_
            refine J.aload_n (pc := 40) G dX4_labels_40 rfl ?_
            refine J.getf (pc := 41) (ci := 4) G inX4 rfl 6 q701 dX4_labels_41 (hM.at 0 rfl) (by decide) rfl ?_
            refine J.bipushN (pc := 44) G dX4_labels_44 12 (by decide +kernel) ?_
            refine J.iload_n (pc := 46) G dX4_labels_46 rfl ?_
            refine J.imulN (pc := 47) G dX4_labels_47 ?_
            refine J.iload_n (pc := 48) G dX4_labels_48 rfl ?_
            refine J.iaddN (pc := 49) G dX4_labels_49 ?_
            refine J.ialdN (pc := 50) G dX4_labels_50 (hM.at 4 rfl) (by omega) (by decide) ?_
            refine J.ishl1 (pc := 51) G dX4_labels_51 (by omega) ?_
            refine J.iorN (pc := 52) G dX4_labels_52 ?_
            refine J.istore_n (L' := [_, _, _, _]) (pc := 53) G dX4_labels_53 rfl (Nat.le_of_ble_eq_true rfl) rfl ?_
            exact nx _ (by rw [hs2, if_pos (by omega)])
      exact K2 0 (Nat.zero_le _)
  exact K1 0 (Nat.zero_le _) _
end MOD5
