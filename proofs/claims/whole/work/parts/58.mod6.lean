section MOD6
def edS (tm ln tx : Nat → Nat) (e : Bool) (t s : Nat) : Nat := if 0 < tm t then (if 0 < ln t then s ||| 2 ^ tx (12 * t + (if e then ln t - 1 else 0)) else s) else s
def edM (tm ln tx : Nat → Nat) (e : Bool) (k : Nat) : Nat := it (edS tm ln tx e) 0 k
set_option maxRecDepth 100000 in
set_option maxHeartbeats 4000000 in
theorem m_edges (n : Nat) (M0 : AH) {a : Nat} {e : Bool} {R : Nat → Nat → Nat} {P : Nat → Int} {Z : Nat → Nat} (hM : Cl M0 a (modC a R P Z)) (hok : MdOk R Z) : Fn yX4_edges cX4_edges 4 (some .int) 0 [.ref a, .int (bI e)] n M0 0 0 (MRead n M0 a R P Z (.int (iI ((edM (R 2) (R 3) (R 4) e (Z 3) : Nat) : Int))) 0) := by
  refine Fn.of (by decide) [some _, some _, none, none] rfl rfl (Nat.le_of_ble_eq_true rfl) ?_
  intro g G hin hO
  obtain ⟨h1, h3, h7, hbu, htx, hln, htm⟩ := hok
  have hFr : Fr a (a + 9) M0 M0 := Fr.rf
  generalize hM1 : M0 = M1 at hM hFr
  have z3' : upN Z 0 0 3 = Z 3 := rfl
  refine J.aload_n (pc := 0) G dX4_edges_0 rfl ?_
  refine J.iconstN (pc := 1) G dX4_edges_1 0 rfl ?_
  refine J.putf (pc := 2) (ci := 4) G inX4 rfl tyX4 tyX4_ok nmX4 0 q695 dX4_edges_2 (hM.at 0 rfl) (by decide) (Nat.le_of_ble_eq_true rfl) (Or.inl rfl) (tyX4_ok 0 (by decide)) (by first | rfl | decide +kernel) (by first | rfl | decide +kernel) (fun M hput hag => ?_)
  have hM := modS0 hM hput hag
  have hFr := hFr.put hag (by omega) (by omega)
  clear hput hag
  refine J.iconstN (pc := 5) G dX4_edges_5 0 rfl ?_
  refine J.istore_n (L' := [_, _, _, _]) (pc := 6) G dX4_edges_6 rfl (Nat.le_of_ble_eq_true rfl) rfl ?_
  refine J.iconstN (pc := 7) G dX4_edges_7 0 rfl ?_
  refine J.istore_n (L' := [_, _, _, _]) (pc := 8) G dX4_edges_8 rfl (Nat.le_of_ble_eq_true rfl) rfl ?_
  have hFr0 : Fr a (a + 9) M0 M := hM1 ▸ hFr
  have K1 : ∀ t : Nat, t ≤ Z 3 → J g 0 0 n M [some (.ref a), some (.int (bI e)), some (.int (iI (edM (R 2) (R 3) (R 4) e t : Int))), some (.int (iI (t : Int)))] 9 [] := by
    refine loopJ (fun t => Z 3 - t) _ _ ?_
    intro t ht ih
    have hstep : edM (R 2) (R 3) (R 4) e (t + 1) = edS (R 2) (R 3) (R 4) e t (edM (R 2) (R 3) (R 4) e t) := rfl
    refine J.iload_n (pc := 9) G dX4_edges_9 rfl ?_
    refine J.aload_n (pc := 10) G dX4_edges_10 rfl ?_
    refine J.getf (pc := 11) (ci := 4) G inX4 rfl 3 q698 dX4_edges_11 (hM.at 0 rfl) (by decide) rfl ?_
    rw [z3']
    refine J.icmp_geN (pc := 14) (tgt := 72) G dX4_edges_14 (by decide) (by omega) (by omega) (fun h => ?_) (fun h => ?_)
    · refine J.iload_n (pc := 72) G dX4_edges_72 rfl ?_
      exact J.iret (pc := 73) G hO dX4_edges_73 (by decide) (by decide) ⟨by rw [show t = Z 3 by omega], rfl, hM, hFr0⟩
    · have hl := hln t (by omega)
      have hm := htm t (by omega)
      generalize edM (R 2) (R 3) (R 4) e t = s at hstep ⊢
      unfold edS at hstep
      have nx : ∀ x : Nat, edM (R 2) (R 3) (R 4) e (t + 1) = x → J g 0 0 n M [some (.ref a), some (.int (bI e)), some (.int (iI (x : Int))), some (.int (iI (t : Int)))] 66 [] := by
        intro x hx
        refine J.iincN (L' := [_, _, _, _]) (pc := 66) G dX4_edges_66 1 rfl rfl rfl rfl ?_
        refine J.goto (pc := 69) (tgt := 9) G dX4_edges_69 (by decide) ?_
        rw [← hx]
        exact ih (t + 1) (by omega) (by omega)
      refine J.aload_n (pc := 17) G dX4_edges_17 rfl ?_
      refine J.getf (pc := 18) (ci := 4) G inX4 rfl 4 q699 dX4_edges_18 (hM.at 0 rfl) (by decide) rfl ?_
      refine J.iload_n (pc := 21) G dX4_edges_21 rfl ?_
      refine J.ialdN (pc := 22) G dX4_edges_22 (hM.at 2 rfl) (by omega) (by decide) ?_
      refine J.if_le (pc := 23) (tgt := 66) G dX4_edges_23 (by decide) (by omega) (by omega) (fun h4 => ?_) (fun h4 => ?_)
      · exact nx _ (by rw [hstep, if_neg (by omega)])
      · rw [if_pos (show 0 < R 2 t by omega)] at hstep
        refine J.aload_n (pc := 26) G dX4_edges_26 rfl ?_
        refine J.getf (pc := 27) (ci := 4) G inX4 rfl 5 q700 dX4_edges_27 (hM.at 0 rfl) (by decide) rfl ?_
        refine J.iload_n (pc := 30) G dX4_edges_30 rfl ?_
        refine J.ialdN (pc := 31) G dX4_edges_31 (hM.at 3 rfl) (by omega) (by decide) ?_
        refine J.if_le (pc := 32) (tgt := 66) G dX4_edges_32 (by decide) (by omega) (by omega) (fun h5 => ?_) (fun h5 => ?_)
        · exact nx _ (by rw [hstep, if_neg (by omega)])
        · rw [if_pos (show 0 < R 3 t by omega)] at hstep
          have K61 : ∀ y : Nat, y = (if e then R 3 t - 1 else 0) → J g 0 0 n M [some (.ref a), some (.int (bI e)), some (.int (iI (s : Int))), some (.int (iI (t : Int)))] 61 [.int (iI (y : Int)), .int (iI ((12 * t : Nat) : Int)), .ref (a + 4), .int (iI ((1 : Nat) : Int)), .int (iI (s : Int))] := by
            intro y hy
            have hy12 : y < 12 := by rw [hy]; split <;> omega
            have e1 := htx (12 * t + y) (by omega)
            refine J.iaddN (pc := 61) G dX4_edges_61 ?_
            refine J.ialdN (pc := 62) G dX4_edges_62 (hM.at 4 rfl) (by omega) (by decide) ?_
            refine J.ishl1 (pc := 63) G dX4_edges_63 (by omega) ?_
            refine J.iorN (pc := 64) G dX4_edges_64 ?_
            refine J.istore_n (L' := [_, _, _, _]) (pc := 65) G dX4_edges_65 rfl (Nat.le_of_ble_eq_true rfl) rfl ?_
            exact nx _ (by rw [hstep, ← hy])
          refine J.iload_n (pc := 35) G dX4_edges_35 rfl ?_
          refine J.iconstN (pc := 36) G dX4_edges_36 1 rfl ?_
          refine J.aload_n (pc := 37) G dX4_edges_37 rfl ?_
          refine J.getf (pc := 38) (ci := 4) G inX4 rfl 6 q701 dX4_edges_38 (hM.at 0 rfl) (by decide) rfl ?_
          refine J.bipushN (pc := 41) G dX4_edges_41 12 (by decide +kernel) ?_
          refine J.iload_n (pc := 43) G dX4_edges_43 rfl ?_
          refine J.imulN (pc := 44) G dX4_edges_44 ?_
          refine J.iload_n (pc := 45) G dX4_edges_45 rfl ?_
          refine J.if_eq_b (pc := 46) (tgt := 60) G dX4_edges_46 (by decide) (fun hb => ?_) (fun hb => ?_)
          · refine J.iconstN (pc := 60) G dX4_edges_60 0 rfl ?_
            exact K61 0 (by rw [hb]; rfl)
          · refine J.aload_n (pc := 49) G dX4_edges_49 rfl ?_
            refine J.getf (pc := 50) (ci := 4) G inX4 rfl 5 q700 dX4_edges_50 (hM.at 0 rfl) (by decide) rfl ?_
            refine J.iload_n (pc := 53) G dX4_edges_53 rfl ?_
            refine J.ialdN (pc := 54) G dX4_edges_54 (hM.at 3 rfl) (by omega) (by decide) ?_
            refine J.iconstN (pc := 55) G dX4_edges_55 1 rfl ?_
            refine J.isubN (pc := 56) G dX4_edges_56 (by omega) ?_
            refine J.goto (pc := 57) (tgt := 61) G dX4_edges_57 (by decide) ?_
            exact K61 (R 3 t - 1) (by rw [hb]; rfl)
  exact K1 0 (Nat.zero_le _)
def ld1 (c : Nat → Nat → Nat) (u k : Nat) : Nat := it (fun l s => if 0 < c u l then s ||| 2 ^ l else s) 0 k
def ld2 (c : Nat → Nat → Nat) (s k m : Nat) : Nat := it (fun l s => if s.testBit k then (if 0 < c k l then s ||| 2 ^ l else s) else s) s m
def ld3 (c : Nat → Nat → Nat) (s m : Nat) : Nat := it (fun k s => ld2 c s k 8) s m
def ld4 (c : Nat → Nat → Nat) (s m : Nat) : Nat := it (fun _ s => ld3 c s 8) s m
theorem or8 {s l : Nat} (h : s < 256) (hl : l < 8) : s ||| 2 ^ l < 256 := Nat.or_lt_two_pow (n := 8) h (Nat.pow_lt_pow_right (a := 2) (n := 8) (by omega) hl)
theorem ld1_lt {c : Nat → Nat → Nat} {u k : Nat} (hk : k ≤ 8) : ld1 c u k < 256 :=
  it_inv (fun _ s => s < 256) k (by decide) (fun l s hl hs => by
    try dsimp only
    split
    · exact or8 hs (by omega)
    · exact hs)
theorem ld2_lt {c : Nat → Nat → Nat} {s k m : Nat} (hs : s < 256) (hm : m ≤ 8) : ld2 c s k m < 256 :=
  it_inv (fun _ s => s < 256) m hs (fun l s hl hs => by
    try dsimp only
    split
    · split
      · exact or8 hs (by omega)
      · exact hs
    · exact hs)
theorem ld3_lt {c : Nat → Nat → Nat} {s m : Nat} (hs : s < 256) : ld3 c s m < 256 := it_inv (fun _ s => s < 256) m hs (fun k s hk hs => ld2_lt hs (by decide))
theorem ld4_lt {c : Nat → Nat → Nat} {s m : Nat} (hs : s < 256) : ld4 c s m < 256 := it_inv (fun _ s => s < 256) m hs (fun k s hk hs => ld3_lt hs)
set_option maxRecDepth 100000 in
set_option maxHeartbeats 4000000 in
theorem m_leads (n : Nat) (M0 : AH) {a : Nat} {u v : Int} {R : Nat → Nat → Nat} {P : Nat → Int} {Z : Nat → Nat} (hM : Cl M0 a (modC a R P Z)) (hok : MdOk R Z) (hu : Rng u) (hv : Rng v) : Fn yX4_leads cX4_leads 7 (some .boolean) 1 [.ref a, .int (iI u), .int (iI v)] n M0 0 0 (fun r n' M' => (((0 ≤ u ∧ u < 8) ∧ 0 ≤ v ∧ v < 8) ∧ MRead n M0 a R P Z (.int (bI ((ld4 (fun k l => coF (R 2) (R 3) (R 4) k l (Z 3)) (ld1 (fun k l => coF (R 2) (R 3) (R 4) k l (Z 3)) u.toNat 8) 8).testBit v.toNat))) 0 r n' M') ∨ (¬ ((0 ≤ u ∧ u < 8) ∧ 0 ≤ v ∧ v < 8) ∧ MRead n M0 a R P Z (.int (bI false)) 1 r n' M')) := by
  refine Fn.of (by decide) [some _, some _, some _, none, none, none, none] rfl rfl (Nat.le_of_ble_eq_true rfl) ?_
  intro g G hin hO
  obtain ⟨h1, h3, h7, hbu, htx, hln, htm⟩ := id hok
  have hFr : Fr a (a + 9) M0 M0 := Fr.rf
  generalize hM1 : M0 = M1 at hM hFr
  have hcle : ∀ k l, coF (R 2) (R 3) (R 4) k l (Z 3) ≤ 1188 * Z 3 := fun k l => coF_le htm hln h3
  generalize hc : (fun k l => coF (R 2) (R 3) (R 4) k l (Z 3)) = c at hO
  have hcv : ∀ k l, c k l = coF (R 2) (R 3) (R 4) k l (Z 3) := fun k l => by rw [← hc]
  have k1 : ¬ ((0 ≤ u ∧ u < 8) ∧ 0 ≤ v ∧ v < 8) → J g 0 0 n M1 [some (.ref a), some (.int (iI u)), some (.int (iI v)), none, none, none, none] 19 [.ref a] := by
    intro h
    refine J.iconstN (pc := 19) G dX4_leads_19 1 rfl ?_
    refine J.putf (pc := 20) (ci := 4) G inX4 rfl tyX4 tyX4_ok nmX4 0 q695 dX4_leads_20 (hM.at 0 rfl) (by decide) (Nat.le_of_ble_eq_true rfl) (Or.inl rfl) (tyX4_ok 0 (by decide)) (by first | rfl | decide +kernel) (by first | rfl | decide +kernel) (fun M hput hag => ?_)
    have hM := modS0 hM hput hag
    have hFr := hFr.put hag (by omega) (by omega)
    clear hput hag
    refine J.aload_n (pc := 23) G dX4_leads_23 rfl ?_
    refine J.getf (pc := 24) (ci := 4) G inX4 rfl 0 q695 dX4_leads_24 (hM.at 0 rfl) (by decide) rfl ?_
    refine J.topv (b := iI ((1 : Nat) : Int)) rfl ?_
    refine J.if_eqN (pc := 27) (tgt := 32) G dX4_leads_27 (by decide) (by omega) (fun h9 => ?_) (fun h9 => ?_)
    · omega
    · refine J.iconstN (pc := 30) G dX4_leads_30 0 rfl ?_
      exact J.zret0 (pc := 31) G hO dX4_leads_31 (by decide) (by decide) (Or.inr ⟨h, rfl, rfl, hM, hM1 ▸ hFr⟩)
  refine J.aload_n (pc := 0) G dX4_leads_0 rfl ?_
  refine J.iload_n (pc := 1) G dX4_leads_1 rfl ?_
  refine J.callS (pc := 2) (na := 1) G (m_isLabel n M1 hu) q743 q744 q745 q5 (by decide +kernel) dX4_leads_2 rfl (Nat.le_of_ble_eq_true rfl) rfl ⟨by omega, by decide, by omega, by omega⟩ ?_
  rintro r9 n9 M9 ⟨hr9, hn9, hM9⟩
  subst hr9
  rw [hn9, hM9]
  clear hn9 hM9 n9 M9
  dsimp only [Option.toList, List.cons_append, List.nil_append]
  refine J.if_eq_b (pc := 5) (tgt := 19) G dX4_leads_5 (by decide) (fun hb => ?_) (fun hb => ?_)
  · exact k1 (fun h => of_decide_eq_false hb h.1)
  have hl : 0 ≤ u ∧ u < 8 := of_decide_eq_true hb
  refine J.iload_n (pc := 8) G dX4_leads_8 rfl ?_
  refine J.callS (pc := 9) (na := 1) G (m_isLabel n M1 hv) q743 q744 q745 q5 (by decide +kernel) dX4_leads_9 rfl (Nat.le_of_ble_eq_true rfl) rfl ⟨by omega, by decide, by omega, by omega⟩ ?_
  rintro r9 n9 M9 ⟨hr9, hn9, hM9⟩
  subst hr9
  rw [hn9, hM9]
  clear hn9 hM9 n9 M9
  dsimp only [Option.toList, List.cons_append, List.nil_append]
  refine J.if_eq_b (pc := 12) (tgt := 19) G dX4_leads_12 (by decide) (fun hb2 => ?_) (fun hb2 => ?_)
  · exact k1 (fun h => of_decide_eq_false hb2 h.2)
  have hl2 : 0 ≤ v ∧ v < 8 := of_decide_eq_true hb2
  clear k1
  refine J.iconstN (pc := 15) G dX4_leads_15 0 rfl ?_
  refine J.goto (pc := 16) (tgt := 20) G dX4_leads_16 (by decide) ?_
  have eu : ((u.toNat : Nat) : Int) = u := by omega
  have ev : ((v.toNat : Nat) : Int) = v := by omega
  clear hb hb2
  generalize u.toNat = u1 at hO eu
  generalize v.toNat = v1 at hO ev
  subst eu; subst ev
  refine J.putf (pc := 20) (ci := 4) G inX4 rfl tyX4 tyX4_ok nmX4 0 q695 dX4_leads_20 (hM.at 0 rfl) (by decide) (Nat.le_of_ble_eq_true rfl) (Or.inl rfl) (tyX4_ok 0 (by decide)) (by first | rfl | decide +kernel) (by first | rfl | decide +kernel) (fun M hput hag => ?_)
  have hM := modS0 hM hput hag
  have hFr := hFr.put hag (by omega) (by omega)
  clear hput hag
  refine J.aload_n (pc := 23) G dX4_leads_23 rfl ?_
  refine J.getf (pc := 24) (ci := 4) G inX4 rfl 0 q695 dX4_leads_24 (hM.at 0 rfl) (by decide) rfl ?_
  have hFr0 : Fr a (a + 9) M0 M := hM1 ▸ hFr
  have hok2 : MdOk R (upN Z 0 0) := hok
  refine J.topv (b := iI ((0 : Nat) : Int)) rfl ?_
  refine J.if_eqN (pc := 27) (tgt := 32) G dX4_leads_27 (by decide) (by omega) (fun _ => ?_) (fun h => by omega)
  refine J.iconstN (pc := 32) G dX4_leads_32 0 rfl ?_
  refine J.istore_n (L' := [_, _, _, _, _, _, _]) (pc := 33) G dX4_leads_33 rfl (Nat.le_of_ble_eq_true rfl) rfl ?_
  refine J.iconstN (pc := 34) G dX4_leads_34 0 rfl ?_
  refine J.istore (L' := [_, _, _, _, _, _, _]) (pc := 35) G dX4_leads_35 rfl (Nat.le_of_ble_eq_true rfl) rfl ?_
  have K2 : ∀ r : Nat, r ≤ 8 → ∀ l5 l6, J g 0 0 n M [some (.ref a), some (.int (iI (u1 : Int))), some (.int (iI (v1 : Int))), some (.int (iI (ld4 c (ld1 c u1 8) r : Int))), some (.int (iI (r : Int))), l5, l6] 70 [] := by
    refine loopJ (fun r => 8 - r) _ _ ?_
    intro r hr ih l5 l6
    have hr4 : ld4 c (ld1 c u1 8) r < 256 := ld4_lt (ld1_lt (by decide))
    have hstep : ld4 c (ld1 c u1 8) (r + 1) = ld3 c (ld4 c (ld1 c u1 8) r) 8 := rfl
    refine J.iload (pc := 70) G dX4_leads_70 rfl ?_
    refine J.bipushN (pc := 72) G dX4_leads_72 8 (by decide +kernel) ?_
    refine J.icmp_geN (pc := 74) (tgt := 142) G dX4_leads_74 (by decide) (by omega) (by omega) (fun h => ?_) (fun h => ?_)
    · rw [show r = 8 by omega] at hr4 ⊢
      refine J.iload_n (pc := 142) G dX4_leads_142 rfl ?_
      refine J.iload_n (pc := 143) G dX4_leads_143 rfl ?_
      refine J.callS (pc := 144) (na := 2) G (m_has n M (by omega) (by omega)) q805 q806 q807 q5 (by decide +kernel) dX4_leads_144 rfl (Nat.le_of_ble_eq_true rfl) rfl ⟨by omega, by decide, by omega, by omega⟩ ?_
      rintro r9 n9 M9 ⟨hr9, hn9, hM9⟩
      subst hr9
      rw [hn9, hM9]
      clear hn9 hM9 n9 M9
      dsimp only [Option.toList, List.cons_append, List.nil_append]
      exact J.zret (pc := 147) G hO dX4_leads_147 (by decide) (by decide) (Or.inl ⟨⟨hl, hl2⟩, rfl, rfl, hM, hFr0⟩)
    · generalize ld4 c (ld1 c u1 8) r = s at hr4 hstep ⊢
      refine J.iconstN (pc := 77) G dX4_leads_77 0 rfl ?_
      refine J.istore (L' := [_, _, _, _, _, _, _]) (pc := 78) G dX4_leads_78 rfl (Nat.le_of_ble_eq_true rfl) rfl ?_
      have K3 : ∀ k : Nat, k ≤ 8 → ∀ l6, J g 0 0 n M [some (.ref a), some (.int (iI (u1 : Int))), some (.int (iI (v1 : Int))), some (.int (iI (ld3 c s k : Int))), some (.int (iI (r : Int))), some (.int (iI (k : Int))), l6] 80 [] := by
        refine loopJ (fun k => 8 - k) _ _ ?_
        intro k hk ih3 l6
        have hs3 : ld3 c s k < 256 := ld3_lt hr4
        have hstep3 : ld3 c s (k + 1) = ld2 c (ld3 c s k) k 8 := rfl
        refine J.iload (pc := 80) G dX4_leads_80 rfl ?_
        refine J.bipushN (pc := 82) G dX4_leads_82 8 (by decide +kernel) ?_
        refine J.icmp_geN (pc := 84) (tgt := 136) G dX4_leads_84 (by decide) (by omega) (by omega) (fun h => ?_) (fun h => ?_)
        · rw [show k = 8 by omega, ← hstep]
          refine J.iincN (L' := [_, _, _, _, _, _, _]) (pc := 136) G dX4_leads_136 1 rfl rfl rfl rfl ?_
          refine J.goto (pc := 139) (tgt := 70) G dX4_leads_139 (by decide) ?_
          exact ih (r + 1) (by omega) (by omega) _ _
        · generalize ld3 c s k = s3 at hs3 hstep3 ⊢
          refine J.iconstN (pc := 87) G dX4_leads_87 0 rfl ?_
          refine J.istore (L' := [_, _, _, _, _, _, _]) (pc := 88) G dX4_leads_88 rfl (Nat.le_of_ble_eq_true rfl) rfl ?_
          have K4 : ∀ l : Nat, l ≤ 8 → J g 0 0 n M [some (.ref a), some (.int (iI (u1 : Int))), some (.int (iI (v1 : Int))), some (.int (iI (ld2 c s3 k l : Int))), some (.int (iI (r : Int))), some (.int (iI (k : Int))), some (.int (iI (l : Int)))] 90 [] := by
            refine loopJ (fun l => 8 - l) _ _ ?_
            intro l hl9 ih4
            have hs4 : ld2 c s3 k l < 256 := ld2_lt hs3 hl9
            have hstep4 : ld2 c s3 k (l + 1) = if (ld2 c s3 k l).testBit k then (if 0 < c k l then ld2 c s3 k l ||| 2 ^ l else ld2 c s3 k l) else ld2 c s3 k l := rfl
            refine J.iload (pc := 90) G dX4_leads_90 rfl ?_
            refine J.bipushN (pc := 92) G dX4_leads_92 8 (by decide +kernel) ?_
            refine J.icmp_geN (pc := 94) (tgt := 130) G dX4_leads_94 (by decide) (by omega) (by omega) (fun h => ?_) (fun h => ?_)
            · rw [show l = 8 by omega, ← hstep3]
              refine J.iincN (L' := [_, _, _, _, _, _, _]) (pc := 130) G dX4_leads_130 1 rfl rfl rfl rfl ?_
              refine J.goto (pc := 133) (tgt := 80) G dX4_leads_133 (by decide) ?_
              exact ih3 (k + 1) (by omega) (by omega) _
            · generalize ld2 c s3 k l = s4 at hs4 hstep4 ⊢
              have nx : ∀ x : Nat, ld2 c s3 k (l + 1) = x → J g 0 0 n M [some (.ref a), some (.int (iI (u1 : Int))), some (.int (iI (v1 : Int))), some (.int (iI (x : Int))), some (.int (iI (r : Int))), some (.int (iI (k : Int))), some (.int (iI (l : Int)))] 124 [] := by
                intro x hx
                refine J.iincN (L' := [_, _, _, _, _, _, _]) (pc := 124) G dX4_leads_124 1 rfl rfl rfl rfl ?_
                refine J.goto (pc := 127) (tgt := 90) G dX4_leads_127 (by decide) ?_
                rw [← hx]
                exact ih4 (l + 1) (by omega) (by omega)
              refine J.iload_n (pc := 97) G dX4_leads_97 rfl ?_
              refine J.iload (pc := 98) G dX4_leads_98 rfl ?_
              refine J.callS (pc := 100) (na := 2) G (m_has n M (by omega) (by omega)) q805 q806 q807 q5 (by decide +kernel) dX4_leads_100 rfl (Nat.le_of_ble_eq_true rfl) rfl ⟨by omega, by decide, by omega, by omega⟩ ?_
              rintro r9 n9 M9 ⟨hr9, hn9, hM9⟩
              subst hr9
              rw [hn9, hM9]
              clear hn9 hM9 n9 M9
              dsimp only [Option.toList, List.cons_append, List.nil_append]
              refine J.if_eq_b (pc := 103) (tgt := 124) G dX4_leads_103 (by decide) (fun hb => ?_) (fun hb => ?_)
              · exact nx _ (by rw [hstep4, hb]; rfl)
              · rw [hb, if_pos rfl] at hstep4
                refine J.aload_n (pc := 106) G dX4_leads_106 rfl ?_
                refine J.iload (pc := 107) G dX4_leads_107 rfl ?_
                refine J.iload (pc := 109) G dX4_leads_109 rfl ?_
                refine J.callV (pc := 111) (na := 2) G (m_countOf n M (u := k) (v := l) hM hok2 (by omega) (by omega)) q789 q791 qp41 q792 q5 (by decide +kernel) dX4_leads_111 (hM.at 0 rfl) rfl rfl (Nat.le_of_ble_eq_true rfl) rfl ⟨by omega, by decide, by omega, by omega⟩ ?_
                rintro r9 n9 M9 ⟨hr9, hn9, hM9⟩
                subst hr9
                rw [hn9, hM9]
                clear hn9 hM9 n9 M9
                dsimp only [Option.toList, List.cons_append, List.nil_append]
                rw [show upN Z 0 0 3 = Z 3 from rfl, ← hcv]
                have hcb := hcle k l
                rw [← hcv] at hcb
                refine J.if_le (pc := 114) (tgt := 124) G dX4_leads_114 (by decide) (by omega) (by omega) (fun h => ?_) (fun h => ?_)
                · exact nx _ (by rw [hstep4, if_neg (by omega)])
                · refine J.iload_n (pc := 117) G dX4_leads_117 rfl ?_
                  refine J.iconstN (pc := 118) G dX4_leads_118 1 rfl ?_
                  refine J.iload (pc := 119) G dX4_leads_119 rfl ?_
                  refine J.ishl1 (pc := 121) G dX4_leads_121 (by omega) ?_
                  refine J.iorN (pc := 122) G dX4_leads_122 ?_
                  refine J.istore_n (L' := [_, _, _, _, _, _, _]) (pc := 123) G dX4_leads_123 rfl (Nat.le_of_ble_eq_true rfl) rfl ?_
                  exact nx _ (by rw [hstep4, if_pos (by omega)])
          exact K4 0 (Nat.zero_le _)
      exact K3 0 (Nat.zero_le _) _
  have K1 : ∀ k : Nat, k ≤ 8 → J g 0 0 n M [some (.ref a), some (.int (iI (u1 : Int))), some (.int (iI (v1 : Int))), some (.int (iI (ld1 c u1 k : Int))), some (.int (iI (k : Int))), none, none] 37 [] := by
    refine loopJ (fun k => 8 - k) _ _ ?_
    intro k hk ih
    have hstep : ld1 c u1 (k + 1) = if 0 < c u1 k then ld1 c u1 k ||| 2 ^ k else ld1 c u1 k := rfl
    refine J.iload (pc := 37) G dX4_leads_37 rfl ?_
    refine J.bipushN (pc := 39) G dX4_leads_39 8 (by decide +kernel) ?_
    refine J.icmp_geN (pc := 41) (tgt := 67) G dX4_leads_41 (by decide) (by omega) (by omega) (fun h => ?_) (fun h => ?_)
    · rw [show k = 8 by omega]
      refine J.iconstN (pc := 67) G dX4_leads_67 0 rfl ?_
      refine J.istore (L' := [_, _, _, _, _, _, _]) (pc := 68) G dX4_leads_68 rfl (Nat.le_of_ble_eq_true rfl) rfl ?_
      exact K2 0 (by decide) _ _
    · have nx : ∀ x : Nat, ld1 c u1 (k + 1) = x → J g 0 0 n M [some (.ref a), some (.int (iI (u1 : Int))), some (.int (iI (v1 : Int))), some (.int (iI (x : Int))), some (.int (iI (k : Int))), none, none] 61 [] := by
        intro x hx
        refine J.iincN (L' := [_, _, _, _, _, _, _]) (pc := 61) G dX4_leads_61 1 rfl rfl rfl rfl ?_
        refine J.goto (pc := 64) (tgt := 37) G dX4_leads_64 (by decide) ?_
        rw [← hx]
        exact ih (k + 1) (by omega) (by omega)
      refine J.aload_n (pc := 44) G dX4_leads_44 rfl ?_
      refine J.iload_n (pc := 45) G dX4_leads_45 rfl ?_
      refine J.iload (pc := 46) G dX4_leads_46 rfl ?_
      refine J.callV (pc := 48) (na := 2) G (m_countOf n M (u := u1) (v := k) hM hok2 (by omega) (by omega)) q789 q791 qp41 q792 q5 (by decide +kernel) dX4_leads_48 (hM.at 0 rfl) rfl rfl (Nat.le_of_ble_eq_true rfl) rfl ⟨by omega, by decide, by omega, by omega⟩ ?_
      rintro r9 n9 M9 ⟨hr9, hn9, hM9⟩
      subst hr9
      rw [hn9, hM9]
      clear hn9 hM9 n9 M9
      dsimp only [Option.toList, List.cons_append, List.nil_append]
      rw [show upN Z 0 0 3 = Z 3 from rfl, ← hcv]
      have := hcle u1 k
      rw [← hcv] at this
      refine J.if_le (pc := 51) (tgt := 61) G dX4_leads_51 (by decide) (by omega) (by omega) (fun h => ?_) (fun h => ?_)
      · exact nx _ (by rw [hstep, if_neg (by omega)])
      · refine J.iload_n (pc := 54) G dX4_leads_54 rfl ?_
        refine J.iconstN (pc := 55) G dX4_leads_55 1 rfl ?_
        refine J.iload (pc := 56) G dX4_leads_56 rfl ?_
        refine J.ishl1 (pc := 58) G dX4_leads_58 (by omega) ?_
        refine J.iorN (pc := 59) G dX4_leads_59 ?_
        refine J.istore_n (L' := [_, _, _, _, _, _, _]) (pc := 60) G dX4_leads_60 rfl (Nat.le_of_ble_eq_true rfl) rfl ?_
        exact nx _ (by rw [hstep, if_pos (by omega)])
  exact K1 0 (Nat.zero_le _)
end MOD6
