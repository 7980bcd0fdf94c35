section MOD11
set_option maxRecDepth 100000 in
set_option maxHeartbeats 4000000 in
theorem m_shortest (n : Nat) (M0 : AH) {a : Nat} {v : Int} {R : Nat → Nat → Nat} {P : Nat → Int} {Z : Nat → Nat} {nd : List Nd} {f : Nat → Nat} (hM : Cl M0 a (modC a R P Z)) (h7 : Z 7 ≤ 1) (h8 : Z 8 ≤ 64) (hT : Z 7 = 1 → MdT R P Z nd) (hsh : ShOk nd) (hf : ∀ i, i < nd.length → f i = lbC nd f i) (hfb : ∀ i, i < nd.length → f i ≤ 64) (hv : Rng v) : Fn yX4_shortest cX4_shortest 2 (some .int) 70 [.ref a, .int (iI v)] n M0 0 0 (fun r n' M' => (askC Z v (Z 8) = 0 ∧ MRead n M0 a R P Z (.int (iI ((f v.toNat : Nat) : Int))) 0 r n' M') ∨ (askC Z v (Z 8) ≠ 0 ∧ MRead n M0 a R P Z (.int (iI ((0 : Nat) : Int))) (askC Z v (Z 8)) r n' M')) := by
  refine Fn.of (by decide) [some _, some _] rfl rfl (Nat.le_of_ble_eq_true rfl) ?_
  intro g G hin hO
  refine J.aload_n (pc := 0) G dX4_shortest_0 rfl ?_
  refine J.iload_n (pc := 1) G dX4_shortest_1 rfl ?_
  refine J.aload_n (pc := 2) G dX4_shortest_2 rfl ?_
  refine J.getf (pc := 3) (ci := 4) G inX4 rfl 8 q703 dX4_shortest_3 (hM.at 0 rfl) (by decide) rfl ?_
  refine J.callV (pc := 6) (na := 2) G (m_asks n M0 (v := v) (lim := Z 8) hM h7 hv (by omega)) q889 q891 qp48 q892 q5 (by decide +kernel) dX4_shortest_6 (hM.at 0 rfl) rfl rfl (Nat.le_of_ble_eq_true rfl) rfl ⟨by omega, by decide, by omega, by omega⟩ ?_
  rintro r9 n9 M7 ⟨hr9, hn9, ⟨hM7, hFr7⟩⟩
  subst hr9
  rw [hn9]
  clear hn9 n9
  dsimp only [Option.toList, List.cons_append, List.nil_append]
  refine J.if_eq_b (pc := 9) (tgt := 20) G dX4_shortest_9 (by decide) (fun hb => ?_) (fun hb => ?_)
  · refine J.iconstN (pc := 20) G dX4_shortest_20 0 rfl ?_
    exact J.iret (pc := 21) G hO dX4_shortest_21 (by decide) (by decide) (Or.inr ⟨of_decide_eq_false hb, rfl, rfl, hM7, hFr7⟩)
  · have h0 := of_decide_eq_true hb
    obtain ⟨hs1, hv0, hv8⟩ := askC_ok h0
    have hT := hT hs1
    have h64 := hT.2.1
    rw [hT.1] at hv8
    rw [show v = ((v.toNat : Nat) : Int) by omega]
    have hso := m_shortestOf n M7 hM7 (hT.keep ⟨rfl, rfl, rfl⟩) hsh hf hfb _ v.toNat (by omega) rfl
    refine J.aload_n (pc := 12) G dX4_shortest_12 rfl ?_
    refine J.iload_n (pc := 13) G dX4_shortest_13 rfl ?_
    refine J.callV (pc := 14) (na := 1) G (hso) q921 q923 qp51 q924 q5 (by decide +kernel) dX4_shortest_14 (hM7.at 0 rfl) rfl rfl (Nat.le_of_ble_eq_true rfl) rfl ⟨by omega, by decide, by omega, by omega⟩ ?_
    rintro r9 n9 M9 ⟨hr9, hn9, hM9⟩
    subst hr9
    rw [hn9, hM9]
    clear hn9 hM9 n9 M9
    dsimp only [Option.toList, List.cons_append, List.nil_append]
    refine J.goto (pc := 17) (tgt := 21) G dX4_shortest_17 (by decide) ?_
    exact J.iret (pc := 21) G hO dX4_shortest_21 (by decide) (by decide) (Or.inl ⟨h0, rfl, rfl, h0 ▸ hM7, hFr7⟩)
def mxL (L : Nat → Nat) (k : Nat) : Nat := it (fun i v => max v (L i)) 0 k
theorem mxL_le {L : Nat → Nat} {b : Nat} {k : Nat} (h : ∀ i, i < k → L i ≤ b) : mxL L k ≤ b :=
  it_inv (fun _ v => v ≤ b) k (Nat.zero_le _) (fun i v hi hv => by
    have := h i hi
    show max v (L i) ≤ b
    omega)
set_option maxRecDepth 100000 in
set_option maxHeartbeats 4000000 in
theorem m_height (n : Nat) (M0 : AH) {a : Nat} {R : Nat → Nat → Nat} {P : Nat → Int} {Z : Nat → Nat} {nd : List Nd} {L : Nat → Nat} (hM : Cl M0 a (modC a R P Z)) (h7 : Z 7 ≤ 1) (hT : Z 7 = 1 → MdT R P Z nd) (hL : ∀ i, i < nd.length → L i = if ndP nd i < 0 then 1 else L (ndP nd i).toNat + 1) (hLb : ∀ i, i < nd.length → L i ≤ 64) : Fn yX4_height cX4_height 5 (some .int) 1 [.ref a] n M0 0 0 (fun r n' M' => (Z 7 = 1 ∧ MRead n M0 a R P Z (.int (iI ((mxL L nd.length : Nat) : Int))) 0 r n' M') ∨ (Z 7 = 0 ∧ MRead n M0 a R P Z (.int (iI ((0 : Nat) : Int))) 1 r n' M')) := by
  refine Fn.of (by decide) [some _, none, none, none, none] rfl rfl (Nat.le_of_ble_eq_true rfl) ?_
  intro g G hin hO
  refine J.aload_n (pc := 0) G dX4_height_0 rfl ?_
  refine J.iconstN (pc := 1) G dX4_height_1 0 rfl ?_
  refine J.iconstN (pc := 2) G dX4_height_2 1 rfl ?_
  refine J.callV (pc := 3) (na := 2) G (m_asks n M0 (v := ((0 : Nat) : Int)) (lim := 1) hM h7 ⟨by decide, by decide⟩ (by decide)) q889 q891 qp48 q892 q5 (by decide +kernel) dX4_height_3 (hM.at 0 rfl) rfl rfl (Nat.le_of_ble_eq_true rfl) rfl ⟨by omega, by decide, by omega, by omega⟩ ?_
  rintro r9 n9 M7 ⟨hr9, hn9, ⟨hM7, hFr7⟩⟩
  subst hr9
  rw [hn9]
  clear hn9 n9
  dsimp only [Option.toList, List.cons_append, List.nil_append]
  refine J.if_ne_b (pc := 6) (tgt := 11) G dX4_height_6 (by decide) (fun hb => ?_) (fun hb => ?_)
  · have h0 := of_decide_eq_true hb
    obtain ⟨hs1, -, -⟩ := askC_ok h0
    rw [h0] at hM7
    obtain ⟨g8, g64, gi, gp⟩ := (hT hs1).keep (R' := R) (Z' := upN Z 0 0) ⟨rfl, rfl, rfl⟩
    have hM := hM7
    refine J.iconstN (pc := 11) G dX4_height_11 0 rfl ?_
    refine J.istore_n (L' := [_, _, _, _, _]) (pc := 12) G dX4_height_12 rfl (Nat.le_of_ble_eq_true rfl) rfl ?_
    refine J.iconstN (pc := 13) G dX4_height_13 0 rfl ?_
    refine J.istore_n (L' := [_, _, _, _, _]) (pc := 14) G dX4_height_14 rfl (Nat.le_of_ble_eq_true rfl) rfl ?_
    have K1 : ∀ k : Nat, k ≤ nd.length → ∀ l3 l4, J g 0 0 n M7 [some (.ref a), some (.int (iI (mxL L k : Int))), some (.int (iI (k : Int))), l3, l4] 15 [] := by
      refine loopJ (fun k => nd.length - k) _ _ ?_
      intro k hk ih l3 l4
      have hstep : mxL L (k + 1) = max (mxL L k) (L k) := rfl
      have hmb : mxL L k ≤ 64 := mxL_le (fun i hi => hLb i (by omega))
      refine J.iload_n (pc := 15) G dX4_height_15 rfl ?_
      refine J.aload_n (pc := 16) G dX4_height_16 rfl ?_
      refine J.getf (pc := 17) (ci := 4) G inX4 rfl 8 q703 dX4_height_17 (hM.at 0 rfl) (by decide) rfl ?_
      rw [g8]
      refine J.icmp_geN (pc := 20) (tgt := 61) G dX4_height_20 (by decide) (by omega) (by omega) (fun h => ?_) (fun h => ?_)
      · refine J.iload_n (pc := 61) G dX4_height_61 rfl ?_
        exact J.iret (pc := 62) G hO dX4_height_62 (by decide) (by decide) (Or.inl ⟨hs1, by rw [show k = nd.length by omega], rfl, hM, hFr7⟩)
      · generalize mxL L k = x at hstep hmb ⊢
        have hLk := hLb k h
        refine J.iconstN (pc := 23) G dX4_height_23 0 rfl ?_
        refine J.istore_n (L' := [_, _, _, _, _]) (pc := 24) G dX4_height_24 rfl (Nat.le_of_ble_eq_true rfl) rfl ?_
        refine J.iload_n (pc := 25) G dX4_height_25 rfl ?_
        refine J.istore (L' := [_, _, _, _, _]) (pc := 26) G dX4_height_26 rfl (Nat.le_of_ble_eq_true rfl) rfl ?_
        have K2 : ∀ q : Int × Nat, (-1 ≤ q.1 ∧ q.1 < (nd.length : Int) ∧ q.2 + (if q.1 < 0 then 0 else L q.1.toNat) = L k) → J g 0 0 n M7 [some (.ref a), some (.int (iI (x : Int))), some (.int (iI (k : Int))), some (.int (iI (q.2 : Int))), some (.int (iI q.1))] 28 [] := by
          refine loopJ (fun q => (q.1 + 1).toNat) _ _ ?_
          rintro ⟨p, up⟩ ⟨hp1, hp2, hup⟩ ih2
          dsimp only at hp1 hp2 hup ih2 ⊢
          refine J.iload (pc := 28) G dX4_height_28 rfl ?_
          refine J.iconst (pc := 30) G dX4_height_30 ?_
          refine J.icmp_eq (pc := 31) (tgt := 49) G dX4_height_31 (by decide) (by omega) (by omega) (by omega) (by omega) (fun h2 => ?_) (fun h2 => ?_)
          · rw [if_pos (by omega)] at hup
            refine J.iload_n (pc := 49) G dX4_height_49 rfl ?_
            refine J.iload_n (pc := 50) G dX4_height_50 rfl ?_
            refine J.mmax (pc := 51) G q874 dX4_height_51 (by decide) (Nat.le_of_ble_eq_true rfl) rfl (by decide) (by decide) (by omega) (by omega) ?_
            refine J.istore_n (L' := [_, _, _, _, _]) (pc := 54) G dX4_height_54 rfl (Nat.le_of_ble_eq_true rfl) rfl ?_
            refine J.iincN (L' := [_, _, _, _, _]) (pc := 55) G dX4_height_55 1 rfl rfl rfl rfl ?_
            refine J.goto (pc := 58) (tgt := 15) G dX4_height_58 (by decide) ?_
            have := ih (k + 1) (by omega) (by omega) (some (.int (iI (up : Int)))) (some (.int (iI p)))
            rw [hstep, ← hup, Nat.add_zero] at this
            exact this
          · have ep : ((p.toNat : Nat) : Int) = p := by omega
            rw [if_neg (by omega), hL p.toNat (by omega)] at hup
            have hPp := (gi p.toNat (by omega)).2.1
            have hPb := gp p.toNat (by omega)
            generalize p.toNat = p1 at hup ep hPp hPb
            subst ep
            refine J.iincN (L' := [_, _, _, _, _]) (pc := 34) G dX4_height_34 1 rfl rfl rfl rfl ?_
            refine J.aload_n (pc := 37) G dX4_height_37 rfl ?_
            refine J.getf (pc := 38) (ci := 4) G inX4 rfl 10 q705 dX4_height_38 (hM.at 0 rfl) (by decide) rfl ?_
            refine J.iload (pc := 41) G dX4_height_41 rfl ?_
            refine J.iald (pc := 43) G dX4_height_43 (hM.at 6 rfl) p1 rfl (by omega) (by decide) ?_
            rw [hPp]
            refine J.istore (L' := [_, _, _, _, _]) (pc := 44) G dX4_height_44 rfl (Nat.le_of_ble_eq_true rfl) rfl ?_
            refine J.goto (pc := 46) (tgt := 28) G dX4_height_46 (by decide) ?_
            refine ih2 (ndP nd p1, up + 1) ⟨hPb.1, by dsimp only; omega, ?_⟩ (by dsimp only; omega)
            dsimp only
            rw [← hup]
            split <;> omega
        exact K2 ((k : Int), 0) ⟨by dsimp only; omega, by dsimp only; omega, by dsimp only; rw [if_neg (by omega), show ((k : Int)).toNat = k from Int.toNat_natCast k, Nat.zero_add]⟩
    exact K1 0 (Nat.zero_le _) _ _
  · have h0 := of_decide_eq_false hb
    have hz : Z 7 = 0 := by
      rcases (show Z 7 = 0 ∨ Z 7 = 1 by omega) with q | q
      · exact q
      · exact absurd (by unfold askC; rw [if_pos q, if_pos ⟨by decide, by decide⟩]) h0
    rw [show askC Z ((0 : Nat) : Int) 1 = 1 by unfold askC; rw [if_neg (by omega)]] at hM7
    refine J.iconstN (pc := 9) G dX4_height_9 0 rfl ?_
    exact J.iret (pc := 10) G hO dX4_height_10 (by decide) (by decide) (Or.inr ⟨hz, rfl, rfl, hM7, hFr7⟩)
end MOD11
