section MOD8
/-- the model's rows tell the tree nd -/
def MdT (R : Nat → Nat → Nat) (P : Nat → Int) (Z : Nat → Nat) (nd : List Nd) : Prop := Z 8 = nd.length ∧ nd.length ≤ 64 ∧ (∀ i, i < nd.length → R 5 i = ndK nd i ∧ P i = ndP nd i ∧ R 7 i = ndS nd i) ∧ ∀ i, i < nd.length → -1 ≤ ndP nd i ∧ ndP nd i < (i : Int)
theorem MdT.keep {R R' : Nat → Nat → Nat} {P : Nat → Int} {Z Z' : Nat → Nat} {nd : List Nd} (h : MdT R P Z nd) (hk : R' 5 = R 5 ∧ R' 7 = R 7 ∧ Z' 8 = Z 8) : MdT R' P Z' nd := by
  obtain ⟨h1, h2, h3, h4⟩ := h
  obtain ⟨k1, k2, k3⟩ := hk
  exact ⟨k3.trans h1, h2, fun i hi => by rw [k1, k2]; exact h3 i hi, h4⟩
def askC (Z : Nat → Nat) (v : Int) (lim : Nat) : Nat := if Z 7 = 1 then (if 0 ≤ v ∧ v < (lim : Int) then 0 else 2) else 1
set_option maxRecDepth 100000 in
set_option maxHeartbeats 4000000 in
theorem m_asks (n : Nat) (M0 : AH) {a lim : Nat} {v : Int} {R : Nat → Nat → Nat} {P : Nat → Int} {Z : Nat → Nat} (hM : Cl M0 a (modC a R P Z)) (h7 : Z 7 ≤ 1) (hv : Rng v) (hlim : lim < 1000) : Fn yX4_asks cX4_asks 3 (some .boolean) 0 [.ref a, .int (iI v), .int (iI (lim : Int))] n M0 0 0 (MRead n M0 a R P Z (.int (bI (decide (askC Z v lim = 0)))) (askC Z v lim)) := by
  refine Fn.of (by decide) [some _, some _, some _] rfl rfl (Nat.le_of_ble_eq_true rfl) ?_
  intro g G hin hO
  obtain ⟨hv1, hv2⟩ := hv
  have hFr : Fr a (a + 9) M0 M0 := Fr.rf
  generalize hM1 : M0 = M1 at hM hFr
  have K26 : ∀ c : Nat, c = askC Z v lim → c < 3 → J g 0 0 n M1 [some (.ref a), some (.int (iI v)), some (.int (iI (lim : Int)))] 26 [.int (iI (c : Int)), .ref a] := by
    intro c hc hc3
    rw [← hc] at hO
    refine J.putf (pc := 26) (ci := 4) G inX4 rfl tyX4 tyX4_ok nmX4 0 q695 dX4_asks_26 (hM.at 0 rfl) (by decide) (Nat.le_of_ble_eq_true rfl) (Or.inl rfl) (tyX4_ok 0 (by decide)) (by first | rfl | decide +kernel) (by first | rfl | decide +kernel) (fun M hput hag => ?_)
    have hM := modS0 hM hput hag
    have hFr := hFr.put hag (by omega) (by omega)
    clear hput hag
    refine J.aload_n (pc := 29) G dX4_asks_29 rfl ?_
    refine J.getf (pc := 30) (ci := 4) G inX4 rfl 0 q695 dX4_asks_30 (hM.at 0 rfl) (by decide) rfl ?_
    refine J.topv (b := iI (c : Int)) rfl ?_
    refine J.if_neN (pc := 33) (tgt := 40) G dX4_asks_33 (by decide) (by omega) (fun h => ?_) (fun h => ?_)
    · refine J.iconstN (pc := 40) G dX4_asks_40 0 rfl ?_
      exact J.zret0 (pc := 41) G hO dX4_asks_41 (by decide) (by decide) ⟨by rw [decide_eq_false (by omega)], rfl, hM, hM1 ▸ hFr⟩
    · refine J.iconstN (pc := 36) G dX4_asks_36 1 rfl ?_
      refine J.goto (pc := 37) (tgt := 41) G dX4_asks_37 (by decide) ?_
      exact J.zret1 (pc := 41) G hO dX4_asks_41 (by decide) (by decide) ⟨by rw [decide_eq_true (by omega)], rfl, hM, hM1 ▸ hFr⟩
  have K21 : Z 7 = 1 → ¬ (0 ≤ v ∧ v < (lim : Int)) → J g 0 0 n M1 [some (.ref a), some (.int (iI v)), some (.int (iI (lim : Int)))] 21 [.ref a] := by
    intro h1 h2
    refine J.iconstN (pc := 21) G dX4_asks_21 2 rfl ?_
    refine J.goto (pc := 22) (tgt := 26) G dX4_asks_22 (by decide) ?_
    exact K26 2 (by unfold askC; rw [if_pos h1, if_neg h2]) (by decide)
  refine J.aload_n (pc := 0) G dX4_asks_0 rfl ?_
  refine J.aload_n (pc := 1) G dX4_asks_1 rfl ?_
  refine J.getf (pc := 2) (ci := 4) G inX4 rfl 7 q702 dX4_asks_2 (hM.at 0 rfl) (by decide) rfl ?_
  refine J.if_neN (pc := 5) (tgt := 12) G dX4_asks_5 (by decide) (by omega) (fun h => ?_) (fun h => ?_)
  · refine J.iload_n (pc := 12) G dX4_asks_12 rfl ?_
    refine J.if_lt (pc := 13) (tgt := 21) G dX4_asks_13 (by decide) hv1 hv2 (fun h2 => K21 (by omega) (by omega)) (fun h2 => ?_)
    refine J.iload_n (pc := 16) G dX4_asks_16 rfl ?_
    refine J.iload_n (pc := 17) G dX4_asks_17 rfl ?_
    refine J.icmp_lt (pc := 18) (tgt := 25) G dX4_asks_18 (by decide) hv1 hv2 (by omega) (by omega) (fun h3 => ?_) (fun h3 => K21 (by omega) (by omega))
    refine J.iconstN (pc := 25) G dX4_asks_25 0 rfl ?_
    exact K26 0 (by unfold askC; rw [if_pos (by omega), if_pos ⟨h2, h3⟩]) (by decide)
  · refine J.iconstN (pc := 8) G dX4_asks_8 1 rfl ?_
    refine J.goto (pc := 9) (tgt := 26) G dX4_asks_9 (by decide) ?_
    exact K26 1 (by unfold askC; rw [if_neg (by omega)]) (by decide)
theorem askC_ok {Z : Nat → Nat} {v : Int} {lim : Nat} (h : askC Z v lim = 0) : Z 7 = 1 ∧ 0 ≤ v ∧ v < (lim : Int) := by
  unfold askC at h
  split at h
  · split at h
    · exact ⟨‹_›, ‹_›⟩
    · omega
  · omega
set_option maxRecDepth 100000 in
set_option maxHeartbeats 4000000 in
theorem m_kind (n : Nat) (M0 : AH) {a : Nat} {v : Int} {R : Nat → Nat → Nat} {P : Nat → Int} {Z : Nat → Nat} {nd : List Nd} (hM : Cl M0 a (modC a R P Z)) (h7 : Z 7 ≤ 1) (h8 : Z 8 ≤ 64) (hT : Z 7 = 1 → MdT R P Z nd) (hv : Rng v) : Fn yX4_kind cX4_kind 2 (some .int) 1 [.ref a, .int (iI v)] n M0 0 0 (fun r n' M' => (askC Z v (Z 8) = 0 ∧ MRead n M0 a R P Z (.int (iI ((ndK nd v.toNat : Nat) : Int))) 0 r n' M') ∨ (askC Z v (Z 8) ≠ 0 ∧ MRead n M0 a R P Z (.int (iI ((0 : Nat) : Int))) (askC Z v (Z 8)) r n' M')) := by
  refine Fn.of (by decide) [some _, some _] rfl rfl (Nat.le_of_ble_eq_true rfl) ?_
  intro g G hin hO
  refine J.aload_n (pc := 0) G dX4_kind_0 rfl ?_
  refine J.iload_n (pc := 1) G dX4_kind_1 rfl ?_
  refine J.aload_n (pc := 2) G dX4_kind_2 rfl ?_
  refine J.getf (pc := 3) (ci := 4) G inX4 rfl 8 q703 dX4_kind_3 (hM.at 0 rfl) (by decide) rfl ?_
  refine J.callV (pc := 6) (na := 2) G (m_asks n M0 (v := v) (lim := Z 8) hM h7 hv (by omega)) q889 q891 qp48 q892 q5 (by decide +kernel) dX4_kind_6 (hM.at 0 rfl) rfl rfl (Nat.le_of_ble_eq_true rfl) rfl ⟨by omega, by decide, by omega, by omega⟩ ?_
  rintro r9 n9 M7 ⟨hr9, hn9, ⟨hM7, hFr7⟩⟩
  subst hr9
  rw [hn9]
  clear hn9 n9
  dsimp only [Option.toList, List.cons_append, List.nil_append]
  refine J.if_eq_b (pc := 9) (tgt := 21) G dX4_kind_9 (by decide) (fun hb => ?_) (fun hb => ?_)
  · refine J.iconstN (pc := 21) G dX4_kind_21 0 rfl ?_
    exact J.iret (pc := 22) G hO dX4_kind_22 (by decide) (by decide) (Or.inr ⟨of_decide_eq_false hb, rfl, rfl, hM7, hFr7⟩)
  · have h0 := of_decide_eq_true hb
    obtain ⟨hs1, hv0, hv8⟩ := askC_ok h0
    obtain ⟨g8, g64, gi, -⟩ := hT hs1
    rw [g8] at hv8
    have hgi := (gi v.toNat (by omega)).1
    rw [show v = ((v.toNat : Nat) : Int) by omega]
    have hM := hM7
    refine J.aload_n (pc := 12) G dX4_kind_12 rfl ?_
    refine J.getf (pc := 13) (ci := 4) G inX4 rfl 9 q704 dX4_kind_13 (hM.at 0 rfl) (by decide) rfl ?_
    refine J.iload_n (pc := 16) G dX4_kind_16 rfl ?_
    refine J.ialdN (pc := 17) G dX4_kind_17 (hM.at 5 rfl) (by omega) (by decide) ?_
    rw [hgi]
    refine J.goto (pc := 18) (tgt := 22) G dX4_kind_18 (by decide) ?_
    exact J.iret (pc := 22) G hO dX4_kind_22 (by decide) (by decide) (Or.inl ⟨h0, rfl, rfl, h0 ▸ hM7, hFr7⟩)
set_option maxRecDepth 100000 in
set_option maxHeartbeats 4000000 in
theorem m_labelsOf (n : Nat) (M0 : AH) {a : Nat} {v : Int} {R : Nat → Nat → Nat} {P : Nat → Int} {Z : Nat → Nat} {nd : List Nd} (hM : Cl M0 a (modC a R P Z)) (h7 : Z 7 ≤ 1) (h8 : Z 8 ≤ 64) (hT : Z 7 = 1 → MdT R P Z nd) (hv : Rng v) : Fn yX4_labelsOf cX4_labelsOf 2 (some .int) 1 [.ref a, .int (iI v)] n M0 0 0 (fun r n' M' => (askC Z v (Z 8) = 0 ∧ MRead n M0 a R P Z (.int (iI ((ndS nd v.toNat : Nat) : Int))) 0 r n' M') ∨ (askC Z v (Z 8) ≠ 0 ∧ MRead n M0 a R P Z (.int (iI ((0 : Nat) : Int))) (askC Z v (Z 8)) r n' M')) := by
  refine Fn.of (by decide) [some _, some _] rfl rfl (Nat.le_of_ble_eq_true rfl) ?_
  intro g G hin hO
  refine J.aload_n (pc := 0) G dX4_labelsOf_0 rfl ?_
  refine J.iload_n (pc := 1) G dX4_labelsOf_1 rfl ?_
  refine J.aload_n (pc := 2) G dX4_labelsOf_2 rfl ?_
  refine J.getf (pc := 3) (ci := 4) G inX4 rfl 8 q703 dX4_labelsOf_3 (hM.at 0 rfl) (by decide) rfl ?_
  refine J.callV (pc := 6) (na := 2) G (m_asks n M0 (v := v) (lim := Z 8) hM h7 hv (by omega)) q889 q891 qp48 q892 q5 (by decide +kernel) dX4_labelsOf_6 (hM.at 0 rfl) rfl rfl (Nat.le_of_ble_eq_true rfl) rfl ⟨by omega, by decide, by omega, by omega⟩ ?_
  rintro r9 n9 M7 ⟨hr9, hn9, ⟨hM7, hFr7⟩⟩
  subst hr9
  rw [hn9]
  clear hn9 n9
  dsimp only [Option.toList, List.cons_append, List.nil_append]
  refine J.if_eq_b (pc := 9) (tgt := 21) G dX4_labelsOf_9 (by decide) (fun hb => ?_) (fun hb => ?_)
  · refine J.iconstN (pc := 21) G dX4_labelsOf_21 0 rfl ?_
    exact J.iret (pc := 22) G hO dX4_labelsOf_22 (by decide) (by decide) (Or.inr ⟨of_decide_eq_false hb, rfl, rfl, hM7, hFr7⟩)
  · have h0 := of_decide_eq_true hb
    obtain ⟨hs1, hv0, hv8⟩ := askC_ok h0
    obtain ⟨g8, g64, gi, -⟩ := hT hs1
    rw [g8] at hv8
    have hgi := (gi v.toNat (by omega)).2.2
    rw [show v = ((v.toNat : Nat) : Int) by omega]
    have hM := hM7
    refine J.aload_n (pc := 12) G dX4_labelsOf_12 rfl ?_
    refine J.getf (pc := 13) (ci := 4) G inX4 rfl 11 q706 dX4_labelsOf_13 (hM.at 0 rfl) (by decide) rfl ?_
    refine J.iload_n (pc := 16) G dX4_labelsOf_16 rfl ?_
    refine J.ialdN (pc := 17) G dX4_labelsOf_17 (hM.at 7 rfl) (by omega) (by decide) ?_
    rw [hgi]
    refine J.goto (pc := 18) (tgt := 22) G dX4_labelsOf_18 (by decide) ?_
    exact J.iret (pc := 22) G hO dX4_labelsOf_22 (by decide) (by decide) (Or.inl ⟨h0, rfl, rfl, h0 ▸ hM7, hFr7⟩)
set_option maxRecDepth 100000 in
set_option maxHeartbeats 4000000 in
theorem m_parent (n : Nat) (M0 : AH) {a : Nat} {v : Int} {R : Nat → Nat → Nat} {P : Nat → Int} {Z : Nat → Nat} {nd : List Nd} (hM : Cl M0 a (modC a R P Z)) (h7 : Z 7 ≤ 1) (h8 : Z 8 ≤ 64) (hT : Z 7 = 1 → MdT R P Z nd) (hv : Rng v) : Fn yX4_parent cX4_parent 2 (some .int) 1 [.ref a, .int (iI v)] n M0 0 0 (fun r n' M' => (askC Z v (Z 8) = 0 ∧ MRead n M0 a R P Z (.int (iI (ndP nd v.toNat))) 0 r n' M') ∨ (askC Z v (Z 8) ≠ 0 ∧ MRead n M0 a R P Z (.int (iI ((0 : Nat) : Int))) (askC Z v (Z 8)) r n' M')) := by
  refine Fn.of (by decide) [some _, some _] rfl rfl (Nat.le_of_ble_eq_true rfl) ?_
  intro g G hin hO
  refine J.aload_n (pc := 0) G dX4_parent_0 rfl ?_
  refine J.iload_n (pc := 1) G dX4_parent_1 rfl ?_
  refine J.aload_n (pc := 2) G dX4_parent_2 rfl ?_
  refine J.getf (pc := 3) (ci := 4) G inX4 rfl 8 q703 dX4_parent_3 (hM.at 0 rfl) (by decide) rfl ?_
  refine J.callV (pc := 6) (na := 2) G (m_asks n M0 (v := v) (lim := Z 8) hM h7 hv (by omega)) q889 q891 qp48 q892 q5 (by decide +kernel) dX4_parent_6 (hM.at 0 rfl) rfl rfl (Nat.le_of_ble_eq_true rfl) rfl ⟨by omega, by decide, by omega, by omega⟩ ?_
  rintro r9 n9 M7 ⟨hr9, hn9, ⟨hM7, hFr7⟩⟩
  subst hr9
  rw [hn9]
  clear hn9 n9
  dsimp only [Option.toList, List.cons_append, List.nil_append]
  refine J.if_eq_b (pc := 9) (tgt := 21) G dX4_parent_9 (by decide) (fun hb => ?_) (fun hb => ?_)
  · refine J.iconstN (pc := 21) G dX4_parent_21 0 rfl ?_
    exact J.iret (pc := 22) G hO dX4_parent_22 (by decide) (by decide) (Or.inr ⟨of_decide_eq_false hb, rfl, rfl, hM7, hFr7⟩)
  · have h0 := of_decide_eq_true hb
    obtain ⟨hs1, hv0, hv8⟩ := askC_ok h0
    obtain ⟨g8, g64, gi, -⟩ := hT hs1
    rw [g8] at hv8
    have hgi := (gi v.toNat (by omega)).2.1
    rw [show v = ((v.toNat : Nat) : Int) by omega]
    have hM := hM7
    refine J.aload_n (pc := 12) G dX4_parent_12 rfl ?_
    refine J.getf (pc := 13) (ci := 4) G inX4 rfl 10 q705 dX4_parent_13 (hM.at 0 rfl) (by decide) rfl ?_
    refine J.iload_n (pc := 16) G dX4_parent_16 rfl ?_
    refine J.iald (pc := 17) G dX4_parent_17 (hM.at 6 rfl) v.toNat rfl (by omega) (by decide) ?_
    rw [hgi]
    refine J.goto (pc := 18) (tgt := 22) G dX4_parent_18 (by decide) ?_
    exact J.iret (pc := 22) G hO dX4_parent_22 (by decide) (by decide) (Or.inl ⟨h0, rfl, rfl, h0 ▸ hM7, hFr7⟩)
end MOD8
