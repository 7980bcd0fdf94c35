section LOG3
/-! neighbours and groups -/
def linkV (nx : Nat → Nat) (a : Nat) : Nat := it (fun b v => if (nx b).testBit a then v ||| 2 ^ b else v) (nx a) 8
theorem linkI_lt (nx : Nat → Nat) (hb : ∀ j, j < 8 → nx j < 256) {a : Nat} (ha : a < 8) : ∀ k, k ≤ 8 → it (fun b v => if (nx b).testBit a then v ||| 2 ^ b else v) (nx a) k < 256 := by
  intro k hk
  refine it_inv (fun _ v => v < 256) k (hb a ha) (fun i x hi hx => ?_)
  split
  · exact or_lt8 hx (pow_lt8 (by omega))
  · exact hx
set_option maxRecDepth 100000 in
set_option maxHeartbeats 4000000 in
theorem c_linkNeighbours (n : Nat) (M0 : AH) {a : Nat} {A : Nat → Nat → Nat} {S : Nat → Nat} (hL : Cl M0 a (logC a A S)) (hb : ∀ j, j < 8 → A 3 j < 256) : Fn yX0_linkNeighbours cX0_linkNeighbours 3 none 1 [.ref a] n M0 0 0 (fun r n' M' => r = none ∧ n' = n ∧ Cl M' a (logC a (upAN A 5 (fillN (linkV (A 3)) (A 5) 8)) S) ∧ Fr a (a + 7) M0 M') := by
  refine Fn.of (by decide) [some _, none, none] rfl rfl (Nat.le_of_ble_eq_true rfl) ?_
  intro g G hin hO
  refine J.iconstN (pc := 0) G dX0_linkNeighbours_0 0 rfl ?_
  refine J.istore_n (L' := [_, _, _]) (pc := 1) G dX0_linkNeighbours_1 rfl (Nat.le_of_ble_eq_true rfl) rfl ?_
  have K1 : ∀ s : Nat × AH, (s.1 ≤ 8 ∧ Cl s.2 a (logC a (upAN A 5 (fillN (linkV (A 3)) (A 5) s.1)) S) ∧ Fr a (a + 7) M0 s.2) → J g 0 0 n s.2 [some (.ref a), some (.int (iI (s.1 : Int))), none] 2 [] := by
    refine loopJ (fun s => 8 - s.1) _ _ ?_
    rintro ⟨i, M⟩ ⟨hi, hL, hFr⟩ ih
    dsimp only at hi hL hFr ih ⊢
    generalize hq : fillN (linkV (A 3)) (A 5) i = q at hL
    refine J.iload_n (pc := 2) G dX0_linkNeighbours_2 rfl ?_
    refine J.bipushN (pc := 3) G dX0_linkNeighbours_3 8 (by decide +kernel) ?_
    refine J.icmp_geN (pc := 5) (tgt := 65) G dX0_linkNeighbours_5 (by decide) (by omega) (by omega) (fun h => ?_) (fun h => ?_)
    · have e8 : i = 8 := by omega
      subst e8
      rw [← hq] at hL
      exact J.vret (pc := 65) G hO dX0_linkNeighbours_65 (Nat.le_refl _) (Nat.le_refl _) ⟨rfl, rfl, hL, hFr⟩
    · have hi8 : i < 8 := h
      refine J.aload_n (pc := 8) G dX0_linkNeighbours_8 rfl ?_
      refine J.getf (pc := 9) (ci := 0) G inX0 rfl 10 q103 dX0_linkNeighbours_9 (hL.at 0 rfl) (by decide) rfl ?_
      refine J.iload_n (pc := 12) G dX0_linkNeighbours_12 rfl ?_
      refine J.aload_n (pc := 13) G dX0_linkNeighbours_13 rfl ?_
      refine J.getf (pc := 14) (ci := 0) G inX0 rfl 8 q99 dX0_linkNeighbours_14 (hL.at 0 rfl) (by decide) rfl ?_
      refine J.iload_n (pc := 17) G dX0_linkNeighbours_17 rfl ?_
      refine J.ialdN (pc := 18) G dX0_linkNeighbours_18 (hL.at 3 rfl) (by omega) (by decide) ?_
      refine J.iastN (pc := 19) G dX0_linkNeighbours_19 (hL.at 5 rfl) (by omega) (by decide) (fun M hput hag => ?_)
      have hL := logA5 hL hput hag
      have hFr := hFr.put hag (by omega) (by omega)
      clear hput hag
      refine J.iconstN (pc := 20) G dX0_linkNeighbours_20 0 rfl ?_
      refine J.istore_n (L' := [_, _, _]) (pc := 21) G dX0_linkNeighbours_21 rfl (Nat.le_of_ble_eq_true rfl) rfl ?_
      rw [upAN2] at hL
      have K2 : ∀ s : Nat × AH, (s.1 ≤ 8 ∧ Cl s.2 a (logC a (upAN A 5 (upN q i (it (fun b v => if (A 3 b).testBit i then v ||| 2 ^ b else v) (A 3 i) s.1))) S) ∧ Fr a (a + 7) M0 s.2) → J g 0 0 n s.2 [some (.ref a), some (.int (iI (i : Int))), some (.int (iI (s.1 : Int)))] 22 [] := by
        refine loopJ (fun s => 8 - s.1) _ _ ?_
        rintro ⟨x, M⟩ ⟨hx, hL, hFr⟩ ih3
        dsimp only at hx hL hFr ih3 ⊢
        generalize hv : it (fun b v => if (A 3 b).testBit i then v ||| 2 ^ b else v) (A 3 i) x = v at hL
        refine J.iload_n (pc := 22) G dX0_linkNeighbours_22 rfl ?_
        refine J.bipushN (pc := 23) G dX0_linkNeighbours_23 8 (by decide +kernel) ?_
        refine J.icmp_geN (pc := 25) (tgt := 59) G dX0_linkNeighbours_25 (by decide) (by omega) (by omega) (fun h9 => ?_) (fun h9 => ?_)
        · have e8 : x = 8 := by omega
          subst e8
          refine J.fgt (L' := [_, _, _]) 2 rfl ?_
          refine J.iincN (L' := [_, _, _]) (pc := 59) G dX0_linkNeighbours_59 1 rfl rfl rfl rfl ?_
          refine J.goto (tgt := 2) (pc := 62) G dX0_linkNeighbours_62 (by decide) ?_
          refine ih (i + 1, M) ⟨by dsimp only; omega, ?_, hFr⟩ (by dsimp only; omega)
          rw [← fillN_s, hq]
          unfold linkV
          rw [hv]
          exact hL
        · have hx8 : x < 8 := h9
          have b1 : A 3 x < 256 := hb x hx8
          refine J.aload_n (pc := 28) G dX0_linkNeighbours_28 rfl ?_
          refine J.getf (pc := 29) (ci := 0) G inX0 rfl 8 q99 dX0_linkNeighbours_29 (hL.at 0 rfl) (by decide) rfl ?_
          refine J.iload_n (pc := 32) G dX0_linkNeighbours_32 rfl ?_
          refine J.ialdN (pc := 33) G dX0_linkNeighbours_33 (hL.at 3 rfl) (by omega) (by decide) ?_
          refine J.iload_n (pc := 34) G dX0_linkNeighbours_34 rfl ?_
          refine J.callSN (pc := 35) (na := 2) G (c_contains n M (m := A 3 x) (l := i) (by omega) (by omega)) (mem_nw 3) q248 q249 q1 (by decide +kernel) dX0_linkNeighbours_35 rfl (Nat.le_of_ble_eq_true rfl) rfl ⟨by omega, by decide, by omega, by omega⟩ ?_
          rintro r9 n9 M9 ⟨hr9, hn9, hM9⟩
          subst hr9
          rw [hn9, hM9]
          clear hn9 hM9 n9 M9
          dsimp only [Option.toList, List.cons_append, List.nil_append]
          refine J.if_eq_b (pc := 38) (tgt := 53) G dX0_linkNeighbours_38 (by decide) (fun hc => ?_) (fun hc => ?_)
          · refine J.iincN (L' := [_, _, _]) (pc := 53) G dX0_linkNeighbours_53 1 rfl rfl rfl rfl ?_
            refine J.goto (tgt := 22) (pc := 56) G dX0_linkNeighbours_56 (by decide) ?_
            refine ih3 (x + 1, M) ⟨by dsimp only; omega, ?_, hFr⟩ (by dsimp only; omega)
            rw [it_s, hv]
            simp only [hc, Bool.false_eq_true, if_false]
            exact hL
          · refine J.aload_n (pc := 41) G dX0_linkNeighbours_41 rfl ?_
            refine J.getf (pc := 42) (ci := 0) G inX0 rfl 10 q103 dX0_linkNeighbours_42 (hL.at 0 rfl) (by decide) rfl ?_
            refine J.iload_n (pc := 45) G dX0_linkNeighbours_45 rfl ?_
            refine J.dup2 (pc := 46) G dX0_linkNeighbours_46 rfl rfl ?_
            refine J.ialdN (pc := 47) G dX0_linkNeighbours_47 (hL.at 5 rfl) (by omega) (by decide) ?_
            refine J.iconstN (pc := 48) G dX0_linkNeighbours_48 1 rfl ?_
            refine J.iload_n (pc := 49) G dX0_linkNeighbours_49 rfl ?_
            refine J.ishl1 (pc := 50) G dX0_linkNeighbours_50 (by omega) ?_
            refine J.iorN (pc := 51) G dX0_linkNeighbours_51 ?_
            refine J.iastN (pc := 52) G dX0_linkNeighbours_52 (hL.at 5 rfl) (by omega) (by decide) (fun M hput hag => ?_)
            have hL := logA5 hL hput hag
            have hFr := hFr.put hag (by omega) (by omega)
            clear hput hag
            refine J.iincN (L' := [_, _, _]) (pc := 53) G dX0_linkNeighbours_53 1 rfl rfl rfl rfl ?_
            refine J.goto (tgt := 22) (pc := 56) G dX0_linkNeighbours_56 (by decide) ?_
            rw [upAN2] at hL
            refine ih3 (x + 1, M) ⟨by dsimp only; omega, ?_, hFr⟩ (by dsimp only; omega)
            rw [it_s, hv]
            simp only [hc, if_true]
            have : Cl M a (logC a (upAN A 5 (upN (upN q i v) i (upN q i v i ||| 2 ^ x))) S) := hL
            rw [upN2, upN_s] at this
            exact this
      exact K2 (0, M) ⟨by omega, hL, hFr⟩
  exact K1 (0, M0) ⟨by omega, by rw [fillN_0, upAN_same]; exact hL, Fr.rf⟩
def gstep (nr : Nat → Nat) (set x g : Nat) : Nat := if g.testBit x then g ||| (nr x &&& set) else g
def grow8 (nr : Nat → Nat) (set g : Nat) : Nat := it (fun x g => gstep nr set x g) g 8
def grp (nr : Nat → Nat) (set a : Nat) : Nat := it (fun _ g => grow8 nr set g) (2 ^ a) 8
theorem gstep_lt {nr : Nat → Nat} {set x g : Nat} (hx : nr x < 256) (hg : g < 256) : gstep nr set x g < 256 := by
  unfold gstep; split
  · exact or_lt8 hg (and_lt8 hx)
  · exact hg
theorem grow8_lt {nr : Nat → Nat} {set g : Nat} (hb : ∀ j, j < 8 → nr j < 256) (hg : g < 256) {k : Nat} (hk : k ≤ 8) : it (fun x g => gstep nr set x g) g k < 256 :=
  it_inv (fun _ v => v < 256) k hg (fun i x hi hx => gstep_lt (hb i (by omega)) hx)
theorem grp_lt {nr : Nat → Nat} {set a : Nat} (hb : ∀ j, j < 8 → nr j < 256) (ha : a < 8) : ∀ k, it (fun _ g => grow8 nr set g) (2 ^ a) k < 256 := fun k =>
  it_inv (fun _ v => v < 256) k (pow_lt8 ha) (fun i x hi hx => grow8_lt hb hx (Nat.le_refl 8))
set_option maxRecDepth 100000 in
set_option maxHeartbeats 4000000 in
theorem c_groupOf (n : Nat) (M : AH) {a l set : Nat} {A : Nat → Nat → Nat} {S : Nat → Nat} (hL : Cl M a (logC a A S)) (hb : ∀ j, j < 8 → A 5 j < 256) (hl9 : l < 8) : Fn yX0_groupOf cX0_groupOf 6 (some .int) 1 [.ref a, .int (iI (l : Int)), .int (iI (set : Int))] n M 0 0 (fun r n' M' => r = some (.int (iI ((grp (A 5) set l : Nat) : Int))) ∧ n' = n ∧ M' = M) := by
  refine Fn.of (by decide) [some _, some _, some _, none, none, none] rfl rfl (Nat.le_of_ble_eq_true rfl) ?_
  intro g G hin hO
  refine J.iconstN (pc := 0) G dX0_groupOf_0 1 rfl ?_
  refine J.iload_n (pc := 1) G dX0_groupOf_1 rfl ?_
  refine J.ishl1 (pc := 2) G dX0_groupOf_2 (by omega) ?_
  refine J.istore_n (L' := [_, _, _, _, _, _]) (pc := 3) G dX0_groupOf_3 rfl (Nat.le_of_ble_eq_true rfl) rfl ?_
  refine J.iconstN (pc := 4) G dX0_groupOf_4 0 rfl ?_
  refine J.istore (L' := [_, _, _, _, _, _]) (pc := 5) G dX0_groupOf_5 rfl (Nat.le_of_ble_eq_true rfl) rfl ?_
  have K1 : ∀ s : Nat, (s ≤ 8) → J g 0 0 n M [some (.ref a), some (.int (iI (l : Int))), some (.int (iI (set : Int))), some (.int (iI ((it (fun _ g => grow8 (A 5) set g) (2 ^ l) s : Nat) : Int))), some (.int (iI (s : Int))), none] 7 [] := by
    refine loopJ (fun s => 8 - s) _ _ ?_
    intro i hi ih
    try dsimp only at hi ih ⊢
    have hglt := grp_lt (set := set) hb hl9 i
    generalize hgi : it (fun _ g => grow8 (A 5) set g) (2 ^ l) i = gi at hglt
    refine J.iload (pc := 7) G dX0_groupOf_7 rfl ?_
    refine J.bipushN (pc := 9) G dX0_groupOf_9 8 (by decide +kernel) ?_
    refine J.icmp_geN (pc := 11) (tgt := 57) G dX0_groupOf_11 (by decide) (by omega) (by omega) (fun h => ?_) (fun h => ?_)
    · have e8 : i = 8 := by omega
      subst e8
      refine J.iload_n (pc := 57) G dX0_groupOf_57 rfl ?_
      exact J.iret (pc := 58) G hO dX0_groupOf_58 (Nat.le_refl _) (Nat.le_refl _) ⟨by rw [← hgi]; rfl, rfl, rfl⟩
    · refine J.iconstN (pc := 14) G dX0_groupOf_14 0 rfl ?_
      refine J.istore (L' := [_, _, _, _, _, _]) (pc := 15) G dX0_groupOf_15 rfl (Nat.le_of_ble_eq_true rfl) rfl ?_
      have K2 : ∀ s : Nat, (s ≤ 8) → J g 0 0 n M [some (.ref a), some (.int (iI (l : Int))), some (.int (iI (set : Int))), some (.int (iI ((it (fun x g => gstep (A 5) set x g) gi s : Nat) : Int))), some (.int (iI (i : Int))), some (.int (iI (s : Int)))] 17 [] := by
        refine loopJ (fun s => 8 - s) _ _ ?_
        intro x hx ih3
        try dsimp only at hx ih3 ⊢
        have hxlt := grow8_lt (set := set) hb hglt hx
        generalize hgx : it (fun x g => gstep (A 5) set x g) gi x = gx at hxlt
        refine J.iload (pc := 17) G dX0_groupOf_17 rfl ?_
        refine J.bipushN (pc := 19) G dX0_groupOf_19 8 (by decide +kernel) ?_
        refine J.icmp_geN (pc := 21) (tgt := 51) G dX0_groupOf_21 (by decide) (by omega) (by omega) (fun h9 => ?_) (fun h9 => ?_)
        · have e8 : x = 8 := by omega
          subst e8
          refine J.fgt (L' := [_, _, _, _, _, _]) 5 rfl ?_
          refine J.iincN (L' := [_, _, _, _, _, _]) (pc := 51) G dX0_groupOf_51 1 rfl rfl rfl rfl ?_
          refine J.goto (tgt := 7) (pc := 54) G dX0_groupOf_54 (by decide) ?_
          have := ih (i + 1) (by omega) (by omega)
          rw [it_s, hgi] at this
          unfold grow8 at this
          rw [hgx] at this
          exact this
        · have hx8 : x < 8 := h9
          refine J.iload_n (pc := 24) G dX0_groupOf_24 rfl ?_
          refine J.iload (pc := 25) G dX0_groupOf_25 rfl ?_
          refine J.callSN (pc := 27) (na := 2) G (c_contains n M (m := gx) (l := x) (by omega) (by omega)) (mem_nw 3) q248 q249 q1 (by decide +kernel) dX0_groupOf_27 rfl (Nat.le_of_ble_eq_true rfl) rfl ⟨by omega, by decide, by omega, by omega⟩ ?_
          rintro r9 n9 M9 ⟨hr9, hn9, hM9⟩
          subst hr9
          rw [hn9, hM9]
          clear hn9 hM9 n9 M9
          dsimp only [Option.toList, List.cons_append, List.nil_append]
          have hne := ih3 (x + 1) (by omega) (by omega)
          rw [it_s, hgx] at hne
          unfold gstep at hne
          refine J.if_eq_b (pc := 30) (tgt := 45) G dX0_groupOf_30 (by decide) (fun hc => ?_) (fun hc => ?_)
          · refine J.iincN (L' := [_, _, _, _, _, _]) (pc := 45) G dX0_groupOf_45 1 rfl rfl rfl rfl ?_
            refine J.goto (tgt := 17) (pc := 48) G dX0_groupOf_48 (by decide) ?_
            simp only [hc, Bool.false_eq_true, if_false] at hne
            exact hne
          · refine J.iload_n (pc := 33) G dX0_groupOf_33 rfl ?_
            refine J.aload_n (pc := 34) G dX0_groupOf_34 rfl ?_
            refine J.getf (pc := 35) (ci := 0) G inX0 rfl 10 q103 dX0_groupOf_35 (hL.at 0 rfl) (by decide) rfl ?_
            refine J.iload (pc := 38) G dX0_groupOf_38 rfl ?_
            refine J.ialdN (pc := 40) G dX0_groupOf_40 (hL.at 5 rfl) (by omega) (by decide) ?_
            refine J.iload_n (pc := 41) G dX0_groupOf_41 rfl ?_
            refine J.iandN (pc := 42) G dX0_groupOf_42 ?_
            refine J.iorN (pc := 43) G dX0_groupOf_43 ?_
            refine J.istore_n (L' := [_, _, _, _, _, _]) (pc := 44) G dX0_groupOf_44 rfl (Nat.le_of_ble_eq_true rfl) rfl ?_
            refine J.iincN (L' := [_, _, _, _, _, _]) (pc := 45) G dX0_groupOf_45 1 rfl rfl rfl rfl ?_
            refine J.goto (tgt := 17) (pc := 48) G dX0_groupOf_48 (by decide) ?_
            simp only [hc, if_true] at hne
            exact hne
      exact K2 0 (by omega)
  exact K1 0 (by omega)
end LOG3
