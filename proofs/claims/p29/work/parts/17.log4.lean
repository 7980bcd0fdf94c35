section LOG4
/-- the parts, as a list -/
def Pl (p : Nat → Nat) (ps : List Nat) : Prop := ∀ j, j < ps.length → p j = ps.getD j 0
def addP (ps : List Nat) (v : Nat) : List Nat := if ps.length < 8 then ps ++ [v] else ps
theorem addP_len {ps : List Nat} {v : Nat} (h : ps.length ≤ 8) : (addP ps v).length ≤ 8 := by
  unfold addP; split
  · simp; omega
  · exact h
theorem Pl.push {p : Nat → Nat} {ps : List Nat} {v : Nat} (h : Pl p ps) : Pl (upN p ps.length v) (ps ++ [v]) := by
  intro j hj
  rw [List.length_append, List.length_singleton] at hj
  by_cases e : j = ps.length
  · subst e; rw [upN_s]; simp [List.getD_eq_getElem?_getD]
  · rw [upN_n e, h j (by omega)]
    simp only [List.getD_eq_getElem?_getD]
    rw [List.getElem?_append_left (by omega)]
set_option maxRecDepth 100000 in
set_option maxHeartbeats 4000000 in
theorem c_addPart (n : Nat) (M0 : AH) {a v : Nat} {A : Nat → Nat → Nat} {S : Nat → Nat} {ps : List Nat} (hL : Cl M0 a (logC a A S)) (hp : Pl (A 6) ps) (hc : S 12 = ps.length) (h8 : ps.length ≤ 8) : Fn yX0_addPart cX0_addPart 2 none 0 [.ref a, .int (iI (v : Int))] n M0 0 0 (fun r n' M' => r = none ∧ n' = n ∧ (∃ p', Cl M' a (logC a (upAN A 6 p') (upN S 12 (addP ps v).length)) ∧ Pl p' (addP ps v)) ∧ Fr a (a + 7) M0 M') := by
  refine Fn.of (by decide) [some _, some _] rfl rfl (Nat.le_of_ble_eq_true rfl) ?_
  intro g G hin hO
  have hFr : Fr a (a + 7) M0 M0 := Fr.rf
  generalize hM1 : M0 = M1 at hL hFr
  refine J.aload_n (pc := 0) G dX0_addPart_0 rfl ?_
  refine J.getf (pc := 1) (ci := 0) G inX0 rfl 12 q106 dX0_addPart_1 (hL.at 0 rfl) (by decide) rfl ?_
  refine J.aload_n (pc := 4) G dX0_addPart_4 rfl ?_
  refine J.getf (pc := 5) (ci := 0) G inX0 rfl 11 q104 dX0_addPart_5 (hL.at 0 rfl) (by decide) rfl ?_
  refine J.alenI (pc := 8) G dX0_addPart_8 (hL.at 6 rfl) ?_
  refine J.icmp_geN (pc := 9) (tgt := 32) G dX0_addPart_9 (by decide) (by omega) (by omega) (fun h => ?_) (fun h => ?_)
  · refine J.vret (pc := 32) G hO dX0_addPart_32 (Nat.le_refl _) (Nat.le_refl _) ⟨rfl, rfl, ⟨A 6, ?_, ?_⟩, hM1 ▸ Fr.rf⟩
    · rw [upAN_same, show addP ps v = ps from if_neg (by omega), upN_same hc]; exact hM1 ▸ hL
    · rw [show addP ps v = ps from if_neg (by omega)]; exact hp
  · refine J.aload_n (pc := 12) G dX0_addPart_12 rfl ?_
    refine J.getf (pc := 13) (ci := 0) G inX0 rfl 11 q104 dX0_addPart_13 (hL.at 0 rfl) (by decide) rfl ?_
    refine J.aload_n (pc := 16) G dX0_addPart_16 rfl ?_
    refine J.getf (pc := 17) (ci := 0) G inX0 rfl 12 q106 dX0_addPart_17 (hL.at 0 rfl) (by decide) rfl ?_
    refine J.iload_n (pc := 20) G dX0_addPart_20 rfl ?_
    refine J.iastN (pc := 21) G dX0_addPart_21 (hL.at 6 rfl) (by omega) (by decide) (fun M hput hag => ?_)
    have hL := logA6 hL hput hag
    have hFr := hFr.put hag (by omega) (by omega)
    clear hput hag
    refine J.aload_n (pc := 22) G dX0_addPart_22 rfl ?_
    refine J.dup (pc := 23) G dX0_addPart_23 rfl ?_
    refine J.getf (pc := 24) (ci := 0) G inX0 rfl 12 q106 dX0_addPart_24 (hL.at 0 rfl) (by decide) rfl ?_
    refine J.iconstN (pc := 27) G dX0_addPart_27 1 rfl ?_
    refine J.iaddN (pc := 28) G dX0_addPart_28 ?_
    refine J.putf (pc := 29) (ci := 0) G inX0 rfl tyX0 tyX0_ok nmX0 12 q106 dX0_addPart_29 (hL.at 0 rfl) (by decide) (Nat.le_of_ble_eq_true rfl) (Or.inl rfl) (tyX0_ok 12 (by decide)) (by first | rfl | decide +kernel) (by first | rfl | decide +kernel) (fun M hput hag => ?_)
    have hL := logS12 hL hput hag
    have hFr := hFr.put hag (by omega) (by omega)
    clear hput hag
    refine J.vret (pc := 32) G hO dX0_addPart_32 (Nat.le_refl _) (Nat.le_refl _) ⟨rfl, rfl, ⟨upN (A 6) (S 12) v, ?_, ?_⟩, hM1 ▸ hFr⟩
    · rw [show addP ps v = ps ++ [v] from if_pos (by omega), List.length_append, List.length_singleton, ← hc]; exact hL
    · rw [show addP ps v = ps ++ [v] from if_pos (by omega), hc]; exact hp.push
def grpsStep (nr : Nat → Nat) (set x : Nat) (s : Nat × List Nat) : Nat × List Nat := if s.1.testBit x then (andn s.1 (grp nr set x), addP s.2 (grp nr set x)) else s
def grpsI (nr : Nat → Nat) (set : Nat) (ps : List Nat) (k : Nat) : Nat × List Nat := it (fun x s => grpsStep nr set x s) (set, ps) k
def grps (nr : Nat → Nat) (set : Nat) (ps : List Nat) : List Nat := (grpsI nr set ps 8).2
theorem grpsI_inv {nr : Nat → Nat} {set : Nat} {ps : List Nat} (hs : set < 256) (h8 : ps.length ≤ 8) (k : Nat) : (grpsI nr set ps k).1 < 256 ∧ (grpsI nr set ps k).2.length ≤ 8 := by
  unfold grpsI
  refine it_inv (fun _ (s : Nat × List Nat) => s.1 < 256 ∧ s.2.length ≤ 8) k ⟨hs, h8⟩ (fun i x hi hx => ?_)
  unfold grpsStep
  split
  · exact ⟨andn_lt8 hx.1, addP_len hx.2⟩
  · exact hx
set_option maxRecDepth 100000 in
set_option maxHeartbeats 4000000 in
theorem c_addGroups (n : Nat) (M0 : AH) {a set : Nat} {A : Nat → Nat → Nat} {S : Nat → Nat} {ps : List Nat} (hL : Cl M0 a (logC a A S)) (hp : Pl (A 6) ps) (hc : S 12 = ps.length) (h8 : ps.length ≤ 8) (hb : ∀ j, j < 8 → A 5 j < 256) (hset : set < 256) : Fn yX0_addGroups cX0_addGroups 5 none 2 [.ref a, .int (iI (set : Int))] n M0 0 0 (fun r n' M' => r = none ∧ n' = n ∧ (∃ p', Cl M' a (logC a (upAN A 6 p') (upN S 12 (grps (A 5) set ps).length)) ∧ Pl p' (grps (A 5) set ps)) ∧ Fr a (a + 7) M0 M') := by
  refine Fn.of (by decide) [some _, some _, none, none, none] rfl rfl (Nat.le_of_ble_eq_true rfl) ?_
  intro g G hin hO
  refine J.iload_n (pc := 0) G dX0_addGroups_0 rfl ?_
  refine J.istore_n (L' := [_, _, _, _, _]) (pc := 1) G dX0_addGroups_1 rfl (Nat.le_of_ble_eq_true rfl) rfl ?_
  refine J.iconstN (pc := 2) G dX0_addGroups_2 0 rfl ?_
  refine J.istore_n (L' := [_, _, _, _, _]) (pc := 3) G dX0_addGroups_3 rfl (Nat.le_of_ble_eq_true rfl) rfl ?_
  have K1 : ∀ s : Nat × AH, (s.1 ≤ 8 ∧ (∃ p', Cl s.2 a (logC a (upAN A 6 p') (upN S 12 (grpsI (A 5) set ps s.1).2.length)) ∧ Pl p' (grpsI (A 5) set ps s.1).2) ∧ Fr a (a + 7) M0 s.2) → J g 0 0 n s.2 [some (.ref a), some (.int (iI (set : Int))), some (.int (iI ((grpsI (A 5) set ps s.1).1 : Int))), some (.int (iI (s.1 : Int))), none] 4 [] := by
    refine loopJ (fun s => 8 - s.1) _ _ ?_
    rintro ⟨i, M⟩ ⟨hi, ⟨p, hL, hp⟩, hFr⟩ ih
    dsimp only at hi hL hp hFr ih ⊢
    have hinv := grpsI_inv (nr := A 5) hset h8 i
    generalize hgi : grpsI (A 5) set ps i = gi at hinv hL hp
    obtain ⟨left, qs⟩ := gi
    dsimp only at hinv hL hp ⊢
    refine J.iload_n (pc := 4) G dX0_addGroups_4 rfl ?_
    refine J.bipushN (pc := 5) G dX0_addGroups_5 8 (by decide +kernel) ?_
    refine J.icmp_geN (pc := 7) (tgt := 45) G dX0_addGroups_7 (by decide) (by omega) (by omega) (fun h => ?_) (fun h => ?_)
    · have e8 : i = 8 := by omega
      subst e8
      refine J.vret (pc := 45) G hO dX0_addGroups_45 (Nat.le_refl _) (Nat.le_refl _) ⟨rfl, rfl, ⟨p, ?_, ?_⟩, hFr⟩
      · unfold grps; rw [hgi]; exact hL
      · unfold grps; rw [hgi]; exact hp
    · have hi8 : i < 8 := h
      refine J.iload_n (pc := 10) G dX0_addGroups_10 rfl ?_
      refine J.iload_n (pc := 11) G dX0_addGroups_11 rfl ?_
      refine J.callSN (pc := 12) (na := 2) G (c_contains n M (m := left) (l := i) (by omega) (by omega)) (mem_nw 3) q248 q249 q1 (by decide +kernel) dX0_addGroups_12 rfl (Nat.le_of_ble_eq_true rfl) rfl ⟨by omega, by decide, by omega, by omega⟩ ?_
      rintro r9 n9 M9 ⟨hr9, hn9, hM9⟩
      subst hr9
      rw [hn9, hM9]
      clear hn9 hM9 n9 M9
      dsimp only [Option.toList, List.cons_append, List.nil_append]
      have hgs : grpsI (A 5) set ps (i + 1) = grpsStep (A 5) set i (left, qs) := by unfold grpsI; rw [it_s]; unfold grpsI at hgi; rw [hgi]
      unfold grpsStep at hgs
      dsimp only at hgs
      refine J.if_eq_b (pc := 15) (tgt := 39) G dX0_addGroups_15 (by decide) (fun hc => ?_) (fun hc => ?_)
      · refine J.iincN (L' := [_, _, _, _, _]) (pc := 39) G dX0_addGroups_39 1 rfl rfl rfl rfl ?_
        refine J.goto (tgt := 4) (pc := 42) G dX0_addGroups_42 (by decide) ?_
        simp only [hc, Bool.false_eq_true, if_false] at hgs
        have := ih (i + 1, M) ⟨by dsimp only; omega, ⟨p, by dsimp only; rw [hgs]; exact hL, by dsimp only; rw [hgs]; exact hp⟩, hFr⟩ (by dsimp only; omega)
        dsimp only at this
        rw [hgs] at this
        exact this
      · refine J.aload_n (pc := 18) G dX0_addGroups_18 rfl ?_
        refine J.iload_n (pc := 19) G dX0_addGroups_19 rfl ?_
        refine J.iload_n (pc := 20) G dX0_addGroups_20 rfl ?_
        refine J.callV (pc := 21) (na := 2) G (c_groupOf n M (l := i) (set := set) hL hb hi8) q254 q256 qp9 q257 q4 (by decide +kernel) dX0_addGroups_21 (hL.at 0 rfl) rfl rfl (Nat.le_of_ble_eq_true rfl) rfl ⟨by omega, by decide, by omega, by omega⟩ ?_
        rintro r9 n9 M9 ⟨hr9, hn9, hM9⟩
        subst hr9
        rw [hn9, hM9]
        clear hn9 hM9 n9 M9
        dsimp only [Option.toList, List.cons_append, List.nil_append]
        have hglt : grp (A 5) set i < 256 := grp_lt (set := set) hb hi8 8
        generalize hgr : grp (A 5) set i = gr at hglt hgs
        have hgr' : grp (upAN A 6 p 5) set i = gr := hgr
        rw [hgr']
        refine J.istore (L' := [_, _, _, _, _]) (pc := 24) G dX0_addGroups_24 rfl (Nat.le_of_ble_eq_true rfl) rfl ?_
        refine J.aload_n (pc := 26) G dX0_addGroups_26 rfl ?_
        refine J.iload (pc := 27) G dX0_addGroups_27 rfl ?_
        refine J.callV (pc := 29) (na := 1) G (c_addPart n M (v := gr) hL hp upN_s hinv.2) q225 q227 qp4 q228 q4 (by decide +kernel) dX0_addGroups_29 (hL.at 0 rfl) rfl rfl (Nat.le_of_ble_eq_true rfl) rfl ⟨by omega, by decide, by omega, by omega⟩ ?_
        rintro r9 n9 M7 ⟨hr9, hn9, ⟨⟨p7, hL7, hp7⟩, hFr7⟩⟩
        subst hr9
        rw [hn9]
        clear hn9 n9
        dsimp only [Option.toList, List.cons_append, List.nil_append]
        rw [upAN2, upN2] at hL7
        refine J.iload_n (pc := 32) G dX0_addGroups_32 rfl ?_
        refine J.iload (pc := 33) G dX0_addGroups_33 rfl ?_
        refine J.andnN (pc := 35) G dX0_addGroups_35 dX0_addGroups_36 dX0_addGroups_37 ?_
        refine J.fgt (L' := [_, _, _, _, _]) 4 rfl ?_
        refine J.istore_n (L' := [_, _, _, _, _]) (pc := 38) G dX0_addGroups_38 rfl (Nat.le_of_ble_eq_true rfl) rfl ?_
        refine J.iincN (L' := [_, _, _, _, _]) (pc := 39) G dX0_addGroups_39 1 rfl rfl rfl rfl ?_
        refine J.goto (tgt := 4) (pc := 42) G dX0_addGroups_42 (by decide) ?_
        simp only [hc, if_true] at hgs
        have := ih (i + 1, M7) ⟨by dsimp only; omega, ⟨p7, by dsimp only; rw [hgs]; exact hL7, by dsimp only; rw [hgs]; exact hp7⟩, hFr.trans hFr7⟩ (by dsimp only; omega)
        dsimp only at this
        rw [hgs] at this
        exact this
  exact K1 (0, M0) ⟨by omega, ⟨A 6, by dsimp only; rw [upAN_same, show (grpsI (A 5) set ps 0).2 = ps from rfl, upN_same hc]; exact hL, hp⟩, Fr.rf⟩
end LOG4
