section LOG8
theorem J.icmp_ne_b {g : GT} {ow : String} {cc : ByteArray} {nL d mc ms k z n pc : Nat} {M : AH} {L : List (Option Value)} {st : List Value} (G : Cx g ow cc nL d mc ms) {x y : Bool} {off : Int} {tgt : Nat} (hd : decode cc pc = .ok (.if_icmp .ne off, 3)) (ht : (pc : Int) + off = (tgt : Int)) (kt : x ≠ y → J g k z n M L tgt st) (kf : x = y → J g k z n M L (pc + 3) st) : J g k z n M L pc (.int (bI y) :: .int (bI x) :: st) := by
  have e : ∀ b : Bool, bI b = iI ((if b then 1 else 0 : Nat) : Int) := by intro b; cases b <;> decide +kernel
  rw [e x, e y]
  refine J.icmp_neN G hd ht (by split <;> omega) (by split <;> omega) (fun h => kt ?_) (fun h => kf ?_)
  · intro q; rw [q] at h; exact h rfl
  · cases x <;> cases y <;> simp_all
theorem anyU_cong {f f' : Nat → Bool} : ∀ {n : Nat}, (∀ j, j < n → f j = f' j) → anyU f n = anyU f' n
  | 0, _ => rfl
  | n + 1, h => by rw [anyU, anyU, anyU_cong (fun j hj => h j (by omega)), h n (by omega)]
theorem ldI_cong {rc rc' : Nat → Nat} (h : ∀ j, j < 8 → rc j = rc' j) (p o : Nat) : ldI rc p o = ldI rc' p o := by
  unfold ldI
  exact anyU_cong (fun j hj => by rw [h j hj])
theorem srt_cong {rc rc' : Nat → Nat} (h : ∀ j, j < 8 → rc j = rc' j) (ps : List Nat) (k : Nat) : srt rc ps k = srt rc' ps k := by
  unfold srt
  refine it_cong k (fun i qs _ => ?_)
  unfold srtIn
  refine it_cong _ (fun t rs _ => ?_)
  unfold srtS
  rw [ldI_cong h]
theorem nearO_cong {rc rc' : Nat → Nat} (h : ∀ j, j < 8 → rc j = rc' j) {a : Nat} (ha : a < 8) : nearO rc a = nearO rc' a := by
  unfold nearO
  exact it_cong 8 (fun b v hb => by rw [h a ha, h b hb])
def pOr (nx : Nat → Nat) (u : Nat) : List Nat := srt (rall nx) (grps (nearO (rall nx)) u []) (grps (nearO (rall nx)) u []).length
theorem nearO_lt8 {rc : Nat → Nat} {a : Nat} : nearO rc a < 256 := nearO_lt (Nat.le_refl 8)
set_option maxRecDepth 100000 in
set_option maxHeartbeats 4000000 in
theorem c_isCutByOrder (n : Nat) (M0 : AH) {a : Nat} {A : Nat → Nat → Nat} {S : Nat → Nat} (hL : Cl M0 a (logC a A S)) (hb : ∀ j, j < 8 → A 3 j < 256) (hu : S 4 < 256) : Fn yX0_isCutByOrder cX0_isCutByOrder 3 (some .boolean) 3 [.ref a] n M0 0 0 (fun r n' M' => r = some (.int (bI (decide (1 < (pOr (A 3) (S 4)).length)))) ∧ n' = n ∧ Cut M' a A S (pOr (A 3) (S 4)) ∧ Fr a (a + 7) M0 M') := by
  refine Fn.of (by decide) [some _, none, none] rfl rfl (Nat.le_of_ble_eq_true rfl) ?_
  intro g G hin hO
  have hFr : Fr a (a + 7) M0 M0 := Fr.rf
  generalize hM1 : M0 = M1 at hL hFr
  refine J.aload_n (pc := 0) G dX0_isCutByOrder_0 rfl ?_
  refine J.iconstN (pc := 1) G dX0_isCutByOrder_1 0 rfl ?_
  refine J.putf (pc := 2) (ci := 0) G inX0 rfl tyX0 tyX0_ok nmX0 12 q106 dX0_isCutByOrder_2 (hL.at 0 rfl) (by decide) (Nat.le_of_ble_eq_true rfl) (Or.inl rfl) (tyX0_ok 12 (by decide)) (by first | rfl | decide +kernel) (by first | rfl | decide +kernel) (fun M hput hag => ?_)
  have hL := logS12 hL hput hag
  have hFr := hFr.put hag (by omega) (by omega)
  clear hput hag
  refine J.aload_n (pc := 5) G dX0_isCutByOrder_5 rfl ?_
  refine J.callV (pc := 6) (na := 0) G (c_findReach n M hL hb) q262 q263 q264 q265 q4 (by decide +kernel) dX0_isCutByOrder_6 (hL.at 0 rfl) rfl rfl (Nat.le_of_ble_eq_true rfl) rfl ⟨by omega, by decide, by omega, by omega⟩ ?_
  rintro r9 n9 M ⟨hr9, hn9, ⟨hL, hFr1⟩⟩
  subst hr9
  rw [hn9]
  clear hn9 n9
  dsimp only [Option.toList, List.cons_append, List.nil_append]
  have hFr := hFr.trans hFr1
  have hrc : ∀ j, j < 8 → rall (fillN (A 3) (A 4) 8) j = rall (A 3) j := rall_cong (fun j hj => fillN_in hj)
  have hrl : ∀ j, j < 8 → rall (fillN (A 3) (A 4) 8) j < 256 := fun j hj => by rw [hrc j hj]; exact rall_lt hb j hj
  generalize rall (fillN (A 3) (A 4) 8) = rc at hL hrc hrl
  have hL : Cl M a (logC a (upAN A 4 rc) (upN S 12 0)) := hL
  generalize hA1 : upAN A 4 rc = A1 at hL
  have hA14 : A1 4 = rc := by rw [← hA1]; exact upAN_s
  have hK1 : KeepA A A1 := by rw [← hA1]; exact KeepA.up (by omega)
  refine J.iconstN (pc := 9) G dX0_isCutByOrder_9 0 rfl ?_
  refine J.istore_n (L' := [_, _, _]) (pc := 10) G dX0_isCutByOrder_10 rfl (Nat.le_of_ble_eq_true rfl) rfl ?_
  have K1 : ∀ s : Nat × AH, (s.1 ≤ 8 ∧ Cl s.2 a (logC a (upAN A1 5 (fillN (nearO (A1 4)) (A1 5) s.1)) (upN S 12 0)) ∧ Fr a (a + 7) M1 s.2) → J g 0 0 n s.2 [some (.ref a), some (.int (iI (s.1 : Int))), none] 11 [] := by
    refine loopJ (fun s => 8 - s.1) _ _ ?_
    rintro ⟨i, M⟩ ⟨hi, hL, hFr⟩ ih
    dsimp only at hi hL hFr ih ⊢
    generalize hq : fillN (nearO (A1 4)) (A1 5) i = q at hL
    refine J.iload_n (pc := 11) G dX0_isCutByOrder_11 rfl ?_
    refine J.bipushN (pc := 12) G dX0_isCutByOrder_12 8 (by decide +kernel) ?_
    refine J.icmp_geN (pc := 14) (tgt := 79) G dX0_isCutByOrder_14 (by decide) (by omega) (by omega) (fun h => ?_) (fun h => ?_)
    · have e8 : i = 8 := by omega
      subst e8
      refine J.fgt (L' := [_, _, _]) 1 rfl ?_
      have hg : grps q (S 4) [] = grps (nearO (rall (A 3))) (S 4) [] := grps_cong (fun j hj => by rw [← hq, fillN_in hj, hA14]; exact nearO_cong hrc hj)
      have hq8 : ∀ j, j < 8 → q j < 256 := fun j hj => by rw [← hq, fillN_in hj]; exact nearO_lt8
      refine J.aload_n (pc := 79) G dX0_isCutByOrder_79 rfl ?_
      refine J.aload_n (pc := 80) G dX0_isCutByOrder_80 rfl ?_
      refine J.getf (pc := 81) (ci := 0) G inX0 rfl 4 q91 dX0_isCutByOrder_81 (hL.at 0 rfl) (by decide) rfl ?_
      refine J.callV (pc := 84) (na := 1) G (c_addGroups n M (set := S 4) (ps := []) hL (fun j hj => absurd hj (Nat.not_lt_zero j)) rfl (Nat.zero_le _) hq8 hu) q250 q252 qp8 q253 q4 (by decide +kernel) dX0_isCutByOrder_84 (hL.at 0 rfl) rfl rfl (Nat.le_of_ble_eq_true rfl) rfl ⟨by omega, by decide, by omega, by omega⟩ ?_
      rintro r9 n9 M ⟨hr9, hn9, ⟨⟨p7, hL7, hp7⟩, hFr7⟩⟩
      subst hr9
      rw [hn9]
      clear hn9 n9
      dsimp only [Option.toList, List.cons_append, List.nil_append]
      have hFr := hFr.trans hFr7
      have hgA : grps (upAN A1 5 q 5) (upN S 12 0 4) [] = grps (nearO (rall (A 3))) (S 4) [] := hg
      have hlen : (grps (nearO (rall (A 3))) (S 4) []).length ≤ 8 := grps_len hu (Nat.zero_le _)
      have hall : All8 (grps (nearO (rall (A 3))) (S 4) []) := grps_all (fun j hj => nearO_lt8) all8_nil
      have hp9 : Pl p7 (grps (nearO (rall (A 3))) (S 4) []) := by rw [← hg]; exact hp7
      have hL9 : Cl M a (logC a (upAN (upAN A1 5 q) 6 p7) (upN S 12 (grps (nearO (rall (A 3))) (S 4) []).length)) := by rw [← hgA, ← upN2 S 12 0]; exact hL7
      have hso : srt (A1 4) (grps (nearO (rall (A 3))) (S 4) []) (grps (nearO (rall (A 3))) (S 4) []).length = pOr (A 3) (S 4) := by rw [hA14]; unfold pOr; exact srt_cong hrc _ _
      clear hL hL7
      have hL := hL9
      generalize hqs : grps (nearO (rall (A 3))) (S 4) [] = qs at hL hlen hall hp9 hso
      have h4 : ∀ j, j < 8 → A1 4 j < 256 := fun j hj => by rw [hA14]; exact hrl j hj
      refine J.aload_n (pc := 87) G dX0_isCutByOrder_87 rfl ?_
      refine J.callV (pc := 88) (na := 0) G (c_sortByReach n M (ps := qs) hL hp9 upN_s hlen h4 hall) q266 q268 qp11 q269 q4 (by decide +kernel) dX0_isCutByOrder_88 (hL.at 0 rfl) rfl rfl (Nat.le_of_ble_eq_true rfl) rfl ⟨by omega, by decide, by omega, by omega⟩ ?_
      rintro r9 n9 M ⟨hr9, hn9, ⟨⟨p8, hL8, hp8, ha8⟩, hFr8⟩⟩
      subst hr9
      rw [hn9]
      clear hn9 n9
      dsimp only [Option.toList, List.cons_append, List.nil_append]
      have hFr := hFr.trans hFr8
      have hso2 : srt (upAN (upAN A1 5 q) 6 p7 4) qs qs.length = pOr (A 3) (S 4) := hso
      rw [hso2] at hp8 ha8
      have hpl : (pOr (A 3) (S 4)).length = qs.length := by rw [← hso]; exact srt_len _
      rw [upAN2, ← hpl] at hL8
      have hcut : Cut M a A S (pOr (A 3) (S 4)) := ⟨_, KeepA.tr hK1 (KeepA.tr (KeepA.up (by omega)) (KeepA.up (by omega))), hL8, hp8, by omega, ha8⟩
      have hS : upN S 12 (pOr (A 3) (S 4)).length 12 = (pOr (A 3) (S 4)).length := upN_s
      clear hL
      have hL := hL8
      refine J.aload_n (pc := 91) G dX0_isCutByOrder_91 rfl ?_
      refine J.getf (pc := 92) (ci := 0) G inX0 rfl 12 q106 dX0_isCutByOrder_92 (hL.at 0 rfl) (by decide) rfl ?_
      refine J.iconstN (pc := 95) G dX0_isCutByOrder_95 1 rfl ?_
      refine J.icmp_leN (pc := 96) (tgt := 103) G dX0_isCutByOrder_96 (by decide) (by omega) (by omega) (fun h => ?_) (fun h => ?_)
      · refine J.iconstN (pc := 103) G dX0_isCutByOrder_103 0 rfl ?_
        exact J.zret0 (pc := 104) G hO dX0_isCutByOrder_104 (Nat.le_refl _) (Nat.le_refl _) ⟨by rw [decide_eq_false (by omega)], rfl, hcut, hM1 ▸ hFr⟩
      · refine J.iconstN (pc := 99) G dX0_isCutByOrder_99 1 rfl ?_
        refine J.goto (tgt := 104) (pc := 100) G dX0_isCutByOrder_100 (by decide) ?_
        exact J.zret1 (pc := 104) G hO dX0_isCutByOrder_104 (Nat.le_refl _) (Nat.le_refl _) ⟨by rw [decide_eq_true (by omega)], rfl, hcut, hM1 ▸ hFr⟩
    · have hi8 : i < 8 := h
      refine J.aload_n (pc := 17) G dX0_isCutByOrder_17 rfl ?_
      refine J.getf (pc := 18) (ci := 0) G inX0 rfl 10 q103 dX0_isCutByOrder_18 (hL.at 0 rfl) (by decide) rfl ?_
      refine J.iload_n (pc := 21) G dX0_isCutByOrder_21 rfl ?_
      refine J.iconstN (pc := 22) G dX0_isCutByOrder_22 0 rfl ?_
      refine J.iastN (pc := 23) G dX0_isCutByOrder_23 (hL.at 5 rfl) (by omega) (by decide) (fun M hput hag => ?_)
      have hL := logA5 hL hput hag
      have hFr := hFr.put hag (by omega) (by omega)
      clear hput hag
      refine J.iconstN (pc := 24) G dX0_isCutByOrder_24 0 rfl ?_
      refine J.istore_n (L' := [_, _, _]) (pc := 25) G dX0_isCutByOrder_25 rfl (Nat.le_of_ble_eq_true rfl) rfl ?_
      rw [upAN2] at hL
      have K2 : ∀ s : Nat × AH, (s.1 ≤ 8 ∧ Cl s.2 a (logC a (upAN A1 5 (upN q i (it (fun b v => if (A1 4 i).testBit b = (A1 4 b).testBit i then v ||| 2 ^ b else v) 0 s.1))) (upN S 12 0)) ∧ Fr a (a + 7) M1 s.2) → J g 0 0 n s.2 [some (.ref a), some (.int (iI (i : Int))), some (.int (iI (s.1 : Int)))] 26 [] := by
        refine loopJ (fun s => 8 - s.1) _ _ ?_
        rintro ⟨x, M⟩ ⟨hx, hL, hFr⟩ ih3
        dsimp only at hx hL hFr ih3 ⊢
        generalize hv : it (fun b v => if (A1 4 i).testBit b = (A1 4 b).testBit i then v ||| 2 ^ b else v) 0 x = v at hL
        refine J.iload_n (pc := 26) G dX0_isCutByOrder_26 rfl ?_
        refine J.bipushN (pc := 27) G dX0_isCutByOrder_27 8 (by decide +kernel) ?_
        refine J.icmp_geN (pc := 29) (tgt := 73) G dX0_isCutByOrder_29 (by decide) (by omega) (by omega) (fun h9 => ?_) (fun h9 => ?_)
        · have e8 : x = 8 := by omega
          subst e8
          refine J.fgt (L' := [_, _, _]) 2 rfl ?_
          refine J.iincN (L' := [_, _, _]) (pc := 73) G dX0_isCutByOrder_73 1 rfl rfl rfl rfl ?_
          refine J.goto (tgt := 11) (pc := 76) G dX0_isCutByOrder_76 (by decide) ?_
          refine ih (i + 1, M) ⟨by dsimp only; omega, ?_, hFr⟩ (by dsimp only; omega)
          rw [← fillN_s, hq]
          unfold nearO
          rw [hv]
          exact hL
        · have hx8 : x < 8 := h9
          have b1 : A1 4 x < 256 := by rw [hA14]; exact hrl x hx8
          have b2 : A1 4 i < 256 := by rw [hA14]; exact hrl i hi8
          refine J.aload_n (pc := 32) G dX0_isCutByOrder_32 rfl ?_
          refine J.getf (pc := 33) (ci := 0) G inX0 rfl 9 q101 dX0_isCutByOrder_33 (hL.at 0 rfl) (by decide) rfl ?_
          refine J.iload_n (pc := 36) G dX0_isCutByOrder_36 rfl ?_
          refine J.ialdN (pc := 37) G dX0_isCutByOrder_37 (hL.at 4 rfl) (by omega) (by decide) ?_
          refine J.iload_n (pc := 38) G dX0_isCutByOrder_38 rfl ?_
          refine J.callSN (pc := 39) (na := 2) G (c_contains n M (m := A1 4 i) (l := x) (by omega) (by omega)) (mem_nw 3) q248 q249 q1 (by decide +kernel) dX0_isCutByOrder_39 rfl (Nat.le_of_ble_eq_true rfl) rfl ⟨by omega, by decide, by omega, by omega⟩ ?_
          rintro r9 n9 M9 ⟨hr9, hn9, hM9⟩
          subst hr9
          rw [hn9, hM9]
          clear hn9 hM9 n9 M9
          dsimp only [Option.toList, List.cons_append, List.nil_append]
          refine J.aload_n (pc := 42) G dX0_isCutByOrder_42 rfl ?_
          refine J.getf (pc := 43) (ci := 0) G inX0 rfl 9 q101 dX0_isCutByOrder_43 (hL.at 0 rfl) (by decide) rfl ?_
          refine J.iload_n (pc := 46) G dX0_isCutByOrder_46 rfl ?_
          refine J.ialdN (pc := 47) G dX0_isCutByOrder_47 (hL.at 4 rfl) (by omega) (by decide) ?_
          refine J.iload_n (pc := 48) G dX0_isCutByOrder_48 rfl ?_
          refine J.callSN (pc := 49) (na := 2) G (c_contains n M (m := A1 4 x) (l := i) (by omega) (by omega)) (mem_nw 3) q248 q249 q1 (by decide +kernel) dX0_isCutByOrder_49 rfl (Nat.le_of_ble_eq_true rfl) rfl ⟨by omega, by decide, by omega, by omega⟩ ?_
          rintro r9 n9 M9 ⟨hr9, hn9, hM9⟩
          subst hr9
          rw [hn9, hM9]
          clear hn9 hM9 n9 M9
          dsimp only [Option.toList, List.cons_append, List.nil_append]
          refine J.icmp_ne_b (pc := 52) (tgt := 67) G dX0_isCutByOrder_52 (by decide) (fun hc => ?_) (fun hc => ?_)
          · refine J.iincN (L' := [_, _, _]) (pc := 67) G dX0_isCutByOrder_67 1 rfl rfl rfl rfl ?_
            refine J.goto (tgt := 26) (pc := 70) G dX0_isCutByOrder_70 (by decide) ?_
            refine ih3 (x + 1, M) ⟨by dsimp only; omega, ?_, hFr⟩ (by dsimp only; omega)
            rw [it_s, hv, if_neg hc]
            exact hL
          · refine J.aload_n (pc := 55) G dX0_isCutByOrder_55 rfl ?_
            refine J.getf (pc := 56) (ci := 0) G inX0 rfl 10 q103 dX0_isCutByOrder_56 (hL.at 0 rfl) (by decide) rfl ?_
            refine J.iload_n (pc := 59) G dX0_isCutByOrder_59 rfl ?_
            refine J.dup2 (pc := 60) G dX0_isCutByOrder_60 rfl rfl ?_
            refine J.ialdN (pc := 61) G dX0_isCutByOrder_61 (hL.at 5 rfl) (by omega) (by decide) ?_
            refine J.iconstN (pc := 62) G dX0_isCutByOrder_62 1 rfl ?_
            refine J.iload_n (pc := 63) G dX0_isCutByOrder_63 rfl ?_
            refine J.ishl1 (pc := 64) G dX0_isCutByOrder_64 (by omega) ?_
            refine J.iorN (pc := 65) G dX0_isCutByOrder_65 ?_
            refine J.iastN (pc := 66) G dX0_isCutByOrder_66 (hL.at 5 rfl) (by omega) (by decide) (fun M hput hag => ?_)
            have hL := logA5 hL hput hag
            have hFr := hFr.put hag (by omega) (by omega)
            clear hput hag
            refine J.iincN (L' := [_, _, _]) (pc := 67) G dX0_isCutByOrder_67 1 rfl rfl rfl rfl ?_
            refine J.goto (tgt := 26) (pc := 70) G dX0_isCutByOrder_70 (by decide) ?_
            rw [upAN2] at hL
            refine ih3 (x + 1, M) ⟨by dsimp only; omega, ?_, hFr⟩ (by dsimp only; omega)
            rw [it_s, hv, if_pos hc]
            have : Cl M a (logC a (upAN A1 5 (upN (upN q i v) i (upN q i v i ||| 2 ^ x))) (upN S 12 0)) := hL
            rw [upN2, upN_s] at this
            exact this
      exact K2 (0, M) ⟨by omega, hL, hFr⟩
  exact K1 (0, M) ⟨by omega, by rw [fillN_0, upAN_same]; exact hL, hFr⟩
def pBo (nx : Nat → Nat) (u b e : Nat) : List Nat := jl b e 8 (grps (nearB nx) u [])
theorem nearB_lt8 {rc : Nat → Nat} {a : Nat} : nearB rc a < 256 := nearB_lt (Nat.le_refl 8)
set_option maxRecDepth 100000 in
set_option maxHeartbeats 4000000 in
theorem c_isCutByBoth (n : Nat) (M0 : AH) {a : Nat} {A : Nat → Nat → Nat} {S : Nat → Nat} (hL : Cl M0 a (logC a A S)) (hb : ∀ j, j < 8 → A 3 j < 256) (hu : S 4 < 256) : Fn yX0_isCutByBoth cX0_isCutByBoth 3 (some .boolean) 3 [.ref a] n M0 0 0 (fun r n' M' => r = some (.int (bI (decide (1 < (pBo (A 3) (S 4) (S 5) (S 6)).length)))) ∧ n' = n ∧ Cut M' a A S (pBo (A 3) (S 4) (S 5) (S 6)) ∧ Fr a (a + 7) M0 M') := by
  refine Fn.of (by decide) [some _, none, none] rfl rfl (Nat.le_of_ble_eq_true rfl) ?_
  intro g G hin hO
  have hFr : Fr a (a + 7) M0 M0 := Fr.rf
  generalize hM1 : M0 = M1 at hL hFr
  refine J.aload_n (pc := 0) G dX0_isCutByBoth_0 rfl ?_
  refine J.iconstN (pc := 1) G dX0_isCutByBoth_1 0 rfl ?_
  refine J.putf (pc := 2) (ci := 0) G inX0 rfl tyX0 tyX0_ok nmX0 12 q106 dX0_isCutByBoth_2 (hL.at 0 rfl) (by decide) (Nat.le_of_ble_eq_true rfl) (Or.inl rfl) (tyX0_ok 12 (by decide)) (by first | rfl | decide +kernel) (by first | rfl | decide +kernel) (fun M hput hag => ?_)
  have hL := logS12 hL hput hag
  have hFr := hFr.put hag (by omega) (by omega)
  clear hput hag
  refine J.iconstN (pc := 5) G dX0_isCutByBoth_5 0 rfl ?_
  refine J.istore_n (L' := [_, _, _]) (pc := 6) G dX0_isCutByBoth_6 rfl (Nat.le_of_ble_eq_true rfl) rfl ?_
  have K1 : ∀ s : Nat × AH, (s.1 ≤ 8 ∧ Cl s.2 a (logC a (upAN A 5 (fillN (nearB (A 3)) (A 5) s.1)) (upN S 12 0)) ∧ Fr a (a + 7) M1 s.2) → J g 0 0 n s.2 [some (.ref a), some (.int (iI (s.1 : Int))), none] 7 [] := by
    refine loopJ (fun s => 8 - s.1) _ _ ?_
    rintro ⟨i, M⟩ ⟨hi, hL, hFr⟩ ih
    dsimp only at hi hL hFr ih ⊢
    generalize hq : fillN (nearB (A 3)) (A 5) i = q at hL
    refine J.iload_n (pc := 7) G dX0_isCutByBoth_7 rfl ?_
    refine J.bipushN (pc := 8) G dX0_isCutByBoth_8 8 (by decide +kernel) ?_
    refine J.icmp_geN (pc := 10) (tgt := 78) G dX0_isCutByBoth_10 (by decide) (by omega) (by omega) (fun h => ?_) (fun h => ?_)
    · have e8 : i = 8 := by omega
      subst e8
      refine J.fgt (L' := [_, _, _]) 1 rfl ?_
      have hg : grps q (S 4) [] = grps (nearB (A 3)) (S 4) [] := grps_cong (fun j hj => by rw [← hq, fillN_in hj])
      have hq8 : ∀ j, j < 8 → q j < 256 := fun j hj => by rw [← hq, fillN_in hj]; exact nearB_lt8
      refine J.aload_n (pc := 78) G dX0_isCutByBoth_78 rfl ?_
      refine J.aload_n (pc := 79) G dX0_isCutByBoth_79 rfl ?_
      refine J.getf (pc := 80) (ci := 0) G inX0 rfl 4 q91 dX0_isCutByBoth_80 (hL.at 0 rfl) (by decide) rfl ?_
      refine J.callV (pc := 83) (na := 1) G (c_addGroups n M (set := S 4) (ps := []) hL (fun j hj => absurd hj (Nat.not_lt_zero j)) rfl (Nat.zero_le _) hq8 hu) q250 q252 qp8 q253 q4 (by decide +kernel) dX0_isCutByBoth_83 (hL.at 0 rfl) rfl rfl (Nat.le_of_ble_eq_true rfl) rfl ⟨by omega, by decide, by omega, by omega⟩ ?_
      rintro r9 n9 M ⟨hr9, hn9, ⟨⟨p7, hL7, hp7⟩, hFr7⟩⟩
      subst hr9
      rw [hn9]
      clear hn9 n9
      dsimp only [Option.toList, List.cons_append, List.nil_append]
      have hFr := hFr.trans hFr7
      have hgA : grps (upAN A 5 q 5) (upN S 12 0 4) [] = grps (nearB (A 3)) (S 4) [] := hg
      have hlen : (grps (nearB (A 3)) (S 4) []).length ≤ 8 := grps_len hu (Nat.zero_le _)
      have hall : All8 (grps (nearB (A 3)) (S 4) []) := grps_all (fun j hj => nearB_lt8) all8_nil
      have hp9 : Pl p7 (grps (nearB (A 3)) (S 4) []) := by rw [← hg]; exact hp7
      have hL9 : Cl M a (logC a (upAN (upAN A 5 q) 6 p7) (upN S 12 (grps (nearB (A 3)) (S 4) []).length)) := by rw [← hgA, ← upN2 S 12 0]; exact hL7
      clear hL hL7
      have hL := hL9
      have hpB : jl (S 5) (S 6) 8 (grps (nearB (A 3)) (S 4) []) = pBo (A 3) (S 4) (S 5) (S 6) := rfl
      have hinv := jl_inv (S 5) (S 6) 8 _ hlen hall
      rw [hpB] at hinv
      generalize hqs : grps (nearB (A 3)) (S 4) [] = qs at hL hlen hall hp9 hpB
      refine J.aload_n (pc := 86) G dX0_isCutByBoth_86 rfl ?_
      refine J.callV (pc := 87) (na := 0) G (c_joinLacking n M (ps := qs) hL hp9 upN_s hlen hall) q278 q280 qp14 q281 q4 (by decide +kernel) dX0_isCutByBoth_87 (hL.at 0 rfl) rfl rfl (Nat.le_of_ble_eq_true rfl) rfl ⟨by omega, by decide, by omega, by omega⟩ ?_
      rintro r9 n9 M ⟨hr9, hn9, ⟨⟨p8, hL8, hp8⟩, hFr8⟩⟩
      subst hr9
      rw [hn9]
      clear hn9 n9
      dsimp only [Option.toList, List.cons_append, List.nil_append]
      have hFr := hFr.trans hFr8
      have hpB2 : jl (upN S 12 qs.length 5) (upN S 12 qs.length 6) 8 qs = pBo (A 3) (S 4) (S 5) (S 6) := hpB
      rw [hpB2] at hp8 hL8
      rw [upAN2, upN2] at hL8
      have hcut : Cut M a A S (pBo (A 3) (S 4) (S 5) (S 6)) := ⟨_, KeepA.tr (KeepA.up (by omega)) (KeepA.up (by omega)), hL8, hp8, hinv.1, hinv.2⟩
      have hpl := hinv.1
      have hS : upN S 12 (pBo (A 3) (S 4) (S 5) (S 6)).length 12 = (pBo (A 3) (S 4) (S 5) (S 6)).length := upN_s
      clear hL
      have hL := hL8
      refine J.aload_n (pc := 90) G dX0_isCutByBoth_90 rfl ?_
      refine J.getf (pc := 91) (ci := 0) G inX0 rfl 12 q106 dX0_isCutByBoth_91 (hL.at 0 rfl) (by decide) rfl ?_
      refine J.iconstN (pc := 94) G dX0_isCutByBoth_94 1 rfl ?_
      refine J.icmp_leN (pc := 95) (tgt := 102) G dX0_isCutByBoth_95 (by decide) (by omega) (by omega) (fun h => ?_) (fun h => ?_)
      · refine J.iconstN (pc := 102) G dX0_isCutByBoth_102 0 rfl ?_
        exact J.zret0 (pc := 103) G hO dX0_isCutByBoth_103 (Nat.le_refl _) (Nat.le_refl _) ⟨by rw [decide_eq_false (by omega)], rfl, hcut, hM1 ▸ hFr⟩
      · refine J.iconstN (pc := 98) G dX0_isCutByBoth_98 1 rfl ?_
        refine J.goto (tgt := 103) (pc := 99) G dX0_isCutByBoth_99 (by decide) ?_
        exact J.zret1 (pc := 103) G hO dX0_isCutByBoth_103 (Nat.le_refl _) (Nat.le_refl _) ⟨by rw [decide_eq_true (by omega)], rfl, hcut, hM1 ▸ hFr⟩
    · have hi8 : i < 8 := h
      refine J.aload_n (pc := 13) G dX0_isCutByBoth_13 rfl ?_
      refine J.getf (pc := 14) (ci := 0) G inX0 rfl 10 q103 dX0_isCutByBoth_14 (hL.at 0 rfl) (by decide) rfl ?_
      refine J.iload_n (pc := 17) G dX0_isCutByBoth_17 rfl ?_
      refine J.iconstN (pc := 18) G dX0_isCutByBoth_18 0 rfl ?_
      refine J.iastN (pc := 19) G dX0_isCutByBoth_19 (hL.at 5 rfl) (by omega) (by decide) (fun M hput hag => ?_)
      have hL := logA5 hL hput hag
      have hFr := hFr.put hag (by omega) (by omega)
      clear hput hag
      refine J.iconstN (pc := 20) G dX0_isCutByBoth_20 0 rfl ?_
      refine J.istore_n (L' := [_, _, _]) (pc := 21) G dX0_isCutByBoth_21 rfl (Nat.le_of_ble_eq_true rfl) rfl ?_
      rw [upAN2] at hL
      have K2 : ∀ s : Nat × AH, (s.1 ≤ 8 ∧ Cl s.2 a (logC a (upAN A 5 (upN q i (it (fun b v => if (A 3 i).testBit b = true ∧ (A 3 b).testBit i = true then v else v ||| 2 ^ b) 0 s.1))) (upN S 12 0)) ∧ Fr a (a + 7) M1 s.2) → J g 0 0 n s.2 [some (.ref a), some (.int (iI (i : Int))), some (.int (iI (s.1 : Int)))] 22 [] := by
        refine loopJ (fun s => 8 - s.1) _ _ ?_
        rintro ⟨x, M⟩ ⟨hx, hL, hFr⟩ ih3
        dsimp only at hx hL hFr ih3 ⊢
        generalize hv : it (fun b v => if (A 3 i).testBit b = true ∧ (A 3 b).testBit i = true then v else v ||| 2 ^ b) 0 x = v at hL
        refine J.iload_n (pc := 22) G dX0_isCutByBoth_22 rfl ?_
        refine J.bipushN (pc := 23) G dX0_isCutByBoth_23 8 (by decide +kernel) ?_
        refine J.icmp_geN (pc := 25) (tgt := 72) G dX0_isCutByBoth_25 (by decide) (by omega) (by omega) (fun h9 => ?_) (fun h9 => ?_)
        · have e8 : x = 8 := by omega
          subst e8
          refine J.fgt (L' := [_, _, _]) 2 rfl ?_
          refine J.iincN (L' := [_, _, _]) (pc := 72) G dX0_isCutByBoth_72 1 rfl rfl rfl rfl ?_
          refine J.goto (tgt := 7) (pc := 75) G dX0_isCutByBoth_75 (by decide) ?_
          refine ih (i + 1, M) ⟨by dsimp only; omega, ?_, hFr⟩ (by dsimp only; omega)
          rw [← fillN_s, hq]
          unfold nearB
          rw [hv]
          exact hL
        · have hx8 : x < 8 := h9
          have b1 : A 3 x < 256 := hb x hx8
          have b2 : A 3 i < 256 := hb i hi8
          have put : ¬ ((A 3 i).testBit x = true ∧ (A 3 x).testBit i = true) → J g 0 0 n M [some (.ref a), some (.int (iI (i : Int))), some (.int (iI (x : Int)))] 54 [] := by
            intro hc
            refine J.aload_n (pc := 54) G dX0_isCutByBoth_54 rfl ?_
            refine J.getf (pc := 55) (ci := 0) G inX0 rfl 10 q103 dX0_isCutByBoth_55 (hL.at 0 rfl) (by decide) rfl ?_
            refine J.iload_n (pc := 58) G dX0_isCutByBoth_58 rfl ?_
            refine J.dup2 (pc := 59) G dX0_isCutByBoth_59 rfl rfl ?_
            refine J.ialdN (pc := 60) G dX0_isCutByBoth_60 (hL.at 5 rfl) (by omega) (by decide) ?_
            refine J.iconstN (pc := 61) G dX0_isCutByBoth_61 1 rfl ?_
            refine J.iload_n (pc := 62) G dX0_isCutByBoth_62 rfl ?_
            refine J.ishl1 (pc := 63) G dX0_isCutByBoth_63 (by omega) ?_
            refine J.iorN (pc := 64) G dX0_isCutByBoth_64 ?_
            refine J.iastN (pc := 65) G dX0_isCutByBoth_65 (hL.at 5 rfl) (by omega) (by decide) (fun M hput hag => ?_)
            have hL := logA5 hL hput hag
            have hFr := hFr.put hag (by omega) (by omega)
            clear hput hag
            refine J.iincN (L' := [_, _, _]) (pc := 66) G dX0_isCutByBoth_66 1 rfl rfl rfl rfl ?_
            refine J.goto (tgt := 22) (pc := 69) G dX0_isCutByBoth_69 (by decide) ?_
            rw [upAN2] at hL
            refine ih3 (x + 1, M) ⟨by dsimp only; omega, ?_, hFr⟩ (by dsimp only; omega)
            rw [it_s, hv, if_neg hc]
            have : Cl M a (logC a (upAN A 5 (upN (upN q i v) i (upN q i v i ||| 2 ^ x))) (upN S 12 0)) := hL
            rw [upN2, upN_s] at this
            exact this
          refine J.aload_n (pc := 28) G dX0_isCutByBoth_28 rfl ?_
          refine J.getf (pc := 29) (ci := 0) G inX0 rfl 8 q99 dX0_isCutByBoth_29 (hL.at 0 rfl) (by decide) rfl ?_
          refine J.iload_n (pc := 32) G dX0_isCutByBoth_32 rfl ?_
          refine J.ialdN (pc := 33) G dX0_isCutByBoth_33 (hL.at 3 rfl) (by omega) (by decide) ?_
          refine J.iload_n (pc := 34) G dX0_isCutByBoth_34 rfl ?_
          refine J.callSN (pc := 35) (na := 2) G (c_contains n M (m := A 3 i) (l := x) (by omega) (by omega)) (mem_nw 3) q248 q249 q1 (by decide +kernel) dX0_isCutByBoth_35 rfl (Nat.le_of_ble_eq_true rfl) rfl ⟨by omega, by decide, by omega, by omega⟩ ?_
          rintro r9 n9 M9 ⟨hr9, hn9, hM9⟩
          subst hr9
          rw [hn9, hM9]
          clear hn9 hM9 n9 M9
          dsimp only [Option.toList, List.cons_append, List.nil_append]
          refine J.if_eq_b (pc := 38) (tgt := 54) G dX0_isCutByBoth_38 (by decide) (fun hc => ?_) (fun hc => ?_)
          · exact put (fun q => by rw [hc] at q; exact absurd q.1 (by decide))
          · refine J.aload_n (pc := 41) G dX0_isCutByBoth_41 rfl ?_
            refine J.getf (pc := 42) (ci := 0) G inX0 rfl 8 q99 dX0_isCutByBoth_42 (hL.at 0 rfl) (by decide) rfl ?_
            refine J.iload_n (pc := 45) G dX0_isCutByBoth_45 rfl ?_
            refine J.ialdN (pc := 46) G dX0_isCutByBoth_46 (hL.at 3 rfl) (by omega) (by decide) ?_
            refine J.iload_n (pc := 47) G dX0_isCutByBoth_47 rfl ?_
            refine J.callSN (pc := 48) (na := 2) G (c_contains n M (m := A 3 x) (l := i) (by omega) (by omega)) (mem_nw 3) q248 q249 q1 (by decide +kernel) dX0_isCutByBoth_48 rfl (Nat.le_of_ble_eq_true rfl) rfl ⟨by omega, by decide, by omega, by omega⟩ ?_
            rintro r9 n9 M9 ⟨hr9, hn9, hM9⟩
            subst hr9
            rw [hn9, hM9]
            clear hn9 hM9 n9 M9
            dsimp only [Option.toList, List.cons_append, List.nil_append]
            refine J.if_ne_b (pc := 51) (tgt := 66) G dX0_isCutByBoth_51 (by decide) (fun hc2 => ?_) (fun hc2 => ?_)
            · refine J.iincN (L' := [_, _, _]) (pc := 66) G dX0_isCutByBoth_66 1 rfl rfl rfl rfl ?_
              refine J.goto (tgt := 22) (pc := 69) G dX0_isCutByBoth_69 (by decide) ?_
              refine ih3 (x + 1, M) ⟨by dsimp only; omega, ?_, hFr⟩ (by dsimp only; omega)
              rw [it_s, hv, if_pos ⟨hc, hc2⟩]
              exact hL
            · exact put (fun q => by rw [hc2] at q; exact absurd q.2 (by decide))
      exact K2 (0, M) ⟨by omega, hL, hFr⟩
  exact K1 (0, M) ⟨by omega, by rw [fillN_0, upAN_same]; exact hL, hFr⟩
end LOG8
