section LOG2
set_option maxRecDepth 100000 in
set_option maxHeartbeats 4000000 in
theorem c_findReach (n : Nat) (M0 : AH) {a : Nat} {A : Nat → Nat → Nat} {S : Nat → Nat} (hL : Cl M0 a (logC a A S)) (hb : ∀ j, j < 8 → A 3 j < 256) : Fn yX0_findReach cX0_findReach 3 none 1 [.ref a] n M0 0 0 (fun r n' M' => r = none ∧ n' = n ∧ Cl M' a (logC a (upAN A 4 (rall (fillN (A 3) (A 4) 8))) S) ∧ Fr a (a + 7) M0 M') := by
  refine Fn.of (by decide) [some _, none, none] rfl rfl (Nat.le_of_ble_eq_true rfl) ?_
  intro g G hin hO
  refine J.iconstN (pc := 0) G dX0_findReach_0 0 rfl ?_
  refine J.istore_n (L' := [_, _, _]) (pc := 1) G dX0_findReach_1 rfl (Nat.le_of_ble_eq_true rfl) rfl ?_
  -- rows are copied
  have K1 : ∀ s : Nat × AH, (s.1 ≤ 8 ∧ Cl s.2 a (logC a (upAN A 4 (fillN (A 3) (A 4) s.1)) S) ∧ Fr a (a + 7) M0 s.2) → J g 0 0 n s.2 [some (.ref a), some (.int (iI (s.1 : Int))), none] 2 [] := by
    refine loopJ (fun s => 8 - s.1) _ _ ?_
    rintro ⟨i, M⟩ ⟨hi, hL, hFr⟩ ih
    dsimp only at hi hL hFr ih ⊢
    refine J.iload_n (pc := 2) G dX0_findReach_2 rfl ?_
    refine J.bipushN (pc := 3) G dX0_findReach_3 8 (by decide +kernel) ?_
    refine J.icmp_geN (pc := 5) (tgt := 26) G dX0_findReach_5 (by decide) (by omega) (by omega) (fun h => ?_) (fun h => ?_)
    · -- the ways
      have e8 : i = 8 := by omega
      subst e8
      generalize hf0 : fillN (A 3) (A 4) 8 = f0 at hL ⊢
      have hf8 : ∀ j, j < 8 → f0 j < 256 := fun j hj => by rw [← hf0, fillN_in hj]; exact hb j hj
      refine J.iconstN (pc := 26) G dX0_findReach_26 0 rfl ?_
      refine J.istore_n (L' := [_, _, _]) (pc := 27) G dX0_findReach_27 rfl (Nat.le_of_ble_eq_true rfl) rfl ?_
      have K2 : ∀ s : Nat × AH, (s.1 ≤ 8 ∧ Cl s.2 a (logC a (upAN A 4 (it (fun w r => it (fun a r => rstep w a r) r 8) f0 s.1)) S) ∧ (∀ j, j < 8 → it (fun w r => it (fun a r => rstep w a r) r 8) f0 s.1 j < 256) ∧ Fr a (a + 7) M0 s.2) → J g 0 0 n s.2 [some (.ref a), some (.int (iI (s.1 : Int))), none] 28 [] := by
        refine loopJ (fun s => 8 - s.1) _ _ ?_
        rintro ⟨w, M⟩ ⟨hw, hL, hr8, hFr⟩ ih
        dsimp only at hw hL hFr hr8 ih ⊢
        generalize hr0 : it (fun w r => it (fun a r => rstep w a r) r 8) f0 w = r0 at hL hr8
        refine J.iload_n (pc := 28) G dX0_findReach_28 rfl ?_
        refine J.bipushN (pc := 29) G dX0_findReach_29 8 (by decide +kernel) ?_
        refine J.icmp_geN (pc := 31) (tgt := 82) G dX0_findReach_31 (by decide) (by omega) (by omega) (fun h => ?_) (fun h => ?_)
        · have e8 : w = 8 := by omega
          subst e8
          rw [← hr0] at hL
          exact J.vret (pc := 82) G hO dX0_findReach_82 (Nat.le_refl _) (Nat.le_refl _) ⟨rfl, rfl, by rw [hf0]; exact hL, hFr⟩
        · refine J.iconstN (pc := 34) G dX0_findReach_34 0 rfl ?_
          refine J.istore_n (L' := [_, _, _]) (pc := 35) G dX0_findReach_35 rfl (Nat.le_of_ble_eq_true rfl) rfl ?_
          have K3 : ∀ s : Nat × AH, (s.1 ≤ 8 ∧ Cl s.2 a (logC a (upAN A 4 (it (fun a r => rstep w a r) r0 s.1)) S) ∧ (∀ j, j < 8 → it (fun a r => rstep w a r) r0 s.1 j < 256) ∧ Fr a (a + 7) M0 s.2) → J g 0 0 n s.2 [some (.ref a), some (.int (iI (w : Int))), some (.int (iI (s.1 : Int)))] 36 [] := by
            refine loopJ (fun s => 8 - s.1) _ _ ?_
            rintro ⟨x, M⟩ ⟨hx, hL, hr8, hFr⟩ ih3
            dsimp only at hx hL hFr hr8 ih3 ⊢
            generalize hrx : it (fun a r => rstep w a r) r0 x = rx at hL hr8
            refine J.iload_n (pc := 36) G dX0_findReach_36 rfl ?_
            refine J.bipushN (pc := 37) G dX0_findReach_37 8 (by decide +kernel) ?_
            refine J.icmp_geN (pc := 39) (tgt := 76) G dX0_findReach_39 (by decide) (by omega) (by omega) (fun h9 => ?_) (fun h9 => ?_)
            · have e8 : x = 8 := by omega
              subst e8
              refine J.fgt (L' := [_, _, _]) 2 rfl ?_
              refine J.iincN (L' := [_, _, _]) (pc := 76) G dX0_findReach_76 1 rfl rfl rfl rfl ?_
              refine J.goto (tgt := 28) (pc := 79) G dX0_findReach_79 (by decide) ?_
              refine ih (w + 1, M) ⟨by omega, ?_, ?_, hFr⟩ (by dsimp only; omega)
              · rw [it_s, hr0, hrx]; exact hL
              · rw [it_s, hr0, hrx]; exact hr8
            · have hx8 : x < 8 := h9
              have hw8 : w < 8 := h
              have b1 : rx x < 256 := hr8 x hx8
              have b2 : rx w < 256 := hr8 w hw8
              refine J.aload_n (pc := 42) G dX0_findReach_42 rfl ?_
              refine J.getf (pc := 43) (ci := 0) G inX0 rfl 9 q101 dX0_findReach_43 (hL.at 0 rfl) (by decide) rfl ?_
              refine J.iload_n (pc := 46) G dX0_findReach_46 rfl ?_
              refine J.ialdN (pc := 47) G dX0_findReach_47 (hL.at 4 rfl) (by omega) (by decide) ?_
              refine J.iload_n (pc := 48) G dX0_findReach_48 rfl ?_
              refine J.callSN (pc := 49) (na := 2) G (c_contains n M (m := rx x) (l := w) (by omega) (by omega)) (mem_nw 3) q248 q249 q1 (by decide +kernel) dX0_findReach_49 rfl (Nat.le_of_ble_eq_true rfl) rfl ⟨by omega, by decide, by omega, by omega⟩ ?_
              rintro r9 n9 M9 ⟨hr9, hn9, hM9⟩
              subst hr9
              rw [hn9, hM9]
              clear hn9 hM9 n9 M9
              dsimp only [Option.toList, List.cons_append, List.nil_append]
              refine J.if_eq_b (pc := 52) (tgt := 70) G dX0_findReach_52 (by decide) (fun hc => ?_) (fun hc => ?_)
              · refine J.iincN (L' := [_, _, _]) (pc := 70) G dX0_findReach_70 1 rfl rfl rfl rfl ?_
                refine J.goto (tgt := 36) (pc := 73) G dX0_findReach_73 (by decide) ?_
                refine ih3 (x + 1, M) ⟨by dsimp only; omega, ?_, ?_, hFr⟩ (by dsimp only; omega)
                · rw [it_s, hrx, show rstep w x rx = rx by simp [rstep, hc]]; exact hL
                · rw [it_s, hrx, show rstep w x rx = rx by simp [rstep, hc]]; exact hr8
              · refine J.aload_n (pc := 55) G dX0_findReach_55 rfl ?_
                refine J.getf (pc := 56) (ci := 0) G inX0 rfl 9 q101 dX0_findReach_56 (hL.at 0 rfl) (by decide) rfl ?_
                refine J.iload_n (pc := 59) G dX0_findReach_59 rfl ?_
                refine J.dup2 (pc := 60) G dX0_findReach_60 rfl rfl ?_
                refine J.ialdN (pc := 61) G dX0_findReach_61 (hL.at 4 rfl) (by omega) (by decide) ?_
                refine J.aload_n (pc := 62) G dX0_findReach_62 rfl ?_
                refine J.getf (pc := 63) (ci := 0) G inX0 rfl 9 q101 dX0_findReach_63 (hL.at 0 rfl) (by decide) rfl ?_
                refine J.iload_n (pc := 66) G dX0_findReach_66 rfl ?_
                refine J.ialdN (pc := 67) G dX0_findReach_67 (hL.at 4 rfl) (by omega) (by decide) ?_
                refine J.iorN (pc := 68) G dX0_findReach_68 ?_
                refine J.iastN (pc := 69) G dX0_findReach_69 (hL.at 4 rfl) (by omega) (by decide) (fun M hput hag => ?_)
                have hL := logA4 hL hput hag
                have hFr := hFr.put hag (by omega) (by omega)
                clear hput hag
                refine J.iincN (L' := [_, _, _]) (pc := 70) G dX0_findReach_70 1 rfl rfl rfl rfl ?_
                refine J.goto (tgt := 36) (pc := 73) G dX0_findReach_73 (by decide) ?_
                rw [upAN2] at hL
                have e9 : it (fun a r => rstep w a r) r0 (x + 1) = upN rx x (rx x ||| rx w) := by rw [it_s, hrx]; simp [rstep, hc]
                refine ih3 (x + 1, M) ⟨by dsimp only; omega, ?_, ?_, hFr⟩ (by dsimp only; omega)
                · rw [e9]; exact hL
                · intro j hj
                  have := rstep_lt (w := w) (a := x) hw8 hr8 j hj
                  rw [e9]
                  simpa [rstep, hc] using this
          exact K3 (0, M) ⟨by omega, hL, hr8, hFr⟩
      exact K2 (0, M) ⟨by omega, hL, hf8, hFr⟩
    · have hi8 : i < 8 := h
      refine J.aload_n (pc := 8) G dX0_findReach_8 rfl ?_
      refine J.getf (pc := 9) (ci := 0) G inX0 rfl 9 q101 dX0_findReach_9 (hL.at 0 rfl) (by decide) rfl ?_
      refine J.iload_n (pc := 12) G dX0_findReach_12 rfl ?_
      refine J.aload_n (pc := 13) G dX0_findReach_13 rfl ?_
      refine J.getf (pc := 14) (ci := 0) G inX0 rfl 8 q99 dX0_findReach_14 (hL.at 0 rfl) (by decide) rfl ?_
      refine J.iload_n (pc := 17) G dX0_findReach_17 rfl ?_
      refine J.ialdN (pc := 18) G dX0_findReach_18 (hL.at 3 rfl) (by omega) (by decide) ?_
      refine J.iastN (pc := 19) G dX0_findReach_19 (hL.at 4 rfl) (by omega) (by decide) (fun M hput hag => ?_)
      have hL := logA4 hL hput hag
      have hFr := hFr.put hag (by omega) (by omega)
      clear hput hag
      refine J.iincN (L' := [_, _, _]) (pc := 20) G dX0_findReach_20 1 rfl rfl rfl rfl ?_
      refine J.goto (tgt := 2) (pc := 23) G dX0_findReach_23 (by decide) ?_
      rw [upAN2] at hL
      refine ih (i + 1, M) ⟨by dsimp only; omega, ?_, hFr⟩ (by dsimp only; omega)
      rw [← fillN_s]
      exact hL
  exact K1 (0, M0) ⟨by omega, by rw [fillN_0, upAN_same]; exact hL, Fr.rf⟩
end LOG2
