section WRAPS
theorem Fx.post {y : MethodName} {cc : ByteArray} {nL : Nat} {ret : Option FieldType} {d : Nat} {av : List Value} {n : Nat} {M : AH} {mc ms : Nat} {post post' : Option Value → Nat → AH → Prop} {xpost xpost' : String → Nat → AH → Prop} (h : Fx y cc nL ret d av n M mc ms post xpost) (hp : ∀ r n' M', post r n' M' → post' r n' M') (hx : ∀ E n' M', xpost E n' M' → xpost' E n' M') : Fx y cc nL ret d av n M mc ms post' xpost' := by
  intro l hl E lo p e h1 h2 h3 s m args below hf hS hP hK
  obtain ⟨i, o, a1, a2, a3, a4⟩ := h l hl E lo p e h1 h2 h3 s m args below hf hS hP hK
  refine ⟨i, o, a1, a2, a3, ?_⟩
  rcases a4 with ⟨⟨r, n', M', b1, b2, b3⟩, b4⟩ | ⟨q, b1, E9, ce, L, ⟨n', M', c1, c2⟩, c3⟩
  · exact Or.inl ⟨⟨r, n', M', b1, hp _ _ _ b2, b3⟩, b4⟩
  · exact Or.inr ⟨q, b1, E9, ce, L, ⟨n', M', hx _ _ _ c1, c2⟩, c3⟩
set_option maxRecDepth 100000 in
set_option maxHeartbeats 4000000 in
theorem W_event (n : Nat) (M0 : AH) {a o d mc ms : Nat} {fs : List Value} {v0 : Int} {f0 : Nat → Int64} {Q : Int32 → Nat → AH → Prop} {X1 X2 : Nat → AH → Prop} (hX : M0 a = some (cO 3 fs)) (hF : Fx yX3_event cX3_event 2 (some .int) d [.ref a, .int (iI v0)] n M0 mc ms (fun r n' M' => ∃ x, r = some (.int x) ∧ Q x n' M') (fun E n' M' => (E = IOB ∧ X1 n' M') ∨ (E = ISE ∧ X2 n' M'))) (ho : ∀ x n' M', Q x n' M' → M' o = some (cJ 1 f0)) : Fw yL_event cL_event 4 (some .int) [(0, 9, 12, 13), (0, 9, 15, 15)] (d + 1) [.ref a, .int (iI v0), .ref o] n M0 mc ms (fun r n' M' => (∃ x M1 f, r = some (.int (iI ((0 : Nat) : Int))) ∧ Q x n' M1 ∧ M' o = some (cJ 1 f) ∧ f 0 = x.toInt64 ∧ ∀ q, q ≠ o → M' q = M1 q) ∨ (r = some (.int (iI ((1 : Nat) : Int))) ∧ X1 n' M') ∨ (r = some (.int (iI ((2 : Nat) : Int))) ∧ X2 n' M')) := by
  refine Fw.of (by decide) [some _, some _, some _, none] rfl rfl (Nat.le_of_ble_eq_true rfl) ?_
  intro g G hO htab
  refine J.aload_n (pc := 0) G dL_event_0 rfl ?_
  refine J.iconstN (pc := 1) G dL_event_1 0 rfl ?_
  refine J.aload_n (pc := 2) G dL_event_2 rfl ?_
  refine J.iload_n (pc := 3) G dL_event_3 rfl ?_
  refine J.callXV (pc := 4) (na := 1) G hF q335 q336 q337 q338 q1 (by decide +kernel) dL_event_4 hX rfl rfl (Nat.le_of_ble_eq_true rfl) rfl ⟨by omega, by decide, by omega, by omega⟩ (fun E n9 M9 h9 => ?_) ?_
  · rcases h9 with ⟨rfl, h2⟩ | ⟨rfl, h2⟩
    · refine JX.take G [] _ _ (htab.trans rfl) (fun y hy => absurd hy List.not_mem_nil) (by decide) (by decide) q333 (by decide) (fun q => ?_)
      refine J.astore_n (L' := [_, _, _, _]) (pc := 12) G dL_event_12 rfl (Nat.le_of_ble_eq_true rfl) rfl ?_
      refine J.iconstN (pc := 13) G dL_event_13 1 rfl ?_
      exact J.iret (pc := 14) G hO dL_event_14 (by omega) (by omega) (Or.inr (Or.inl ⟨rfl, h2⟩))
    · refine JX.take G [_] _ _ (htab.trans rfl) (fun y hy => ?_) (by decide) (by decide) q334 (by decide) (fun q => ?_)
      · rw [List.mem_singleton.mp hy]
        exact Or.inr ⟨by decide, _, q333, by decide⟩
      refine J.astore_n (L' := [_, _, _, _]) (pc := 15) G dL_event_15 rfl (Nat.le_of_ble_eq_true rfl) rfl ?_
      refine J.iconstN (pc := 16) G dL_event_16 2 rfl ?_
      exact J.iret (pc := 17) G hO dL_event_17 (by omega) (by omega) (Or.inr (Or.inr ⟨rfl, h2⟩))
  · rintro r9 n9 M7 ⟨x, hr9, hq⟩
    subst hr9
    dsimp only [Option.toList, List.cons_append, List.nil_append]
    refine J.i2l (pc := 7) G dL_event_7 ?_
    refine J.last (pc := 8) G dL_event_8 (ho _ _ _ hq) 0 rfl (by decide) (by decide) (fun M hput hag => ?_)
    refine J.goto (pc := 9) (tgt := 18) G dL_event_9 (by decide) ?_
    refine J.iconstN (pc := 18) G dL_event_18 0 rfl ?_
    exact J.iret (pc := 19) G hO dL_event_19 (by omega) (by omega) (Or.inl ⟨x, M7, _, rfl, hq, hput, rfl, hag⟩)
set_option maxRecDepth 100000 in
set_option maxHeartbeats 4000000 in
theorem W_endTrace (n : Nat) (M0 : AH) {a o d mc ms : Nat} {fs : List Value} {v0 : Int} {f0 : Nat → Int64} {Q : Int32 → Nat → AH → Prop} {X1 X2 : Nat → AH → Prop} (hX : M0 a = some (cO 3 fs)) (hF : Fx yX3_endTrace cX3_endTrace 4 (some .int) d [.ref a, .int (iI v0)] n M0 mc ms (fun r n' M' => ∃ x, r = some (.int x) ∧ Q x n' M') (fun E n' M' => (E = IAE ∧ X1 n' M') ∨ (E = ISE ∧ X2 n' M'))) (ho : ∀ x n' M', Q x n' M' → M' o = some (cJ 1 f0)) : Fw yL_endTrace cL_endTrace 4 (some .int) [(0, 9, 12, 20), (0, 9, 15, 15)] (d + 1) [.ref a, .int (iI v0), .ref o] n M0 mc ms (fun r n' M' => (∃ x M1 f, r = some (.int (iI ((0 : Nat) : Int))) ∧ Q x n' M1 ∧ M' o = some (cJ 1 f) ∧ f 0 = x.toInt64 ∧ ∀ q, q ≠ o → M' q = M1 q) ∨ (r = some (.int (iI ((1 : Nat) : Int))) ∧ X1 n' M') ∨ (r = some (.int (iI ((2 : Nat) : Int))) ∧ X2 n' M')) := by
  refine Fw.of (by decide) [some _, some _, some _, none] rfl rfl (Nat.le_of_ble_eq_true rfl) ?_
  intro g G hO htab
  refine J.aload_n (pc := 0) G dL_endTrace_0 rfl ?_
  refine J.iconstN (pc := 1) G dL_endTrace_1 0 rfl ?_
  refine J.aload_n (pc := 2) G dL_endTrace_2 rfl ?_
  refine J.iload_n (pc := 3) G dL_endTrace_3 rfl ?_
  refine J.callXV (pc := 4) (na := 1) G hF q430 q431 q432 q433 q1 (by decide +kernel) dL_endTrace_4 hX rfl rfl (Nat.le_of_ble_eq_true rfl) rfl ⟨by omega, by decide, by omega, by omega⟩ (fun E n9 M9 h9 => ?_) ?_
  · rcases h9 with ⟨rfl, h2⟩ | ⟨rfl, h2⟩
    · refine JX.take G [] _ _ (htab.trans rfl) (fun y hy => absurd hy List.not_mem_nil) (by decide) (by decide) q429 (by decide) (fun q => ?_)
      refine J.astore_n (L' := [_, _, _, _]) (pc := 12) G dL_endTrace_12 rfl (Nat.le_of_ble_eq_true rfl) rfl ?_
      refine J.iconstN (pc := 13) G dL_endTrace_13 1 rfl ?_
      exact J.iret (pc := 14) G hO dL_endTrace_14 (by omega) (by omega) (Or.inr (Or.inl ⟨rfl, h2⟩))
    · refine JX.take G [_] _ _ (htab.trans rfl) (fun y hy => ?_) (by decide) (by decide) q334 (by decide) (fun q => ?_)
      · rw [List.mem_singleton.mp hy]
        exact Or.inr ⟨by decide, _, q429, by decide⟩
      refine J.astore_n (L' := [_, _, _, _]) (pc := 15) G dL_endTrace_15 rfl (Nat.le_of_ble_eq_true rfl) rfl ?_
      refine J.iconstN (pc := 16) G dL_endTrace_16 2 rfl ?_
      exact J.iret (pc := 17) G hO dL_endTrace_17 (by omega) (by omega) (Or.inr (Or.inr ⟨rfl, h2⟩))
  · rintro r9 n9 M7 ⟨x, hr9, hq⟩
    subst hr9
    dsimp only [Option.toList, List.cons_append, List.nil_append]
    refine J.i2l (pc := 7) G dL_endTrace_7 ?_
    refine J.last (pc := 8) G dL_endTrace_8 (ho _ _ _ hq) 0 rfl (by decide) (by decide) (fun M hput hag => ?_)
    refine J.goto (pc := 9) (tgt := 18) G dL_endTrace_9 (by decide) ?_
    refine J.iconstN (pc := 18) G dL_endTrace_18 0 rfl ?_
    exact J.iret (pc := 19) G hO dL_endTrace_19 (by omega) (by omega) (Or.inl ⟨x, M7, _, rfl, hq, hput, rfl, hag⟩)
set_option maxRecDepth 100000 in
set_option maxHeartbeats 4000000 in
theorem W_setTimes (n : Nat) (M0 : AH) {a o d mc ms : Nat} {fs : List Value} {v0 : Int} {v1 : Int} {f0 : Nat → Int64} {Q : Int32 → Nat → AH → Prop} {X1 X2 : Nat → AH → Prop} (hX : M0 a = some (cO 3 fs)) (hF : Fx yX3_setTimes cX3_setTimes 4 (some .int) d [.ref a, .int (iI v0), .int (iI v1)] n M0 mc ms (fun r n' M' => ∃ x, r = some (.int x) ∧ Q x n' M') (fun E n' M' => (E = IOB ∧ X1 n' M') ∨ (E = IAE ∧ X2 n' M'))) (ho : ∀ x n' M', Q x n' M' → M' o = some (cJ 1 f0)) : Fw yL_setTimes cL_setTimes 5 (some .int) [(0, 10, 13, 13), (0, 10, 17, 20)] (d + 1) [.ref a, .int (iI v0), .int (iI v1), .ref o] n M0 mc ms (fun r n' M' => (∃ x M1 f, r = some (.int (iI ((0 : Nat) : Int))) ∧ Q x n' M1 ∧ M' o = some (cJ 1 f) ∧ f 0 = x.toInt64 ∧ ∀ q, q ≠ o → M' q = M1 q) ∨ (r = some (.int (iI ((1 : Nat) : Int))) ∧ X1 n' M') ∨ (r = some (.int (iI ((2 : Nat) : Int))) ∧ X2 n' M')) := by
  refine Fw.of (by decide) [some _, some _, some _, some _, none] rfl rfl (Nat.le_of_ble_eq_true rfl) ?_
  intro g G hO htab
  refine J.aload_n (pc := 0) G dL_setTimes_0 rfl ?_
  refine J.iconstN (pc := 1) G dL_setTimes_1 0 rfl ?_
  refine J.aload_n (pc := 2) G dL_setTimes_2 rfl ?_
  refine J.iload_n (pc := 3) G dL_setTimes_3 rfl ?_
  refine J.iload_n (pc := 4) G dL_setTimes_4 rfl ?_
  refine J.callXV (pc := 5) (na := 2) G hF q457 q458 q459 q460 q1 (by decide +kernel) dL_setTimes_5 hX rfl rfl (Nat.le_of_ble_eq_true rfl) rfl ⟨by omega, by decide, by omega, by omega⟩ (fun E n9 M9 h9 => ?_) ?_
  · rcases h9 with ⟨rfl, h2⟩ | ⟨rfl, h2⟩
    · refine JX.take G [] _ _ (htab.trans rfl) (fun y hy => absurd hy List.not_mem_nil) (by decide) (by decide) q333 (by decide) (fun q => ?_)
      refine J.astore (L' := [_, _, _, _, _]) (pc := 13) G dL_setTimes_13 rfl (Nat.le_of_ble_eq_true rfl) rfl ?_
      refine J.iconstN (pc := 15) G dL_setTimes_15 1 rfl ?_
      exact J.iret (pc := 16) G hO dL_setTimes_16 (by omega) (by omega) (Or.inr (Or.inl ⟨rfl, h2⟩))
    · refine JX.take G [_] _ _ (htab.trans rfl) (fun y hy => ?_) (by decide) (by decide) q429 (by decide) (fun q => ?_)
      · rw [List.mem_singleton.mp hy]
        exact Or.inr ⟨by decide, _, q333, by decide⟩
      refine J.astore (L' := [_, _, _, _, _]) (pc := 17) G dL_setTimes_17 rfl (Nat.le_of_ble_eq_true rfl) rfl ?_
      refine J.iconstN (pc := 19) G dL_setTimes_19 2 rfl ?_
      exact J.iret (pc := 20) G hO dL_setTimes_20 (by omega) (by omega) (Or.inr (Or.inr ⟨rfl, h2⟩))
  · rintro r9 n9 M7 ⟨x, hr9, hq⟩
    subst hr9
    dsimp only [Option.toList, List.cons_append, List.nil_append]
    refine J.i2l (pc := 8) G dL_setTimes_8 ?_
    refine J.last (pc := 9) G dL_setTimes_9 (ho _ _ _ hq) 0 rfl (by decide) (by decide) (fun M hput hag => ?_)
    refine J.goto (pc := 10) (tgt := 21) G dL_setTimes_10 (by decide) ?_
    refine J.iconstN (pc := 21) G dL_setTimes_21 0 rfl ?_
    exact J.iret (pc := 22) G hO dL_setTimes_22 (by omega) (by omega) (Or.inl ⟨x, M7, _, rfl, hq, hput, rfl, hag⟩)
set_option maxRecDepth 100000 in
set_option maxHeartbeats 4000000 in
theorem W_dropTrace (n : Nat) (M0 : AH) {a o d mc ms : Nat} {fs : List Value} {f0 : Nat → Int64} {Q : Int32 → Nat → AH → Prop} {X1 : Nat → AH → Prop} (hX : M0 a = some (cO 3 fs)) (hF : Fx yX3_dropTrace cX3_dropTrace 1 (some .int) d [.ref a] n M0 mc ms (fun r n' M' => ∃ x, r = some (.int x) ∧ Q x n' M') (fun E n' M' => (E = ISE ∧ X1 n' M'))) (ho : ∀ x n' M', Q x n' M' → M' o = some (cJ 1 f0)) : Fw yL_dropTrace cL_dropTrace 3 (some .int) [(0, 8, 11, 15)] (d + 1) [.ref a, .ref o] n M0 mc ms (fun r n' M' => (∃ x M1 f, r = some (.int (iI ((0 : Nat) : Int))) ∧ Q x n' M1 ∧ M' o = some (cJ 1 f) ∧ f 0 = x.toInt64 ∧ ∀ q, q ≠ o → M' q = M1 q) ∨ (r = some (.int (iI ((1 : Nat) : Int))) ∧ X1 n' M')) := by
  refine Fw.of (by decide) [some _, some _, none] rfl rfl (Nat.le_of_ble_eq_true rfl) ?_
  intro g G hO htab
  refine J.aload_n (pc := 0) G dL_dropTrace_0 rfl ?_
  refine J.iconstN (pc := 1) G dL_dropTrace_1 0 rfl ?_
  refine J.aload_n (pc := 2) G dL_dropTrace_2 rfl ?_
  refine J.callXV (pc := 3) (na := 0) G hF q469 q470 q471 q472 q1 (by decide +kernel) dL_dropTrace_3 hX rfl rfl (Nat.le_of_ble_eq_true rfl) rfl ⟨by omega, by decide, by omega, by omega⟩ (fun E n9 M9 h9 => ?_) ?_
  · obtain ⟨rfl, h2⟩ := h9
    refine JX.take G [] _ _ (htab.trans rfl) (fun y hy => absurd hy List.not_mem_nil) (by decide) (by decide) q334 (by decide) (fun q => ?_)
    refine J.astore_n (L' := [_, _, _]) (pc := 11) G dL_dropTrace_11 rfl (Nat.le_of_ble_eq_true rfl) rfl ?_
    refine J.iconstN (pc := 12) G dL_dropTrace_12 1 rfl ?_
    exact J.iret (pc := 13) G hO dL_dropTrace_13 (by omega) (by omega) (Or.inr ⟨rfl, h2⟩)
  · rintro r9 n9 M7 ⟨x, hr9, hq⟩
    subst hr9
    dsimp only [Option.toList, List.cons_append, List.nil_append]
    refine J.i2l (pc := 6) G dL_dropTrace_6 ?_
    refine J.last (pc := 7) G dL_dropTrace_7 (ho _ _ _ hq) 0 rfl (by decide) (by decide) (fun M hput hag => ?_)
    refine J.goto (pc := 8) (tgt := 14) G dL_dropTrace_8 (by decide) ?_
    refine J.iconstN (pc := 14) G dL_dropTrace_14 0 rfl ?_
    exact J.iret (pc := 15) G hO dL_dropTrace_15 (by omega) (by omega) (Or.inl ⟨x, M7, _, rfl, hq, hput, rfl, hag⟩)
set_option maxRecDepth 100000 in
set_option maxHeartbeats 4000000 in
theorem W_length (n : Nat) (M0 : AH) {a o d mc ms : Nat} {fs : List Value} {v0 : Int} {f0 : Nat → Int64} {Q : Int32 → Nat → AH → Prop} {X1 : Nat → AH → Prop} (hX : M0 a = some (cO 3 fs)) (hF : Fx yX3_length cX3_length 2 (some .int) d [.ref a, .int (iI v0)] n M0 mc ms (fun r n' M' => ∃ x, r = some (.int x) ∧ Q x n' M') (fun E n' M' => (E = IOB ∧ X1 n' M'))) (ho : ∀ x n' M', Q x n' M' → M' o = some (cJ 1 f0)) : Fw yL_length cL_length 4 (some .int) [(0, 9, 12, 13)] (d + 1) [.ref a, .int (iI v0), .ref o] n M0 mc ms (fun r n' M' => (∃ x M1 f, r = some (.int (iI ((0 : Nat) : Int))) ∧ Q x n' M1 ∧ M' o = some (cJ 1 f) ∧ f 0 = x.toInt64 ∧ ∀ q, q ≠ o → M' q = M1 q) ∨ (r = some (.int (iI ((1 : Nat) : Int))) ∧ X1 n' M')) := by
  refine Fw.of (by decide) [some _, some _, some _, none] rfl rfl (Nat.le_of_ble_eq_true rfl) ?_
  intro g G hO htab
  refine J.aload_n (pc := 0) G dL_length_0 rfl ?_
  refine J.iconstN (pc := 1) G dL_length_1 0 rfl ?_
  refine J.aload_n (pc := 2) G dL_length_2 rfl ?_
  refine J.iload_n (pc := 3) G dL_length_3 rfl ?_
  refine J.callXV (pc := 4) (na := 1) G hF q477 q478 q479 q480 q1 (by decide +kernel) dL_length_4 hX rfl rfl (Nat.le_of_ble_eq_true rfl) rfl ⟨by omega, by decide, by omega, by omega⟩ (fun E n9 M9 h9 => ?_) ?_
  · obtain ⟨rfl, h2⟩ := h9
    refine JX.take G [] _ _ (htab.trans rfl) (fun y hy => absurd hy List.not_mem_nil) (by decide) (by decide) q333 (by decide) (fun q => ?_)
    refine J.astore_n (L' := [_, _, _, _]) (pc := 12) G dL_length_12 rfl (Nat.le_of_ble_eq_true rfl) rfl ?_
    refine J.iconstN (pc := 13) G dL_length_13 1 rfl ?_
    exact J.iret (pc := 14) G hO dL_length_14 (by omega) (by omega) (Or.inr ⟨rfl, h2⟩)
  · rintro r9 n9 M7 ⟨x, hr9, hq⟩
    subst hr9
    dsimp only [Option.toList, List.cons_append, List.nil_append]
    refine J.i2l (pc := 7) G dL_length_7 ?_
    refine J.last (pc := 8) G dL_length_8 (ho _ _ _ hq) 0 rfl (by decide) (by decide) (fun M hput hag => ?_)
    refine J.goto (pc := 9) (tgt := 15) G dL_length_9 (by decide) ?_
    refine J.iconstN (pc := 15) G dL_length_15 0 rfl ?_
    exact J.iret (pc := 16) G hO dL_length_16 (by omega) (by omega) (Or.inl ⟨x, M7, _, rfl, hq, hput, rfl, hag⟩)
set_option maxRecDepth 100000 in
set_option maxHeartbeats 4000000 in
theorem W_labelAt (n : Nat) (M0 : AH) {a o d mc ms : Nat} {fs : List Value} {v0 : Int} {v1 : Int} {f0 : Nat → Int64} {Q : Int32 → Nat → AH → Prop} {X1 : Nat → AH → Prop} (hX : M0 a = some (cO 3 fs)) (hF : Fx yX3_labelAt cX3_labelAt 3 (some .int) d [.ref a, .int (iI v0), .int (iI v1)] n M0 mc ms (fun r n' M' => ∃ x, r = some (.int x) ∧ Q x n' M') (fun E n' M' => (E = IOB ∧ X1 n' M'))) (ho : ∀ x n' M', Q x n' M' → M' o = some (cJ 1 f0)) : Fw yL_labelAt cL_labelAt 5 (some .int) [(0, 10, 13, 13)] (d + 1) [.ref a, .int (iI v0), .int (iI v1), .ref o] n M0 mc ms (fun r n' M' => (∃ x M1 f, r = some (.int (iI ((0 : Nat) : Int))) ∧ Q x n' M1 ∧ M' o = some (cJ 1 f) ∧ f 0 = x.toInt64 ∧ ∀ q, q ≠ o → M' q = M1 q) ∨ (r = some (.int (iI ((1 : Nat) : Int))) ∧ X1 n' M')) := by
  refine Fw.of (by decide) [some _, some _, some _, some _, none] rfl rfl (Nat.le_of_ble_eq_true rfl) ?_
  intro g G hO htab
  refine J.aload_n (pc := 0) G dL_labelAt_0 rfl ?_
  refine J.iconstN (pc := 1) G dL_labelAt_1 0 rfl ?_
  refine J.aload_n (pc := 2) G dL_labelAt_2 rfl ?_
  refine J.iload_n (pc := 3) G dL_labelAt_3 rfl ?_
  refine J.iload_n (pc := 4) G dL_labelAt_4 rfl ?_
  refine J.callXV (pc := 5) (na := 2) G hF q484 q485 q486 q487 q1 (by decide +kernel) dL_labelAt_5 hX rfl rfl (Nat.le_of_ble_eq_true rfl) rfl ⟨by omega, by decide, by omega, by omega⟩ (fun E n9 M9 h9 => ?_) ?_
  · obtain ⟨rfl, h2⟩ := h9
    refine JX.take G [] _ _ (htab.trans rfl) (fun y hy => absurd hy List.not_mem_nil) (by decide) (by decide) q333 (by decide) (fun q => ?_)
    refine J.astore (L' := [_, _, _, _, _]) (pc := 13) G dL_labelAt_13 rfl (Nat.le_of_ble_eq_true rfl) rfl ?_
    refine J.iconstN (pc := 15) G dL_labelAt_15 1 rfl ?_
    exact J.iret (pc := 16) G hO dL_labelAt_16 (by omega) (by omega) (Or.inr ⟨rfl, h2⟩)
  · rintro r9 n9 M7 ⟨x, hr9, hq⟩
    subst hr9
    dsimp only [Option.toList, List.cons_append, List.nil_append]
    refine J.i2l (pc := 8) G dL_labelAt_8 ?_
    refine J.last (pc := 9) G dL_labelAt_9 (ho _ _ _ hq) 0 rfl (by decide) (by decide) (fun M hput hag => ?_)
    refine J.goto (pc := 10) (tgt := 17) G dL_labelAt_10 (by decide) ?_
    refine J.iconstN (pc := 17) G dL_labelAt_17 0 rfl ?_
    exact J.iret (pc := 18) G hO dL_labelAt_18 (by omega) (by omega) (Or.inl ⟨x, M7, _, rfl, hq, hput, rfl, hag⟩)
set_option maxRecDepth 100000 in
set_option maxHeartbeats 4000000 in
theorem W_follows (n : Nat) (M0 : AH) {a o d mc ms : Nat} {fs : List Value} {v0 : Int} {v1 : Int} {f0 : Nat → Int64} {Q : Int32 → Nat → AH → Prop} {X1 : Nat → AH → Prop} (hX : M0 a = some (cO 3 fs)) (hF : Fx yX3_follows cX3_follows 5 (some .int) d [.ref a, .int (iI v0), .int (iI v1)] n M0 mc ms (fun r n' M' => ∃ x, r = some (.int x) ∧ Q x n' M') (fun E n' M' => (E = IOB ∧ X1 n' M'))) (ho : ∀ x n' M', Q x n' M' → M' o = some (cJ 1 f0)) : Fw yL_follows cL_follows 5 (some .int) [(0, 10, 13, 13)] (d + 1) [.ref a, .int (iI v0), .int (iI v1), .ref o] n M0 mc ms (fun r n' M' => (∃ x M1 f, r = some (.int (iI ((0 : Nat) : Int))) ∧ Q x n' M1 ∧ M' o = some (cJ 1 f) ∧ f 0 = x.toInt64 ∧ ∀ q, q ≠ o → M' q = M1 q) ∨ (r = some (.int (iI ((1 : Nat) : Int))) ∧ X1 n' M')) := by
  refine Fw.of (by decide) [some _, some _, some _, some _, none] rfl rfl (Nat.le_of_ble_eq_true rfl) ?_
  intro g G hO htab
  refine J.aload_n (pc := 0) G dL_follows_0 rfl ?_
  refine J.iconstN (pc := 1) G dL_follows_1 0 rfl ?_
  refine J.aload_n (pc := 2) G dL_follows_2 rfl ?_
  refine J.iload_n (pc := 3) G dL_follows_3 rfl ?_
  refine J.iload_n (pc := 4) G dL_follows_4 rfl ?_
  refine J.callXV (pc := 5) (na := 2) G hF q492 q493 q494 q495 q1 (by decide +kernel) dL_follows_5 hX rfl rfl (Nat.le_of_ble_eq_true rfl) rfl ⟨by omega, by decide, by omega, by omega⟩ (fun E n9 M9 h9 => ?_) ?_
  · obtain ⟨rfl, h2⟩ := h9
    refine JX.take G [] _ _ (htab.trans rfl) (fun y hy => absurd hy List.not_mem_nil) (by decide) (by decide) q333 (by decide) (fun q => ?_)
    refine J.astore (L' := [_, _, _, _, _]) (pc := 13) G dL_follows_13 rfl (Nat.le_of_ble_eq_true rfl) rfl ?_
    refine J.iconstN (pc := 15) G dL_follows_15 1 rfl ?_
    exact J.iret (pc := 16) G hO dL_follows_16 (by omega) (by omega) (Or.inr ⟨rfl, h2⟩)
  · rintro r9 n9 M7 ⟨x, hr9, hq⟩
    subst hr9
    dsimp only [Option.toList, List.cons_append, List.nil_append]
    refine J.i2l (pc := 8) G dL_follows_8 ?_
    refine J.last (pc := 9) G dL_follows_9 (ho _ _ _ hq) 0 rfl (by decide) (by decide) (fun M hput hag => ?_)
    refine J.goto (pc := 10) (tgt := 17) G dL_follows_10 (by decide) ?_
    refine J.iconstN (pc := 17) G dL_follows_17 0 rfl ?_
    exact J.iret (pc := 18) G hO dL_follows_18 (by omega) (by omega) (Or.inl ⟨x, M7, _, rfl, hq, hput, rfl, hag⟩)
set_option maxRecDepth 100000 in
set_option maxHeartbeats 4000000 in
theorem W_relation (n : Nat) (M0 : AH) {a o d mc ms : Nat} {fs : List Value} {v0 : Int} {v1 : Int} {f0 : Nat → Int64} {Q : Int32 → Nat → AH → Prop} {X1 : Nat → AH → Prop} (hX : M0 a = some (cO 3 fs)) (hF : Fx yX3_relation cX3_relation 6 (some .int) d [.ref a, .int (iI v0), .int (iI v1)] n M0 mc ms (fun r n' M' => ∃ x, r = some (.int x) ∧ Q x n' M') (fun E n' M' => (E = IOB ∧ X1 n' M'))) (ho : ∀ x n' M', Q x n' M' → M' o = some (cJ 1 f0)) : Fw yL_relation cL_relation 5 (some .int) [(0, 10, 13, 13)] (d + 1) [.ref a, .int (iI v0), .int (iI v1), .ref o] n M0 mc ms (fun r n' M' => (∃ x M1 f, r = some (.int (iI ((0 : Nat) : Int))) ∧ Q x n' M1 ∧ M' o = some (cJ 1 f) ∧ f 0 = x.toInt64 ∧ ∀ q, q ≠ o → M' q = M1 q) ∨ (r = some (.int (iI ((1 : Nat) : Int))) ∧ X1 n' M')) := by
  refine Fw.of (by decide) [some _, some _, some _, some _, none] rfl rfl (Nat.le_of_ble_eq_true rfl) ?_
  intro g G hO htab
  refine J.aload_n (pc := 0) G dL_relation_0 rfl ?_
  refine J.iconstN (pc := 1) G dL_relation_1 0 rfl ?_
  refine J.aload_n (pc := 2) G dL_relation_2 rfl ?_
  refine J.iload_n (pc := 3) G dL_relation_3 rfl ?_
  refine J.iload_n (pc := 4) G dL_relation_4 rfl ?_
  refine J.callXV (pc := 5) (na := 2) G hF q503 q504 q505 q506 q1 (by decide +kernel) dL_relation_5 hX rfl rfl (Nat.le_of_ble_eq_true rfl) rfl ⟨by omega, by decide, by omega, by omega⟩ (fun E n9 M9 h9 => ?_) ?_
  · obtain ⟨rfl, h2⟩ := h9
    refine JX.take G [] _ _ (htab.trans rfl) (fun y hy => absurd hy List.not_mem_nil) (by decide) (by decide) q333 (by decide) (fun q => ?_)
    refine J.astore (L' := [_, _, _, _, _]) (pc := 13) G dL_relation_13 rfl (Nat.le_of_ble_eq_true rfl) rfl ?_
    refine J.iconstN (pc := 15) G dL_relation_15 1 rfl ?_
    exact J.iret (pc := 16) G hO dL_relation_16 (by omega) (by omega) (Or.inr ⟨rfl, h2⟩)
  · rintro r9 n9 M7 ⟨x, hr9, hq⟩
    subst hr9
    dsimp only [Option.toList, List.cons_append, List.nil_append]
    refine J.i2l (pc := 8) G dL_relation_8 ?_
    refine J.last (pc := 9) G dL_relation_9 (ho _ _ _ hq) 0 rfl (by decide) (by decide) (fun M hput hag => ?_)
    refine J.goto (pc := 10) (tgt := 17) G dL_relation_10 (by decide) ?_
    refine J.iconstN (pc := 17) G dL_relation_17 0 rfl ?_
    exact J.iret (pc := 18) G hO dL_relation_18 (by omega) (by omega) (Or.inl ⟨x, M7, _, rfl, hq, hput, rfl, hag⟩)
set_option maxRecDepth 100000 in
set_option maxHeartbeats 4000000 in
theorem W_kind (n : Nat) (M0 : AH) {a o d mc ms : Nat} {fs : List Value} {v0 : Int} {f0 : Nat → Int64} {Q : Int32 → Nat → AH → Prop} {X1 X2 : Nat → AH → Prop} (hX : M0 a = some (cO 3 fs)) (hF : Fx yX3_kind cX3_kind 2 (some .int) d [.ref a, .int (iI v0)] n M0 mc ms (fun r n' M' => ∃ x, r = some (.int x) ∧ Q x n' M') (fun E n' M' => (E = ISE ∧ X1 n' M') ∨ (E = IOB ∧ X2 n' M'))) (ho : ∀ x n' M', Q x n' M' → M' o = some (cJ 1 f0)) : Fw yL_kind cL_kind 4 (some .int) [(0, 9, 12, 15), (0, 9, 15, 13)] (d + 1) [.ref a, .int (iI v0), .ref o] n M0 mc ms (fun r n' M' => (∃ x M1 f, r = some (.int (iI ((0 : Nat) : Int))) ∧ Q x n' M1 ∧ M' o = some (cJ 1 f) ∧ f 0 = x.toInt64 ∧ ∀ q, q ≠ o → M' q = M1 q) ∨ (r = some (.int (iI ((1 : Nat) : Int))) ∧ X1 n' M') ∨ (r = some (.int (iI ((2 : Nat) : Int))) ∧ X2 n' M')) := by
  refine Fw.of (by decide) [some _, some _, some _, none] rfl rfl (Nat.le_of_ble_eq_true rfl) ?_
  intro g G hO htab
  refine J.aload_n (pc := 0) G dL_kind_0 rfl ?_
  refine J.iconstN (pc := 1) G dL_kind_1 0 rfl ?_
  refine J.aload_n (pc := 2) G dL_kind_2 rfl ?_
  refine J.iload_n (pc := 3) G dL_kind_3 rfl ?_
  refine J.callXV (pc := 4) (na := 1) G hF q519 q520 q521 q522 q1 (by decide +kernel) dL_kind_4 hX rfl rfl (Nat.le_of_ble_eq_true rfl) rfl ⟨by omega, by decide, by omega, by omega⟩ (fun E n9 M9 h9 => ?_) ?_
  · rcases h9 with ⟨rfl, h2⟩ | ⟨rfl, h2⟩
    · refine JX.take G [] _ _ (htab.trans rfl) (fun y hy => absurd hy List.not_mem_nil) (by decide) (by decide) q334 (by decide) (fun q => ?_)
      refine J.astore_n (L' := [_, _, _, _]) (pc := 12) G dL_kind_12 rfl (Nat.le_of_ble_eq_true rfl) rfl ?_
      refine J.iconstN (pc := 13) G dL_kind_13 1 rfl ?_
      exact J.iret (pc := 14) G hO dL_kind_14 (by omega) (by omega) (Or.inr (Or.inl ⟨rfl, h2⟩))
    · refine JX.take G [_] _ _ (htab.trans rfl) (fun y hy => ?_) (by decide) (by decide) q333 (by decide) (fun q => ?_)
      · rw [List.mem_singleton.mp hy]
        exact Or.inr ⟨by decide, _, q334, by decide⟩
      refine J.astore_n (L' := [_, _, _, _]) (pc := 15) G dL_kind_15 rfl (Nat.le_of_ble_eq_true rfl) rfl ?_
      refine J.iconstN (pc := 16) G dL_kind_16 2 rfl ?_
      exact J.iret (pc := 17) G hO dL_kind_17 (by omega) (by omega) (Or.inr (Or.inr ⟨rfl, h2⟩))
  · rintro r9 n9 M7 ⟨x, hr9, hq⟩
    subst hr9
    dsimp only [Option.toList, List.cons_append, List.nil_append]
    refine J.i2l (pc := 7) G dL_kind_7 ?_
    refine J.last (pc := 8) G dL_kind_8 (ho _ _ _ hq) 0 rfl (by decide) (by decide) (fun M hput hag => ?_)
    refine J.goto (pc := 9) (tgt := 18) G dL_kind_9 (by decide) ?_
    refine J.iconstN (pc := 18) G dL_kind_18 0 rfl ?_
    exact J.iret (pc := 19) G hO dL_kind_19 (by omega) (by omega) (Or.inl ⟨x, M7, _, rfl, hq, hput, rfl, hag⟩)
set_option maxRecDepth 100000 in
set_option maxHeartbeats 4000000 in
theorem W_labelsOf (n : Nat) (M0 : AH) {a o d mc ms : Nat} {fs : List Value} {v0 : Int} {f0 : Nat → Int64} {Q : Int32 → Nat → AH → Prop} {X1 X2 : Nat → AH → Prop} (hX : M0 a = some (cO 3 fs)) (hF : Fx yX3_labelsOf cX3_labelsOf 2 (some .int) d [.ref a, .int (iI v0)] n M0 mc ms (fun r n' M' => ∃ x, r = some (.int x) ∧ Q x n' M') (fun E n' M' => (E = ISE ∧ X1 n' M') ∨ (E = IOB ∧ X2 n' M'))) (ho : ∀ x n' M', Q x n' M' → M' o = some (cJ 1 f0)) : Fw yL_labelsOf cL_labelsOf 4 (some .int) [(0, 9, 12, 15), (0, 9, 15, 13)] (d + 1) [.ref a, .int (iI v0), .ref o] n M0 mc ms (fun r n' M' => (∃ x M1 f, r = some (.int (iI ((0 : Nat) : Int))) ∧ Q x n' M1 ∧ M' o = some (cJ 1 f) ∧ f 0 = x.toInt64 ∧ ∀ q, q ≠ o → M' q = M1 q) ∨ (r = some (.int (iI ((1 : Nat) : Int))) ∧ X1 n' M') ∨ (r = some (.int (iI ((2 : Nat) : Int))) ∧ X2 n' M')) := by
  refine Fw.of (by decide) [some _, some _, some _, none] rfl rfl (Nat.le_of_ble_eq_true rfl) ?_
  intro g G hO htab
  refine J.aload_n (pc := 0) G dL_labelsOf_0 rfl ?_
  refine J.iconstN (pc := 1) G dL_labelsOf_1 0 rfl ?_
  refine J.aload_n (pc := 2) G dL_labelsOf_2 rfl ?_
  refine J.iload_n (pc := 3) G dL_labelsOf_3 rfl ?_
  refine J.callXV (pc := 4) (na := 1) G hF q536 q537 q538 q539 q1 (by decide +kernel) dL_labelsOf_4 hX rfl rfl (Nat.le_of_ble_eq_true rfl) rfl ⟨by omega, by decide, by omega, by omega⟩ (fun E n9 M9 h9 => ?_) ?_
  · rcases h9 with ⟨rfl, h2⟩ | ⟨rfl, h2⟩
    · refine JX.take G [] _ _ (htab.trans rfl) (fun y hy => absurd hy List.not_mem_nil) (by decide) (by decide) q334 (by decide) (fun q => ?_)
      refine J.astore_n (L' := [_, _, _, _]) (pc := 12) G dL_labelsOf_12 rfl (Nat.le_of_ble_eq_true rfl) rfl ?_
      refine J.iconstN (pc := 13) G dL_labelsOf_13 1 rfl ?_
      exact J.iret (pc := 14) G hO dL_labelsOf_14 (by omega) (by omega) (Or.inr (Or.inl ⟨rfl, h2⟩))
    · refine JX.take G [_] _ _ (htab.trans rfl) (fun y hy => ?_) (by decide) (by decide) q333 (by decide) (fun q => ?_)
      · rw [List.mem_singleton.mp hy]
        exact Or.inr ⟨by decide, _, q334, by decide⟩
      refine J.astore_n (L' := [_, _, _, _]) (pc := 15) G dL_labelsOf_15 rfl (Nat.le_of_ble_eq_true rfl) rfl ?_
      refine J.iconstN (pc := 16) G dL_labelsOf_16 2 rfl ?_
      exact J.iret (pc := 17) G hO dL_labelsOf_17 (by omega) (by omega) (Or.inr (Or.inr ⟨rfl, h2⟩))
  · rintro r9 n9 M7 ⟨x, hr9, hq⟩
    subst hr9
    dsimp only [Option.toList, List.cons_append, List.nil_append]
    refine J.i2l (pc := 7) G dL_labelsOf_7 ?_
    refine J.last (pc := 8) G dL_labelsOf_8 (ho _ _ _ hq) 0 rfl (by decide) (by decide) (fun M hput hag => ?_)
    refine J.goto (pc := 9) (tgt := 18) G dL_labelsOf_9 (by decide) ?_
    refine J.iconstN (pc := 18) G dL_labelsOf_18 0 rfl ?_
    exact J.iret (pc := 19) G hO dL_labelsOf_19 (by omega) (by omega) (Or.inl ⟨x, M7, _, rfl, hq, hput, rfl, hag⟩)
set_option maxRecDepth 100000 in
set_option maxHeartbeats 4000000 in
theorem W_parent (n : Nat) (M0 : AH) {a o d mc ms : Nat} {fs : List Value} {v0 : Int} {f0 : Nat → Int64} {Q : Int32 → Nat → AH → Prop} {X1 X2 : Nat → AH → Prop} (hX : M0 a = some (cO 3 fs)) (hF : Fx yX3_parent cX3_parent 2 (some .int) d [.ref a, .int (iI v0)] n M0 mc ms (fun r n' M' => ∃ x, r = some (.int x) ∧ Q x n' M') (fun E n' M' => (E = ISE ∧ X1 n' M') ∨ (E = IOB ∧ X2 n' M'))) (ho : ∀ x n' M', Q x n' M' → M' o = some (cJ 1 f0)) : Fw yL_parent cL_parent 4 (some .int) [(0, 9, 12, 15), (0, 9, 15, 13)] (d + 1) [.ref a, .int (iI v0), .ref o] n M0 mc ms (fun r n' M' => (∃ x M1 f, r = some (.int (iI ((0 : Nat) : Int))) ∧ Q x n' M1 ∧ M' o = some (cJ 1 f) ∧ f 0 = x.toInt64 ∧ ∀ q, q ≠ o → M' q = M1 q) ∨ (r = some (.int (iI ((1 : Nat) : Int))) ∧ X1 n' M') ∨ (r = some (.int (iI ((2 : Nat) : Int))) ∧ X2 n' M')) := by
  refine Fw.of (by decide) [some _, some _, some _, none] rfl rfl (Nat.le_of_ble_eq_true rfl) ?_
  intro g G hO htab
  refine J.aload_n (pc := 0) G dL_parent_0 rfl ?_
  refine J.iconstN (pc := 1) G dL_parent_1 0 rfl ?_
  refine J.aload_n (pc := 2) G dL_parent_2 rfl ?_
  refine J.iload_n (pc := 3) G dL_parent_3 rfl ?_
  refine J.callXV (pc := 4) (na := 1) G hF q543 q544 q545 q546 q1 (by decide +kernel) dL_parent_4 hX rfl rfl (Nat.le_of_ble_eq_true rfl) rfl ⟨by omega, by decide, by omega, by omega⟩ (fun E n9 M9 h9 => ?_) ?_
  · rcases h9 with ⟨rfl, h2⟩ | ⟨rfl, h2⟩
    · refine JX.take G [] _ _ (htab.trans rfl) (fun y hy => absurd hy List.not_mem_nil) (by decide) (by decide) q334 (by decide) (fun q => ?_)
      refine J.astore_n (L' := [_, _, _, _]) (pc := 12) G dL_parent_12 rfl (Nat.le_of_ble_eq_true rfl) rfl ?_
      refine J.iconstN (pc := 13) G dL_parent_13 1 rfl ?_
      exact J.iret (pc := 14) G hO dL_parent_14 (by omega) (by omega) (Or.inr (Or.inl ⟨rfl, h2⟩))
    · refine JX.take G [_] _ _ (htab.trans rfl) (fun y hy => ?_) (by decide) (by decide) q333 (by decide) (fun q => ?_)
      · rw [List.mem_singleton.mp hy]
        exact Or.inr ⟨by decide, _, q334, by decide⟩
      refine J.astore_n (L' := [_, _, _, _]) (pc := 15) G dL_parent_15 rfl (Nat.le_of_ble_eq_true rfl) rfl ?_
      refine J.iconstN (pc := 16) G dL_parent_16 2 rfl ?_
      exact J.iret (pc := 17) G hO dL_parent_17 (by omega) (by omega) (Or.inr (Or.inr ⟨rfl, h2⟩))
  · rintro r9 n9 M7 ⟨x, hr9, hq⟩
    subst hr9
    dsimp only [Option.toList, List.cons_append, List.nil_append]
    refine J.i2l (pc := 7) G dL_parent_7 ?_
    refine J.last (pc := 8) G dL_parent_8 (ho _ _ _ hq) 0 rfl (by decide) (by decide) (fun M hput hag => ?_)
    refine J.goto (pc := 9) (tgt := 18) G dL_parent_9 (by decide) ?_
    refine J.iconstN (pc := 18) G dL_parent_18 0 rfl ?_
    exact J.iret (pc := 19) G hO dL_parent_19 (by omega) (by omega) (Or.inl ⟨x, M7, _, rfl, hq, hput, rfl, hag⟩)
set_option maxRecDepth 100000 in
set_option maxHeartbeats 4000000 in
theorem W_children (n : Nat) (M0 : AH) {a o d mc ms : Nat} {fs : List Value} {v0 : Int} {f0 : Nat → Int64} {Q : Int32 → Nat → AH → Prop} {X1 X2 : Nat → AH → Prop} (hX : M0 a = some (cO 3 fs)) (hF : Fx yX3_children cX3_children 2 (some .int) d [.ref a, .int (iI v0)] n M0 mc ms (fun r n' M' => ∃ x, r = some (.int x) ∧ Q x n' M') (fun E n' M' => (E = ISE ∧ X1 n' M') ∨ (E = IOB ∧ X2 n' M'))) (ho : ∀ x n' M', Q x n' M' → M' o = some (cJ 1 f0)) : Fw yL_children cL_children 4 (some .int) [(0, 9, 12, 15), (0, 9, 15, 13)] (d + 1) [.ref a, .int (iI v0), .ref o] n M0 mc ms (fun r n' M' => (∃ x M1 f, r = some (.int (iI ((0 : Nat) : Int))) ∧ Q x n' M1 ∧ M' o = some (cJ 1 f) ∧ f 0 = x.toInt64 ∧ ∀ q, q ≠ o → M' q = M1 q) ∨ (r = some (.int (iI ((1 : Nat) : Int))) ∧ X1 n' M') ∨ (r = some (.int (iI ((2 : Nat) : Int))) ∧ X2 n' M')) := by
  refine Fw.of (by decide) [some _, some _, some _, none] rfl rfl (Nat.le_of_ble_eq_true rfl) ?_
  intro g G hO htab
  refine J.aload_n (pc := 0) G dL_children_0 rfl ?_
  refine J.iconstN (pc := 1) G dL_children_1 0 rfl ?_
  refine J.aload_n (pc := 2) G dL_children_2 rfl ?_
  refine J.iload_n (pc := 3) G dL_children_3 rfl ?_
  refine J.callXV (pc := 4) (na := 1) G hF q550 q551 q552 q553 q1 (by decide +kernel) dL_children_4 hX rfl rfl (Nat.le_of_ble_eq_true rfl) rfl ⟨by omega, by decide, by omega, by omega⟩ (fun E n9 M9 h9 => ?_) ?_
  · rcases h9 with ⟨rfl, h2⟩ | ⟨rfl, h2⟩
    · refine JX.take G [] _ _ (htab.trans rfl) (fun y hy => absurd hy List.not_mem_nil) (by decide) (by decide) q334 (by decide) (fun q => ?_)
      refine J.astore_n (L' := [_, _, _, _]) (pc := 12) G dL_children_12 rfl (Nat.le_of_ble_eq_true rfl) rfl ?_
      refine J.iconstN (pc := 13) G dL_children_13 1 rfl ?_
      exact J.iret (pc := 14) G hO dL_children_14 (by omega) (by omega) (Or.inr (Or.inl ⟨rfl, h2⟩))
    · refine JX.take G [_] _ _ (htab.trans rfl) (fun y hy => ?_) (by decide) (by decide) q333 (by decide) (fun q => ?_)
      · rw [List.mem_singleton.mp hy]
        exact Or.inr ⟨by decide, _, q334, by decide⟩
      refine J.astore_n (L' := [_, _, _, _]) (pc := 15) G dL_children_15 rfl (Nat.le_of_ble_eq_true rfl) rfl ?_
      refine J.iconstN (pc := 16) G dL_children_16 2 rfl ?_
      exact J.iret (pc := 17) G hO dL_children_17 (by omega) (by omega) (Or.inr (Or.inr ⟨rfl, h2⟩))
  · rintro r9 n9 M7 ⟨x, hr9, hq⟩
    subst hr9
    dsimp only [Option.toList, List.cons_append, List.nil_append]
    refine J.i2l (pc := 7) G dL_children_7 ?_
    refine J.last (pc := 8) G dL_children_8 (ho _ _ _ hq) 0 rfl (by decide) (by decide) (fun M hput hag => ?_)
    refine J.goto (pc := 9) (tgt := 18) G dL_children_9 (by decide) ?_
    refine J.iconstN (pc := 18) G dL_children_18 0 rfl ?_
    exact J.iret (pc := 19) G hO dL_children_19 (by omega) (by omega) (Or.inl ⟨x, M7, _, rfl, hq, hput, rfl, hag⟩)
set_option maxRecDepth 100000 in
set_option maxHeartbeats 4000000 in
theorem W_child (n : Nat) (M0 : AH) {a o d mc ms : Nat} {fs : List Value} {v0 : Int} {v1 : Int} {f0 : Nat → Int64} {Q : Int32 → Nat → AH → Prop} {X1 X2 : Nat → AH → Prop} (hX : M0 a = some (cO 3 fs)) (hF : Fx yX3_child cX3_child 3 (some .int) d [.ref a, .int (iI v0), .int (iI v1)] n M0 mc ms (fun r n' M' => ∃ x, r = some (.int x) ∧ Q x n' M') (fun E n' M' => (E = ISE ∧ X1 n' M') ∨ (E = IOB ∧ X2 n' M'))) (ho : ∀ x n' M', Q x n' M' → M' o = some (cJ 1 f0)) : Fw yL_child cL_child 5 (some .int) [(0, 10, 13, 15), (0, 10, 17, 13)] (d + 1) [.ref a, .int (iI v0), .int (iI v1), .ref o] n M0 mc ms (fun r n' M' => (∃ x M1 f, r = some (.int (iI ((0 : Nat) : Int))) ∧ Q x n' M1 ∧ M' o = some (cJ 1 f) ∧ f 0 = x.toInt64 ∧ ∀ q, q ≠ o → M' q = M1 q) ∨ (r = some (.int (iI ((1 : Nat) : Int))) ∧ X1 n' M') ∨ (r = some (.int (iI ((2 : Nat) : Int))) ∧ X2 n' M')) := by
  refine Fw.of (by decide) [some _, some _, some _, some _, none] rfl rfl (Nat.le_of_ble_eq_true rfl) ?_
  intro g G hO htab
  refine J.aload_n (pc := 0) G dL_child_0 rfl ?_
  refine J.iconstN (pc := 1) G dL_child_1 0 rfl ?_
  refine J.aload_n (pc := 2) G dL_child_2 rfl ?_
  refine J.iload_n (pc := 3) G dL_child_3 rfl ?_
  refine J.iload_n (pc := 4) G dL_child_4 rfl ?_
  refine J.callXV (pc := 5) (na := 2) G hF q557 q558 q559 q560 q1 (by decide +kernel) dL_child_5 hX rfl rfl (Nat.le_of_ble_eq_true rfl) rfl ⟨by omega, by decide, by omega, by omega⟩ (fun E n9 M9 h9 => ?_) ?_
  · rcases h9 with ⟨rfl, h2⟩ | ⟨rfl, h2⟩
    · refine JX.take G [] _ _ (htab.trans rfl) (fun y hy => absurd hy List.not_mem_nil) (by decide) (by decide) q334 (by decide) (fun q => ?_)
      refine J.astore (L' := [_, _, _, _, _]) (pc := 13) G dL_child_13 rfl (Nat.le_of_ble_eq_true rfl) rfl ?_
      refine J.iconstN (pc := 15) G dL_child_15 1 rfl ?_
      exact J.iret (pc := 16) G hO dL_child_16 (by omega) (by omega) (Or.inr (Or.inl ⟨rfl, h2⟩))
    · refine JX.take G [_] _ _ (htab.trans rfl) (fun y hy => ?_) (by decide) (by decide) q333 (by decide) (fun q => ?_)
      · rw [List.mem_singleton.mp hy]
        exact Or.inr ⟨by decide, _, q334, by decide⟩
      refine J.astore (L' := [_, _, _, _, _]) (pc := 17) G dL_child_17 rfl (Nat.le_of_ble_eq_true rfl) rfl ?_
      refine J.iconstN (pc := 19) G dL_child_19 2 rfl ?_
      exact J.iret (pc := 20) G hO dL_child_20 (by omega) (by omega) (Or.inr (Or.inr ⟨rfl, h2⟩))
  · rintro r9 n9 M7 ⟨x, hr9, hq⟩
    subst hr9
    dsimp only [Option.toList, List.cons_append, List.nil_append]
    refine J.i2l (pc := 8) G dL_child_8 ?_
    refine J.last (pc := 9) G dL_child_9 (ho _ _ _ hq) 0 rfl (by decide) (by decide) (fun M hput hag => ?_)
    refine J.goto (pc := 10) (tgt := 21) G dL_child_10 (by decide) ?_
    refine J.iconstN (pc := 21) G dL_child_21 0 rfl ?_
    exact J.iret (pc := 22) G hO dL_child_22 (by omega) (by omega) (Or.inl ⟨x, M7, _, rfl, hq, hput, rfl, hag⟩)
set_option maxRecDepth 100000 in
set_option maxHeartbeats 4000000 in
theorem W_shortest (n : Nat) (M0 : AH) {a o d mc ms : Nat} {fs : List Value} {v0 : Int} {f0 : Nat → Int64} {Q : Int32 → Nat → AH → Prop} {X1 X2 : Nat → AH → Prop} (hX : M0 a = some (cO 3 fs)) (hF : Fx yX3_shortest cX3_shortest 2 (some .int) d [.ref a, .int (iI v0)] n M0 mc ms (fun r n' M' => ∃ x, r = some (.int x) ∧ Q x n' M') (fun E n' M' => (E = ISE ∧ X1 n' M') ∨ (E = IOB ∧ X2 n' M'))) (ho : ∀ x n' M', Q x n' M' → M' o = some (cJ 1 f0)) : Fw yL_shortest cL_shortest 4 (some .int) [(0, 9, 12, 15), (0, 9, 15, 13)] (d + 1) [.ref a, .int (iI v0), .ref o] n M0 mc ms (fun r n' M' => (∃ x M1 f, r = some (.int (iI ((0 : Nat) : Int))) ∧ Q x n' M1 ∧ M' o = some (cJ 1 f) ∧ f 0 = x.toInt64 ∧ ∀ q, q ≠ o → M' q = M1 q) ∨ (r = some (.int (iI ((1 : Nat) : Int))) ∧ X1 n' M') ∨ (r = some (.int (iI ((2 : Nat) : Int))) ∧ X2 n' M')) := by
  refine Fw.of (by decide) [some _, some _, some _, none] rfl rfl (Nat.le_of_ble_eq_true rfl) ?_
  intro g G hO htab
  refine J.aload_n (pc := 0) G dL_shortest_0 rfl ?_
  refine J.iconstN (pc := 1) G dL_shortest_1 0 rfl ?_
  refine J.aload_n (pc := 2) G dL_shortest_2 rfl ?_
  refine J.iload_n (pc := 3) G dL_shortest_3 rfl ?_
  refine J.callXV (pc := 4) (na := 1) G hF q569 q570 q571 q572 q1 (by decide +kernel) dL_shortest_4 hX rfl rfl (Nat.le_of_ble_eq_true rfl) rfl ⟨by omega, by decide, by omega, by omega⟩ (fun E n9 M9 h9 => ?_) ?_
  · rcases h9 with ⟨rfl, h2⟩ | ⟨rfl, h2⟩
    · refine JX.take G [] _ _ (htab.trans rfl) (fun y hy => absurd hy List.not_mem_nil) (by decide) (by decide) q334 (by decide) (fun q => ?_)
      refine J.astore_n (L' := [_, _, _, _]) (pc := 12) G dL_shortest_12 rfl (Nat.le_of_ble_eq_true rfl) rfl ?_
      refine J.iconstN (pc := 13) G dL_shortest_13 1 rfl ?_
      exact J.iret (pc := 14) G hO dL_shortest_14 (by omega) (by omega) (Or.inr (Or.inl ⟨rfl, h2⟩))
    · refine JX.take G [_] _ _ (htab.trans rfl) (fun y hy => ?_) (by decide) (by decide) q333 (by decide) (fun q => ?_)
      · rw [List.mem_singleton.mp hy]
        exact Or.inr ⟨by decide, _, q334, by decide⟩
      refine J.astore_n (L' := [_, _, _, _]) (pc := 15) G dL_shortest_15 rfl (Nat.le_of_ble_eq_true rfl) rfl ?_
      refine J.iconstN (pc := 16) G dL_shortest_16 2 rfl ?_
      exact J.iret (pc := 17) G hO dL_shortest_17 (by omega) (by omega) (Or.inr (Or.inr ⟨rfl, h2⟩))
  · rintro r9 n9 M7 ⟨x, hr9, hq⟩
    subst hr9
    dsimp only [Option.toList, List.cons_append, List.nil_append]
    refine J.i2l (pc := 7) G dL_shortest_7 ?_
    refine J.last (pc := 8) G dL_shortest_8 (ho _ _ _ hq) 0 rfl (by decide) (by decide) (fun M hput hag => ?_)
    refine J.goto (pc := 9) (tgt := 18) G dL_shortest_9 (by decide) ?_
    refine J.iconstN (pc := 18) G dL_shortest_18 0 rfl ?_
    exact J.iret (pc := 19) G hO dL_shortest_19 (by omega) (by omega) (Or.inl ⟨x, M7, _, rfl, hq, hput, rfl, hag⟩)
set_option maxRecDepth 100000 in
set_option maxHeartbeats 4000000 in
theorem W_height (n : Nat) (M0 : AH) {a o d mc ms : Nat} {fs : List Value} {f0 : Nat → Int64} {Q : Int32 → Nat → AH → Prop} {X1 : Nat → AH → Prop} (hX : M0 a = some (cO 3 fs)) (hF : Fx yX3_height cX3_height 1 (some .int) d [.ref a] n M0 mc ms (fun r n' M' => ∃ x, r = some (.int x) ∧ Q x n' M') (fun E n' M' => (E = ISE ∧ X1 n' M'))) (ho : ∀ x n' M', Q x n' M' → M' o = some (cJ 1 f0)) : Fw yL_height cL_height 3 (some .int) [(0, 8, 11, 15)] (d + 1) [.ref a, .ref o] n M0 mc ms (fun r n' M' => (∃ x M1 f, r = some (.int (iI ((0 : Nat) : Int))) ∧ Q x n' M1 ∧ M' o = some (cJ 1 f) ∧ f 0 = x.toInt64 ∧ ∀ q, q ≠ o → M' q = M1 q) ∨ (r = some (.int (iI ((1 : Nat) : Int))) ∧ X1 n' M')) := by
  refine Fw.of (by decide) [some _, some _, none] rfl rfl (Nat.le_of_ble_eq_true rfl) ?_
  intro g G hO htab
  refine J.aload_n (pc := 0) G dL_height_0 rfl ?_
  refine J.iconstN (pc := 1) G dL_height_1 0 rfl ?_
  refine J.aload_n (pc := 2) G dL_height_2 rfl ?_
  refine J.callXV (pc := 3) (na := 0) G hF q596 q597 q598 q599 q1 (by decide +kernel) dL_height_3 hX rfl rfl (Nat.le_of_ble_eq_true rfl) rfl ⟨by omega, by decide, by omega, by omega⟩ (fun E n9 M9 h9 => ?_) ?_
  · obtain ⟨rfl, h2⟩ := h9
    refine JX.take G [] _ _ (htab.trans rfl) (fun y hy => absurd hy List.not_mem_nil) (by decide) (by decide) q334 (by decide) (fun q => ?_)
    refine J.astore_n (L' := [_, _, _]) (pc := 11) G dL_height_11 rfl (Nat.le_of_ble_eq_true rfl) rfl ?_
    refine J.iconstN (pc := 12) G dL_height_12 1 rfl ?_
    exact J.iret (pc := 13) G hO dL_height_13 (by omega) (by omega) (Or.inr ⟨rfl, h2⟩)
  · rintro r9 n9 M7 ⟨x, hr9, hq⟩
    subst hr9
    dsimp only [Option.toList, List.cons_append, List.nil_append]
    refine J.i2l (pc := 6) G dL_height_6 ?_
    refine J.last (pc := 7) G dL_height_7 (ho _ _ _ hq) 0 rfl (by decide) (by decide) (fun M hput hag => ?_)
    refine J.goto (pc := 8) (tgt := 14) G dL_height_8 (by decide) ?_
    refine J.iconstN (pc := 14) G dL_height_14 0 rfl ?_
    exact J.iret (pc := 15) G hO dL_height_15 (by omega) (by omega) (Or.inl ⟨x, M7, _, rfl, hq, hput, rfl, hag⟩)
set_option maxRecDepth 100000 in
set_option maxHeartbeats 4000000 in
theorem W_words (n : Nat) (M0 : AH) {a o d mc ms : Nat} {fs : List Value} {v0 : Int} {f0 : Nat → Int64} {Q : Int32 → Nat → AH → Prop} {X1 X2 : Nat → AH → Prop} (hX : M0 a = some (cO 3 fs)) (hF : Fx yX3_words cX3_words 2 (some .int) d [.ref a, .int (iI v0)] n M0 mc ms (fun r n' M' => ∃ x, r = some (.int x) ∧ Q x n' M') (fun E n' M' => (E = ISE ∧ X1 n' M') ∨ (E = IAE ∧ X2 n' M'))) (ho : ∀ x n' M', Q x n' M' → M' o = some (cJ 1 f0)) : Fw yL_words cL_words 4 (some .int) [(0, 9, 12, 15), (0, 9, 15, 20)] (d + 1) [.ref a, .int (iI v0), .ref o] n M0 mc ms (fun r n' M' => (∃ x M1 f, r = some (.int (iI ((0 : Nat) : Int))) ∧ Q x n' M1 ∧ M' o = some (cJ 1 f) ∧ f 0 = x.toInt64 ∧ ∀ q, q ≠ o → M' q = M1 q) ∨ (r = some (.int (iI ((1 : Nat) : Int))) ∧ X1 n' M') ∨ (r = some (.int (iI ((2 : Nat) : Int))) ∧ X2 n' M')) := by
  refine Fw.of (by decide) [some _, some _, some _, none] rfl rfl (Nat.le_of_ble_eq_true rfl) ?_
  intro g G hO htab
  refine J.aload_n (pc := 0) G dL_words_0 rfl ?_
  refine J.iconstN (pc := 1) G dL_words_1 0 rfl ?_
  refine J.aload_n (pc := 2) G dL_words_2 rfl ?_
  refine J.iload_n (pc := 3) G dL_words_3 rfl ?_
  refine J.callXV (pc := 4) (na := 1) G hF q677 q678 q679 q680 q1 (by decide +kernel) dL_words_4 hX rfl rfl (Nat.le_of_ble_eq_true rfl) rfl ⟨by omega, by decide, by omega, by omega⟩ (fun E n9 M9 h9 => ?_) ?_
  · rcases h9 with ⟨rfl, h2⟩ | ⟨rfl, h2⟩
    · refine JX.take G [] _ _ (htab.trans rfl) (fun y hy => absurd hy List.not_mem_nil) (by decide) (by decide) q334 (by decide) (fun q => ?_)
      refine J.astore_n (L' := [_, _, _, _]) (pc := 12) G dL_words_12 rfl (Nat.le_of_ble_eq_true rfl) rfl ?_
      refine J.iconstN (pc := 13) G dL_words_13 1 rfl ?_
      exact J.iret (pc := 14) G hO dL_words_14 (by omega) (by omega) (Or.inr (Or.inl ⟨rfl, h2⟩))
    · refine JX.take G [_] _ _ (htab.trans rfl) (fun y hy => ?_) (by decide) (by decide) q429 (by decide) (fun q => ?_)
      · rw [List.mem_singleton.mp hy]
        exact Or.inr ⟨by decide, _, q334, by decide⟩
      refine J.astore_n (L' := [_, _, _, _]) (pc := 15) G dL_words_15 rfl (Nat.le_of_ble_eq_true rfl) rfl ?_
      refine J.iconstN (pc := 16) G dL_words_16 2 rfl ?_
      exact J.iret (pc := 17) G hO dL_words_17 (by omega) (by omega) (Or.inr (Or.inr ⟨rfl, h2⟩))
  · rintro r9 n9 M7 ⟨x, hr9, hq⟩
    subst hr9
    dsimp only [Option.toList, List.cons_append, List.nil_append]
    refine J.i2l (pc := 7) G dL_words_7 ?_
    refine J.last (pc := 8) G dL_words_8 (ho _ _ _ hq) 0 rfl (by decide) (by decide) (fun M hput hag => ?_)
    refine J.goto (pc := 9) (tgt := 18) G dL_words_9 (by decide) ?_
    refine J.iconstN (pc := 18) G dL_words_18 0 rfl ?_
    exact J.iret (pc := 19) G hO dL_words_19 (by omega) (by omega) (Or.inl ⟨x, M7, _, rfl, hq, hput, rfl, hag⟩)
end WRAPS
