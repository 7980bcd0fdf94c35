section WRAPSB
set_option maxRecDepth 100000 in
set_option maxHeartbeats 4000000 in
theorem W_leads (n : Nat) (M0 : AH) {a o d mc ms : Nat} {fs : List Value} {v0 : Int} {v1 : Int} {f0 : Nat → Int64} {Q : Bool → Nat → AH → Prop} {X1 : Nat → AH → Prop} (hX : M0 a = some (cO 3 fs)) (hF : Fx yX3_leads cX3_leads 4 (some .boolean) d [.ref a, .int (iI v0), .int (iI v1)] n M0 mc ms (fun r n' M' => ∃ x, r = some (.int (bI x)) ∧ Q x n' M') (fun E n' M' => (E = IOB ∧ X1 n' M'))) (ho : ∀ x n' M', Q x n' M' → M' o = some (cJ 1 f0)) : Fw yL_leads cL_leads 5 (some .int) [(0, 17, 20, 13)] (d + 1) [.ref a, .int (iI v0), .int (iI v1), .ref o] n M0 mc ms (fun r n' M' => (∃ x M1 f, r = some (.int (iI ((0 : Nat) : Int))) ∧ Q x n' M1 ∧ M' o = some (cJ 1 f) ∧ f 0 = (if x then Int64.ofNat 1 else Int64.ofNat 0) ∧ ∀ q, q ≠ o → M' q = M1 q) ∨ (r = some (.int (iI ((1 : Nat) : Int))) ∧ X1 n' M')) := by
  refine Fw.of (by decide) [some _, some _, some _, some _, none] rfl rfl (Nat.le_of_ble_eq_true rfl) ?_
  intro g G hO htab
  refine J.aload_n (pc := 0) G dL_leads_0 rfl ?_
  refine J.iconstN (pc := 1) G dL_leads_1 0 rfl ?_
  refine J.aload_n (pc := 2) G dL_leads_2 rfl ?_
  refine J.iload_n (pc := 3) G dL_leads_3 rfl ?_
  refine J.iload_n (pc := 4) G dL_leads_4 rfl ?_
  refine J.callXV (pc := 5) (na := 2) G hF q511 q512 q513 q514 q1 (by decide +kernel) dL_leads_5 hX rfl rfl (Nat.le_of_ble_eq_true rfl) rfl ⟨by omega, by decide, by omega, by omega⟩ (fun E n9 M9 h9 => ?_) ?_
  · obtain ⟨rfl, h2⟩ := h9
    refine JX.take G [] _ _ (htab.trans rfl) (fun y hy => absurd hy List.not_mem_nil) (by decide) (by decide) q333 (by decide) (fun q => ?_)
    refine J.astore (L' := [_, _, _, _, _]) (pc := 20) G dL_leads_20 rfl (Nat.le_of_ble_eq_true rfl) rfl ?_
    refine J.iconstN (pc := 22) G dL_leads_22 1 rfl ?_
    exact J.iret (pc := 23) G hO dL_leads_23 (by omega) (by omega) (Or.inr ⟨rfl, h2⟩)
  · rintro r9 n9 M7 ⟨x, hr9, hq⟩
    subst hr9
    dsimp only [Option.toList, List.cons_append, List.nil_append]
    have K : ∀ y : Int64, y = (if x then Int64.ofNat 1 else Int64.ofNat 0) → J g (0 + mc) (0 + ms) n9 M7 [some (.ref a), some (.int (iI v0)), some (.int (iI v1)), some (.ref o), none] 16 [.long y, .int (iI ((0 : Nat) : Int)), .ref o] := by
      intro y hy
      refine J.last (pc := 16) G dL_leads_16 (ho _ _ _ hq) 0 rfl (by decide) (by decide) (fun M hput hag => ?_)
      refine J.goto (pc := 17) (tgt := 24) G dL_leads_17 (by decide) ?_
      refine J.iconstN (pc := 24) G dL_leads_24 0 rfl ?_
      exact J.iret (pc := 25) G hO dL_leads_25 (by omega) (by omega) (Or.inl ⟨x, M7, _, rfl, hq, hput, hy, hag⟩)
    refine J.if_eq_b (pc := 8) (tgt := 15) G dL_leads_8 (by decide) (fun hb => ?_) (fun hb => ?_)
    · refine J.lconst (pc := 15) G dL_leads_15 ?_
      exact K _ (by rw [hb]; rfl)
    · refine J.lconst (pc := 11) G dL_leads_11 ?_
      refine J.goto (pc := 12) (tgt := 16) G dL_leads_12 (by decide) ?_
      exact K _ (by rw [hb]; rfl)
set_option maxRecDepth 100000 in
set_option maxHeartbeats 4000000 in
theorem W_accepts (n : Nat) (M0 : AH) {a o d mc ms : Nat} {fs : List Value} {v0 : Int} {f0 : Nat → Int64} {Q : Bool → Nat → AH → Prop} {X1 X2 : Nat → AH → Prop} (hX : M0 a = some (cO 3 fs)) (hF : Fx yX3_accepts cX3_accepts 2 (some .boolean) d [.ref a, .int (iI v0)] n M0 mc ms (fun r n' M' => ∃ x, r = some (.int (bI x)) ∧ Q x n' M') (fun E n' M' => (E = ISE ∧ X1 n' M') ∨ (E = IOB ∧ X2 n' M'))) (ho : ∀ x n' M', Q x n' M' → M' o = some (cJ 1 f0)) : Fw yL_accepts cL_accepts 4 (some .int) [(0, 16, 19, 15), (0, 16, 22, 13)] (d + 1) [.ref a, .int (iI v0), .ref o] n M0 mc ms (fun r n' M' => (∃ x M1 f, r = some (.int (iI ((0 : Nat) : Int))) ∧ Q x n' M1 ∧ M' o = some (cJ 1 f) ∧ f 0 = (if x then Int64.ofNat 1 else Int64.ofNat 0) ∧ ∀ q, q ≠ o → M' q = M1 q) ∨ (r = some (.int (iI ((1 : Nat) : Int))) ∧ X1 n' M') ∨ (r = some (.int (iI ((2 : Nat) : Int))) ∧ X2 n' M')) := by
  refine Fw.of (by decide) [some _, some _, some _, none] rfl rfl (Nat.le_of_ble_eq_true rfl) ?_
  intro g G hO htab
  refine J.aload_n (pc := 0) G dL_accepts_0 rfl ?_
  refine J.iconstN (pc := 1) G dL_accepts_1 0 rfl ?_
  refine J.aload_n (pc := 2) G dL_accepts_2 rfl ?_
  refine J.iload_n (pc := 3) G dL_accepts_3 rfl ?_
  refine J.callXV (pc := 4) (na := 1) G hF q610 q611 q612 q613 q1 (by decide +kernel) dL_accepts_4 hX rfl rfl (Nat.le_of_ble_eq_true rfl) rfl ⟨by omega, by decide, by omega, by omega⟩ (fun E n9 M9 h9 => ?_) ?_
  · rcases h9 with ⟨rfl, h2⟩ | ⟨rfl, h2⟩
    · refine JX.take G [] _ _ (htab.trans rfl) (fun y hy => absurd hy List.not_mem_nil) (by decide) (by decide) q334 (by decide) (fun q => ?_)
      refine J.astore_n (L' := [_, _, _, _]) (pc := 19) G dL_accepts_19 rfl (Nat.le_of_ble_eq_true rfl) rfl ?_
      refine J.iconstN (pc := 20) G dL_accepts_20 1 rfl ?_
      exact J.iret (pc := 21) G hO dL_accepts_21 (by omega) (by omega) (Or.inr (Or.inl ⟨rfl, h2⟩))
    · refine JX.take G [_] _ _ (htab.trans rfl) (fun y hy => ?_) (by decide) (by decide) q333 (by decide) (fun q => ?_)
      · rw [List.mem_singleton.mp hy]
        exact Or.inr ⟨by decide, _, q334, by decide⟩
      refine J.astore_n (L' := [_, _, _, _]) (pc := 22) G dL_accepts_22 rfl (Nat.le_of_ble_eq_true rfl) rfl ?_
      refine J.iconstN (pc := 23) G dL_accepts_23 2 rfl ?_
      exact J.iret (pc := 24) G hO dL_accepts_24 (by omega) (by omega) (Or.inr (Or.inr ⟨rfl, h2⟩))
  · rintro r9 n9 M7 ⟨x, hr9, hq⟩
    subst hr9
    dsimp only [Option.toList, List.cons_append, List.nil_append]
    have K : ∀ y : Int64, y = (if x then Int64.ofNat 1 else Int64.ofNat 0) → J g (0 + mc) (0 + ms) n9 M7 [some (.ref a), some (.int (iI v0)), some (.ref o), none] 15 [.long y, .int (iI ((0 : Nat) : Int)), .ref o] := by
      intro y hy
      refine J.last (pc := 15) G dL_accepts_15 (ho _ _ _ hq) 0 rfl (by decide) (by decide) (fun M hput hag => ?_)
      refine J.goto (pc := 16) (tgt := 25) G dL_accepts_16 (by decide) ?_
      refine J.iconstN (pc := 25) G dL_accepts_25 0 rfl ?_
      exact J.iret (pc := 26) G hO dL_accepts_26 (by omega) (by omega) (Or.inl ⟨x, M7, _, rfl, hq, hput, hy, hag⟩)
    refine J.if_eq_b (pc := 7) (tgt := 14) G dL_accepts_7 (by decide) (fun hb => ?_) (fun hb => ?_)
    · refine J.lconst (pc := 14) G dL_accepts_14 ?_
      exact K _ (by rw [hb]; rfl)
    · refine J.lconst (pc := 10) G dL_accepts_10 ?_
      refine J.goto (pc := 11) (tgt := 15) G dL_accepts_11 (by decide) ?_
      exact K _ (by rw [hb]; rfl)
set_option maxRecDepth 100000 in
set_option maxHeartbeats 4000000 in
theorem W_acceptsBuffer (n : Nat) (M0 : AH) {a o d mc ms : Nat} {fs : List Value} {f0 : Nat → Int64} {Q : Bool → Nat → AH → Prop} {X1 : Nat → AH → Prop} (hX : M0 a = some (cO 3 fs)) (hF : Fx yX3_acceptsBuffer cX3_acceptsBuffer 1 (some .boolean) d [.ref a] n M0 mc ms (fun r n' M' => ∃ x, r = some (.int (bI x)) ∧ Q x n' M') (fun E n' M' => (E = ISE ∧ X1 n' M'))) (ho : ∀ x n' M', Q x n' M' → M' o = some (cJ 1 f0)) : Fw yL_acceptsBuffer cL_acceptsBuffer 3 (some .int) [(0, 15, 18, 15)] (d + 1) [.ref a, .ref o] n M0 mc ms (fun r n' M' => (∃ x M1 f, r = some (.int (iI ((0 : Nat) : Int))) ∧ Q x n' M1 ∧ M' o = some (cJ 1 f) ∧ f 0 = (if x then Int64.ofNat 1 else Int64.ofNat 0) ∧ ∀ q, q ≠ o → M' q = M1 q) ∨ (r = some (.int (iI ((1 : Nat) : Int))) ∧ X1 n' M')) := by
  refine Fw.of (by decide) [some _, some _, none] rfl rfl (Nat.le_of_ble_eq_true rfl) ?_
  intro g G hO htab
  refine J.aload_n (pc := 0) G dL_acceptsBuffer_0 rfl ?_
  refine J.iconstN (pc := 1) G dL_acceptsBuffer_1 0 rfl ?_
  refine J.aload_n (pc := 2) G dL_acceptsBuffer_2 rfl ?_
  refine J.callXV (pc := 3) (na := 0) G hF q663 q664 q665 q666 q1 (by decide +kernel) dL_acceptsBuffer_3 hX rfl rfl (Nat.le_of_ble_eq_true rfl) rfl ⟨by omega, by decide, by omega, by omega⟩ (fun E n9 M9 h9 => ?_) ?_
  · obtain ⟨rfl, h2⟩ := h9
    refine JX.take G [] _ _ (htab.trans rfl) (fun y hy => absurd hy List.not_mem_nil) (by decide) (by decide) q334 (by decide) (fun q => ?_)
    refine J.astore_n (L' := [_, _, _]) (pc := 18) G dL_acceptsBuffer_18 rfl (Nat.le_of_ble_eq_true rfl) rfl ?_
    refine J.iconstN (pc := 19) G dL_acceptsBuffer_19 1 rfl ?_
    exact J.iret (pc := 20) G hO dL_acceptsBuffer_20 (by omega) (by omega) (Or.inr ⟨rfl, h2⟩)
  · rintro r9 n9 M7 ⟨x, hr9, hq⟩
    subst hr9
    dsimp only [Option.toList, List.cons_append, List.nil_append]
    have K : ∀ y : Int64, y = (if x then Int64.ofNat 1 else Int64.ofNat 0) → J g (0 + mc) (0 + ms) n9 M7 [some (.ref a), some (.ref o), none] 14 [.long y, .int (iI ((0 : Nat) : Int)), .ref o] := by
      intro y hy
      refine J.last (pc := 14) G dL_acceptsBuffer_14 (ho _ _ _ hq) 0 rfl (by decide) (by decide) (fun M hput hag => ?_)
      refine J.goto (pc := 15) (tgt := 21) G dL_acceptsBuffer_15 (by decide) ?_
      refine J.iconstN (pc := 21) G dL_acceptsBuffer_21 0 rfl ?_
      exact J.iret (pc := 22) G hO dL_acceptsBuffer_22 (by omega) (by omega) (Or.inl ⟨x, M7, _, rfl, hq, hput, hy, hag⟩)
    refine J.if_eq_b (pc := 6) (tgt := 13) G dL_acceptsBuffer_6 (by decide) (fun hb => ?_) (fun hb => ?_)
    · refine J.lconst (pc := 13) G dL_acceptsBuffer_13 ?_
      exact K _ (by rw [hb]; rfl)
    · refine J.lconst (pc := 9) G dL_acceptsBuffer_9 ?_
      refine J.goto (pc := 10) (tgt := 14) G dL_acceptsBuffer_10 (by decide) ?_
      exact K _ (by rw [hb]; rfl)
end WRAPSB
