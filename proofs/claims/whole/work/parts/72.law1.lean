section LAW1
set_option maxRecDepth 100000 in
set_option maxHeartbeats 4000000 in
theorem w_event (n : Nat) (M0 : AH) {a o : Nat} {v : Int} {A : Nat → Nat → Nat} {S : Nat → Nat} {f0 : Nat → Int64} (hX : Cl M0 a (minC a A S)) (hok : MnOk A S) (hv : Rng v) (ho : M0 o = some (cJ 1 f0)) (hoa : o < a ∨ a + 128 ≤ o) : Fw yL_event cL_event 4 (some .int) [(0, 9, 12, 13), (0, 9, 15, 15)] 8 [.ref a, .int (iI v), .ref o] n M0 2 12 (fun r n' M' => ((0 ≤ v ∧ v < 8) ∧ S 1 < 12 ∧ r = some (.int (iI ((0 : Nat) : Int))) ∧ n' = n ∧ Cl M' a (minC a (evA A S v.toNat) (upN S 1 (S 1 + 1))) ∧ (∃ f : Nat → Int64, M' o = some (cJ 1 f) ∧ f 0 = (iI ((S 1 + 1 : Nat) : Int)).toInt64) ∧ ∀ q, (q < a ∨ a + 5 ≤ q) → q ≠ o → M' q = M0 q) ∨ (¬ (0 ≤ v ∧ v < 8) ∧ r = some (.int (iI ((1 : Nat) : Int))) ∧ n ≤ n' ∧ M' = M0) ∨ ((0 ≤ v ∧ v < 8) ∧ ¬ S 1 < 12 ∧ r = some (.int (iI ((2 : Nat) : Int))) ∧ n ≤ n' ∧ M' = M0)) := by
  refine Fw.of (by decide) [some _, some _, some _, none] rfl rfl (Nat.le_of_ble_eq_true rfl) ?_
  intro g G hO htab
  refine J.aload_n (pc := 0) G dL_event_0 rfl ?_
  refine J.iconstN (pc := 1) G dL_event_1 0 rfl ?_
  refine J.aload_n (pc := 2) G dL_event_2 rfl ?_
  refine J.iload_n (pc := 3) G dL_event_3 rfl ?_
  refine J.callXV (pc := 4) (na := 1) G (c_event n M0 hX hok hv) q335 q336 q337 q338 q1 (by decide +kernel) dL_event_4 (hX.at 0 rfl) rfl rfl (Nat.le_of_ble_eq_true rfl) rfl ⟨by omega, by decide, by omega, by omega⟩ (fun E n9 M9 h9 => ?_) ?_
  · obtain ⟨hn, rfl, h | h⟩ := h9
    · obtain ⟨rfl, h2⟩ := h
      refine JX.take G [] _ _ (htab.trans rfl) (fun y hy => absurd hy List.not_mem_nil) (by decide) (by decide) q333 (by decide) (fun q => ?_)
      refine J.astore_n (L' := [_, _, _, _]) (pc := 12) G dL_event_12 rfl (Nat.le_of_ble_eq_true rfl) rfl ?_
      refine J.iconstN (pc := 13) G dL_event_13 1 rfl ?_
      exact J.iret (pc := 14) G hO dL_event_14 (by omega) (by omega) (Or.inr (Or.inl ⟨h2, rfl, hn, rfl⟩))
    · obtain ⟨rfl, h2, h3⟩ := h
      refine JX.take G [_] _ _ (htab.trans rfl) (fun y hy => ?_) (by decide) (by decide) q334 (by decide) (fun q => ?_)
      · rw [List.mem_singleton.mp hy]
        exact Or.inr ⟨by decide, _, q333, by decide⟩
      refine J.astore_n (L' := [_, _, _, _]) (pc := 15) G dL_event_15 rfl (Nat.le_of_ble_eq_true rfl) rfl ?_
      refine J.iconstN (pc := 16) G dL_event_16 2 rfl ?_
      exact J.iret (pc := 17) G hO dL_event_17 (by omega) (by omega) (Or.inr (Or.inr ⟨h2, h3, rfl, hn, rfl⟩))
  · rintro r9 n9 M7 ⟨hr9, hn9, hX7, hFr7, hv0, hv8, hs1⟩
    subst hr9
    rw [hn9]
    clear hn9 n9
    dsimp only [Option.toList, List.cons_append, List.nil_append]
    refine J.i2l (pc := 7) G dL_event_7 ?_
    refine J.last (pc := 8) G dL_event_8 ((hFr7 o (by omega)).trans ho) 0 rfl (by decide) (by decide) (fun M hput hag => ?_)
    refine J.goto (pc := 9) (tgt := 18) G dL_event_9 (by decide) ?_
    refine J.iconstN (pc := 18) G dL_event_18 0 rfl ?_
    exact J.iret (pc := 19) G hO dL_event_19 (by omega) (by omega) (Or.inl ⟨⟨hv0, hv8⟩, hs1, rfl, rfl, hX7.keep (fun q h1 h2 => hag q (by simp at h2; omega)), ⟨_, hput, rfl⟩, fun q h1 h2 => (hag q h2).trans (hFr7 q (by omega))⟩)
end LAW1
