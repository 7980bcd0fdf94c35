section MIN5
abbrev Lg0 (M : AH) (b : Nat) : Prop := ∃ B T, Cl M b (logC b B T)
set_option maxRecDepth 100000 in
set_option maxHeartbeats 4000000 in
theorem c_labels (n : Nat) (M0 : AH) {a : Nat} {A : Nat → Nat → Nat} {S : Nat → Nat} (hX : Cl M0 a (minC a A S)) (hok : MnOk A S) (hL0 : Lg0 M0 (a + 16)) : Fn yX3_labels cX3_labels 1 (some .int) 3 [.ref a] n M0 0 0 (fun r n' M' => r = some (.int (iI (((mL (lgOf A S)).1 : Nat) : Int))) ∧ n' = n ∧ Lg0 M' (a + 16) ∧ Fr (a + 16) (a + 23) M0 M') := by
  refine Fn.of (by decide) [some _] rfl rfl (Nat.le_of_ble_eq_true rfl) ?_
  intro g G hin hO
  refine J.aload_n (pc := 0) G dX3_labels_0 rfl ?_
  refine J.callV (pc := 1) (na := 0) G (c_readLog n M0 hX hok hL0) q174 q176 qp0 q177 q1 (by decide +kernel) dX3_labels_1 (hX.at 0 rfl) rfl rfl (Nat.le_of_ble_eq_true rfl) rfl ⟨by omega, by decide, by omega, by omega⟩ ?_
  rintro r9 n9 M1 ⟨hr9, hn9, ⟨⟨B, T, hL, hI, hM, hN⟩, hFr⟩⟩
  subst hr9
  rw [hn9]
  clear hn9 n9
  dsimp only [Option.toList, List.cons_append, List.nil_append]
  refine J.getf (pc := 4) (ci := 0) G inX0 rfl 4 q92 dX3_labels_4 (hL.at 0 rfl) (by decide) rfl ?_
  rw [hM.1]
  exact J.iret (pc := 7) G hO dX3_labels_7 (Nat.le_refl _) (Nat.le_refl _) ⟨rfl, rfl, ⟨B, T, hL⟩, hFr⟩
end MIN5
