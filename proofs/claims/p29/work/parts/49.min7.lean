section MIN7
/-- the tree of the stored log -/
def trOf (A : Nat → Nat → Nat) (S : Nat → Nat) : List Nd := growF 16 (lgOf A S) (-1) []
set_option maxRecDepth 100000 in
set_option maxHeartbeats 4000000 in
theorem c_mine (n : Nat) (M0 : AH) {a : Nat} {A : Nat → Nat → Nat} {S : Nat → Nat} {B : Nat → Nat → Nat} {P : Nat → Int} {T : Nat → Nat} (hX : Cl M0 a (minC a A S)) (hok : MnOk A S) (hLs : LogsAt M0 (a + 16)) (hT : Cl M0 (a + 7) (treeC (a + 7) B P T)) (hnd : S 9 = 1 → TreeIs B P T (trOf A S)) (hgo : growOk 16 (lgOf A S) (-1) []) : Fn yX3_mine cX3_mine 1 (some .int) 21 [.ref a] n M0 0 0 (fun r n' M' => r = some (.int (iI (((trOf A S).length : Nat) : Int))) ∧ n' = n ∧ Cl M' a (minC a A (upN S 9 1)) ∧ (∃ B' P' T', Cl M' (a + 7) (treeC (a + 7) B' P' T') ∧ TreeIs B' P' T' (trOf A S)) ∧ LogsAt M' (a + 16) ∧ (∀ q, (q = a + 6 ∨ a + 14 ≤ q) → q < a + 16 → M' q = M0 q) ∧ Fr a (a + 128) M0 M') := by
  refine Fn.of (by decide) [some _] rfl rfl (Nat.le_of_ble_eq_true rfl) ?_
  intro g G hin hO
  obtain ⟨h1, h5, h9, hbu, hev, hle, hti⟩ := id hok
  have K38 : ∀ M B P T, Cl M a (minC a A (upN S 9 1)) → Cl M (a + 7) (treeC (a + 7) B P T) → TreeIs B P T (trOf A S) → LogsAt M (a + 16) → (∀ q, (q = a + 6 ∨ a + 14 ≤ q) → q < a + 16 → M q = M0 q) → Fr a (a + 128) M0 M → J g 0 0 n M [some (.ref a)] 38 [] := by
    intro M B P T hX hT hnd hLs hf1 hf2
    refine J.aload_n (pc := 38) G dX3_mine_38 rfl ?_
    refine J.getf (pc := 39) (ci := 3) G inX3 rfl 8 q142 dX3_mine_39 (hX.at 0 rfl) (by decide) rfl ?_
    refine J.getf (pc := 42) (ci := 2) G inX2 rfl 6 q46 dX3_mine_42 (hT.at 0 rfl) (by decide) rfl ?_
    rw [hnd.1]
    exact J.iret (pc := 45) G hO dX3_mine_45 (Nat.le_refl _) (Nat.le_refl _) ⟨rfl, rfl, hX, ⟨B, P, T, hT, hnd⟩, hLs, hf1, hf2⟩
  refine J.aload_n (pc := 0) G dX3_mine_0 rfl ?_
  refine J.getf (pc := 1) (ci := 3) G inX3 rfl 9 q144 dX3_mine_1 (hX.at 0 rfl) (by decide) rfl ?_
  refine J.if_neN (pc := 4) (tgt := 38) G dX3_mine_4 (by decide) (by omega) (fun h => ?_) (fun h => ?_)
  · have hs1 : S 9 = 1 := by omega
    have hS : upN S 9 1 = S := by
      funext j
      by_cases q : j = 9
      · rw [q, upN_s, hs1]
      · rw [upN_n q]
    exact K38 M0 B P T (by rw [hS]; exact hX) hT (hnd hs1) hLs (fun q _ _ => rfl) Fr.rf
  · refine J.aload_n (pc := 7) G dX3_mine_7 rfl ?_
    refine J.callV (pc := 8) (na := 0) G (c_readLog n M0 hX hok (hLs 0 (by decide))) q174 q176 qp0 q177 q1 (by decide +kernel) dX3_mine_8 (hX.at 0 rfl) rfl rfl (Nat.le_of_ble_eq_true rfl) rfl ⟨by omega, by decide, by omega, by omega⟩ ?_
    rintro r9 n9 M1 ⟨hr9, hn9, ⟨⟨BL, TL, hL, hlm⟩, hFr⟩⟩
    subst hr9
    rw [hn9]
    clear hn9 n9
    dsimp only [Option.toList, List.cons_append, List.nil_append]
    have hX := hX.fr hFr (by simp)
    have hT := hT.fr hFr (by simp)
    have hLs1 : LogsAt M1 (a + 16) := hLs.put (d := 0) hFr hL
    have hf1 : ∀ q, (q = a + 6 ∨ a + 14 ≤ q) → q < a + 16 → M1 q = M0 q := fun q h1 h2 => hFr q (by omega)
    have hf2 : Fr a (a + 128) M0 M1 := hFr.wide (by omega) (by omega)
    have hFr := hFr.wide (lo' := a) (hi' := a + 128) (by omega) (by omega)
    refine J.pop (pc := 11) G dX3_mine_11 rfl ?_
    refine J.aload_n (pc := 12) G dX3_mine_12 rfl ?_
    refine J.getf (pc := 13) (ci := 3) G inX3 rfl 8 q142 dX3_mine_13 (hX.at 0 rfl) (by decide) rfl ?_
    refine J.iconstN (pc := 16) G dX3_mine_16 0 rfl ?_
    refine J.putf (pc := 17) (ci := 2) G inX2 rfl tyX2 tyX2_ok nmX2 6 q46 dX3_mine_17 (hT.at 0 rfl) (by decide) (Nat.le_of_ble_eq_true rfl) (Or.inl rfl) (tyX2_ok 6 (by decide)) (by first | rfl | decide +kernel) (by first | rfl | decide +kernel) (fun M hput hag => ?_)
    have hT := treeS6 hT hput hag
    have hX := hX.keep (fun q h1 h2 => hag q (by simp at h2; omega))
    have hL := hL.keep (fun q h1 h2 => hag q (by omega))
    have hLs2 : LogsAt M (a + 16) := fun i hi => by
      obtain ⟨A1, S1, hh⟩ := hLs1 i hi
      exact ⟨A1, S1, hh.keep (fun q h1 h2 => hag q (by omega))⟩
    have hf1 : ∀ q, (q = a + 6 ∨ a + 14 ≤ q) → q < a + 16 → M q = M0 q := fun q h1 h2 => (hag q (by omega)).trans (hf1 q h1 h2)
    have hf2 := hf2.put hag (by omega) (by omega)
    clear hFr hput hag
    have hnil : TreeIs B P (upN T 6 0) [] := ⟨rfl, Nat.zero_le _, fun i hi => absurd hi (Nat.not_lt_zero i), fun i hi => absurd hi (Nat.not_lt_zero i)⟩
    have hgr := c_grow (lv := a + 5) (tb := a + 7) (lb := a + 16) (by omega) (by omega) 15 n M 0 (-1) (lgOf A S) [] BL B TL (upN T 6 0) P rfl (hX.at 5 rfl) hLs2 hL hlm (lgOf_good hok) hT hnil hgo
    refine J.aload_n (pc := 20) G dX3_mine_20 rfl ?_
    refine J.getf (pc := 21) (ci := 3) G inX3 rfl 6 q141 dX3_mine_21 (hX.at 0 rfl) (by decide) rfl ?_
    refine J.aload_n (pc := 24) G dX3_mine_24 rfl ?_
    refine J.getf (pc := 25) (ci := 3) G inX3 rfl 8 q142 dX3_mine_25 (hX.at 0 rfl) (by decide) rfl ?_
    refine J.iconstN (pc := 28) G dX3_mine_28 0 rfl ?_
    refine J.iconst (pc := 29) G dX3_mine_29 ?_
    refine J.callS (pc := 30) (na := 4) G (hgr) q218 q219 q220 q1 (by decide +kernel) dX3_mine_30 rfl (Nat.le_of_ble_eq_true rfl) rfl ⟨by omega, by decide, by omega, by omega⟩ ?_
    rintro r9 n9 M7 ⟨hr9, hn9, ⟨⟨B7, P7, T7, hT7, hnd7⟩, hLs7, hG7⟩⟩
    subst hr9
    rw [hn9]
    clear hn9 n9
    dsimp only [Option.toList, List.cons_append, List.nil_append]
    have hX := hX.keep (M' := M7) (fun q h1 h2 => hG7 q (by simp at h2; omega))
    have hf1 : ∀ q, (q = a + 6 ∨ a + 14 ≤ q) → q < a + 16 → M7 q = M0 q := fun q h1 h2 => (hG7 q (by omega)).trans (hf1 q h1 h2)
    have hf2 : Fr a (a + 128) M0 M7 := fun q hq => (hG7 q (by omega)).trans (hf2 q hq)
    have hT := hT7
    have hFr := hf2
    refine J.aload_n (pc := 33) G dX3_mine_33 rfl ?_
    refine J.iconstN (pc := 34) G dX3_mine_34 1 rfl ?_
    refine J.putf (pc := 35) (ci := 3) G inX3 rfl tyX3 tyX3_ok nmX3 9 q144 dX3_mine_35 (hX.at 0 rfl) (by decide) (Nat.le_of_ble_eq_true rfl) (Or.inl rfl) (tyX3_ok 9 (by decide)) (by first | rfl | decide +kernel) (by first | rfl | decide +kernel) (fun M hput hag => ?_)
    refine K38 M B7 P7 T7 (minS9 hX hput hag) (hT.keep (fun q h1 h2 => hag q (by omega))) hnd7 (fun i hi => ?_) (fun q h1 h2 => (hag q (by omega)).trans (hf1 q h1 h2)) (hf2.put hag (by omega) (by omega))
    obtain ⟨A1, S1, hh⟩ := hLs7 i hi
    exact ⟨A1, S1, hh.keep (fun q h1 h2 => hag q (by omega))⟩
end MIN7
