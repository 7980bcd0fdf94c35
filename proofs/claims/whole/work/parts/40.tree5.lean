section TREE5
def lvV (nd : List Nd) (f : Nat → Nat) (i : Nat) : Nat := if ndP nd i < 0 then 1 else f (ndP nd i).toNat + 1
def lvS (nd : List Nd) (i : Nat) (x : (Nat → Nat) × Nat) : (Nat → Nat) × Nat := (upN x.1 i (lvV nd x.1 i), max x.2 (lvV nd x.1 i))
/-- the levels of the first k nodes, and the most of them -/
def lvT (nd : List Nd) (f : Nat → Nat) (k : Nat) : (Nat → Nat) × Nat := it (lvS nd) (f, 0) k
theorem lvT_ok {nd : List Nd} {f : Nat → Nat} {k : Nat} (hp : ∀ i, i < nd.length → ndP nd i < (i : Int)) (hk : k ≤ nd.length) : (∀ j, j < k → (lvT nd f k).1 j ≤ j + 1) ∧ (lvT nd f k).2 ≤ k :=
  it_inv (fun k (x : (Nat → Nat) × Nat) => (∀ j, j < k → x.1 j ≤ j + 1) ∧ x.2 ≤ k) k ⟨fun j hj => absurd hj (Nat.not_lt_zero j), Nat.le_refl _⟩ (fun i x hi hx => by
    have hpi := hp i (by omega)
    have hv : lvV nd x.1 i ≤ i + 1 := by
      unfold lvV
      split
      · omega
      · have := hx.1 (ndP nd i).toNat (by omega)
        omega
    refine ⟨fun j hj => ?_, ?_⟩
    · show upN x.1 i (lvV nd x.1 i) j ≤ j + 1
      by_cases q : j = i
      · subst q; rw [upN_s]; exact hv
      · rw [upN_n q]; exact hx.1 j (by omega)
    · show max x.2 (lvV nd x.1 i) ≤ i + 1
      have := hx.2
      omega)
set_option maxRecDepth 100000 in
set_option maxHeartbeats 4000000 in
theorem c_countLevels (n : Nat) (M0 : AH) {a : Nat} {A : Nat → Nat → Nat} {P : Nat → Int} {S : Nat → Nat} {nd : List Nd} (hT : Cl M0 a (treeC a A P S)) (hnd : TreeIs A P S nd) (hpm : ∀ i, i < nd.length → -1 ≤ ndP nd i) : Fn yX2_countLevels cX2_countLevels 3 (some .int) 1 [.ref a] n M0 0 0 (fun r n' M' => r = some (.int (iI (((lvT nd (A 6) nd.length).2 : Nat) : Int))) ∧ n' = n ∧ (∃ f, Cl M' a (treeC a (upAN A 6 f) P S)) ∧ Fr a (a + 7) M0 M') := by
  refine Fn.of (by decide) [some _, none, none] rfl rfl (Nat.le_of_ble_eq_true rfl) ?_
  intro g G hin hO
  have h64 := hnd.2.1
  have g6 := hnd.1
  have hp := hnd.2.2.2
  refine J.iconstN (pc := 0) G dX2_countLevels_0 0 rfl ?_
  refine J.istore_n (L' := [_, _, _]) (pc := 1) G dX2_countLevels_1 rfl (Nat.le_of_ble_eq_true rfl) rfl ?_
  refine J.iconstN (pc := 2) G dX2_countLevels_2 0 rfl ?_
  refine J.istore_n (L' := [_, _, _]) (pc := 3) G dX2_countLevels_3 rfl (Nat.le_of_ble_eq_true rfl) rfl ?_
  have K1 : ∀ q : Nat × AH, (q.1 ≤ nd.length ∧ Cl q.2 a (treeC a (upAN A 6 (lvT nd (A 6) q.1).1) P S) ∧ Fr a (a + 7) M0 q.2) → J g 0 0 n q.2 [some (.ref a), some (.int (iI ((lvT nd (A 6) q.1).2 : Int))), some (.int (iI (q.1 : Int)))] 4 [] := by
    refine loopJ (fun q => nd.length - q.1) _ _ ?_
    clear hT
    rintro ⟨j, M⟩ ⟨hj, hT, hFr⟩ ih
    dsimp only at hj hT hFr ih ⊢
    obtain ⟨hb1, hb2⟩ := lvT_ok (f := A 6) hp hj
    have hstep : lvT nd (A 6) (j + 1) = lvS nd j (lvT nd (A 6) j) := rfl
    have hend : j = nd.length → lvT nd (A 6) j = lvT nd (A 6) nd.length := fun e => by rw [e]
    generalize lvT nd (A 6) j = x at hT hb1 hb2 hstep hend ⊢
    refine J.iload_n (pc := 4) G dX2_countLevels_4 rfl ?_
    refine J.aload_n (pc := 5) G dX2_countLevels_5 rfl ?_
    refine J.getf (pc := 6) (ci := 2) G inX2 rfl 6 q44 dX2_countLevels_6 (hT.at 0 rfl) (by decide) rfl ?_
    rw [g6]
    refine J.icmp_geN (pc := 9) (tgt := 61) G dX2_countLevels_9 (by decide) (by omega) (by omega) (fun h => ?_) (fun h => ?_)
    · rw [← hend (by omega)] at hO
      refine J.iload_n (pc := 61) G dX2_countLevels_61 rfl ?_
      exact J.iret (pc := 62) G hO dX2_countLevels_62 (Nat.le_refl _) (Nat.le_refl _) ⟨rfl, rfl, ⟨_, hT⟩, hFr⟩
    · have hpj := hp j h
      have hPj : P j = ndP nd j := (hnd.2.2.1 j h).2.2.1
      have hpl : -2147483648 ≤ ndP nd j := by have := hpm j h; omega
      have K2 : ∀ v : Nat, lvV nd x.1 j = v → J g 0 0 n M [some (.ref a), some (.int (iI (x.2 : Int))), some (.int (iI (j : Int)))] 43 [.int (iI (v : Int)), .int (iI (j : Int)), .ref (a + 6)] := by
        intro v hv
        have hvb : v ≤ j + 1 := by
          rw [← hv]
          unfold lvV
          split
          · omega
          · have := hb1 (ndP nd j).toNat (by omega)
            omega
        refine J.iastN (pc := 43) G dX2_countLevels_43 (hT.at 6 rfl) (by omega) (by decide) (fun M hput hag => ?_)
        have hT := treeA6 hT hput hag
        rw [upAN2] at hT
        have hFr := hFr.put hag (by omega) (by omega)
        clear hput hag
        refine J.iload_n (pc := 44) G dX2_countLevels_44 rfl ?_
        refine J.aload_n (pc := 45) G dX2_countLevels_45 rfl ?_
        refine J.getf (pc := 46) (ci := 2) G inX2 rfl 5 q43 dX2_countLevels_46 (hT.at 0 rfl) (by decide) rfl ?_
        refine J.iload_n (pc := 49) G dX2_countLevels_49 rfl ?_
        refine J.ialdN (pc := 50) G dX2_countLevels_50 (hT.at 6 rfl) (by omega) (by decide) ?_
        refine J.topv (b := iI (v : Int)) (by show iI ((upN x.1 j v j : Nat) : Int) = _; rw [upN_s]) ?_
        refine J.mmax (pc := 51) G q604 dX2_countLevels_51 (by decide) (Nat.le_of_ble_eq_true rfl) rfl (by decide) (by decide) (by omega) (by omega) ?_
        refine J.istore_n (L' := [_, _, _]) (pc := 54) G dX2_countLevels_54 rfl (Nat.le_of_ble_eq_true rfl) rfl ?_
        refine J.iincN (L' := [_, _, _]) (pc := 55) G dX2_countLevels_55 1 rfl rfl rfl rfl ?_
        refine J.goto (pc := 58) (tgt := 4) G dX2_countLevels_58 (by decide) ?_
        have := ih (j + 1, M) ⟨by dsimp only; omega, by dsimp only; rw [hstep]; show Cl M a (treeC a (upAN A 6 (upN x.1 j (lvV nd x.1 j))) P S); rw [hv]; exact hT, hFr⟩ (by dsimp only; omega)
        dsimp only at this
        rw [hstep] at this
        rw [show (lvS nd j x).2 = max x.2 v by show max x.2 (lvV nd x.1 j) = _; rw [hv]] at this
        exact this
      refine J.aload_n (pc := 12) G dX2_countLevels_12 rfl ?_
      refine J.getf (pc := 13) (ci := 2) G inX2 rfl 5 q43 dX2_countLevels_13 (hT.at 0 rfl) (by decide) rfl ?_
      refine J.iload_n (pc := 16) G dX2_countLevels_16 rfl ?_
      refine J.aload_n (pc := 17) G dX2_countLevels_17 rfl ?_
      refine J.getf (pc := 18) (ci := 2) G inX2 rfl 2 q37 dX2_countLevels_18 (hT.at 0 rfl) (by decide) rfl ?_
      refine J.iload_n (pc := 21) G dX2_countLevels_21 rfl ?_
      refine J.iald (pc := 22) G dX2_countLevels_22 (hT.at 3 rfl) j rfl (by omega) (by decide) ?_
      rw [hPj]
      refine J.if_ge (pc := 23) (tgt := 30) G dX2_countLevels_23 (by decide) hpl (by omega) (fun h2 => ?_) (fun h2 => ?_)
      · have hle : (ndP nd j).toNat < nd.length := by omega
        refine J.aload_n (pc := 30) G dX2_countLevels_30 rfl ?_
        refine J.getf (pc := 31) (ci := 2) G inX2 rfl 5 q43 dX2_countLevels_31 (hT.at 0 rfl) (by decide) rfl ?_
        refine J.aload_n (pc := 34) G dX2_countLevels_34 rfl ?_
        refine J.getf (pc := 35) (ci := 2) G inX2 rfl 2 q37 dX2_countLevels_35 (hT.at 0 rfl) (by decide) rfl ?_
        refine J.iload_n (pc := 38) G dX2_countLevels_38 rfl ?_
        refine J.iald (pc := 39) G dX2_countLevels_39 (hT.at 3 rfl) j rfl (by omega) (by decide) ?_
        rw [hPj, show ndP nd j = ((ndP nd j).toNat : Int) by omega]
        refine J.ialdN (pc := 40) G dX2_countLevels_40 (hT.at 6 rfl) (by omega) (by decide) ?_
        refine J.iconstN (pc := 41) G dX2_countLevels_41 1 rfl ?_
        refine J.iaddN (pc := 42) G dX2_countLevels_42 ?_
        exact K2 (x.1 (ndP nd j).toNat + 1) (by unfold lvV; rw [if_neg (by omega)])
      · refine J.iconstN (pc := 26) G dX2_countLevels_26 1 rfl ?_
        refine J.goto (pc := 27) (tgt := 43) G dX2_countLevels_27 (by decide) ?_
        exact K2 1 (by unfold lvV; rw [if_pos h2])
  exact K1 (0, M0) ⟨Nat.zero_le _, by dsimp only; rw [show (lvT nd (A 6) 0).1 = A 6 from rfl, upAN_same]; exact hT, Fr.rf⟩
end TREE5
