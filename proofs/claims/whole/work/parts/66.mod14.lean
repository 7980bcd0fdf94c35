section MOD14
/-- at b stands a row of rows of labels: the log tr -/
def LgR (M : AH) (b : Nat) (tr : List (List Nat)) : Prop := ∃ f : Nat → Option Nat, M b = some (cR 3 tr.length f) ∧ ∀ j, j < tr.length → ∃ r e, f j = some r ∧ M r = some (cN (tr.getD j []).length e) ∧ ∀ i, i < (tr.getD j []).length → e i = gd (tr.getD j []) i
def adR (R : Nat → Nat → Nat) (Z : Nat → Nat) (kd set : Nat) : Nat → Nat → Nat := upAN (upAN R 5 (upN (R 5) (Z 8) kd)) 7 (upN (R 7) (Z 8) set)
set_option maxRecDepth 100000 in
set_option maxHeartbeats 4000000 in
theorem m_add (n : Nat) (M0 : AH) {a kd set : Nat} {p : Int} {R : Nat → Nat → Nat} {P : Nat → Int} {Z : Nat → Nat} (hM : Cl M0 a (modC a R P Z)) (h8 : Z 8 < 200) : Fn yX4_add cX4_add 4 (some .int) 0 [.ref a, .int (iI (kd : Int)), .int (iI p), .int (iI (set : Int))] n M0 0 0 (fun r n' M' => r = some (.int (iI ((Z 8 : Nat) : Int))) ∧ n' = n ∧ Cl M' a (modC a (adR R Z kd set) (upI P (Z 8) p) (upN Z 8 (Z 8 + 1))) ∧ Fr a (a + 9) M0 M') := by
  refine Fn.of (by decide) [some _, some _, some _, some _] rfl rfl (Nat.le_of_ble_eq_true rfl) ?_
  intro g G hin hO
  have hFr : Fr a (a + 9) M0 M0 := Fr.rf
  generalize hM1 : M0 = M1 at hM hFr
  refine J.aload_n (pc := 0) G dX4_add_0 rfl ?_
  refine J.getf (pc := 1) (ci := 4) G inX4 rfl 9 q704 dX4_add_1 (hM.at 0 rfl) (by decide) rfl ?_
  refine J.aload_n (pc := 4) G dX4_add_4 rfl ?_
  refine J.getf (pc := 5) (ci := 4) G inX4 rfl 8 q703 dX4_add_5 (hM.at 0 rfl) (by decide) rfl ?_
  refine J.iload_n (pc := 8) G dX4_add_8 rfl ?_
  refine J.iastN (pc := 9) G dX4_add_9 (hM.at 5 rfl) (by omega) (by decide) (fun M hput hag => ?_)
  have hM := modA5 hM hput hag
  have hFr := hFr.put hag (by omega) (by omega)
  clear hput hag
  refine J.aload_n (pc := 10) G dX4_add_10 rfl ?_
  refine J.getf (pc := 11) (ci := 4) G inX4 rfl 10 q705 dX4_add_11 (hM.at 0 rfl) (by decide) rfl ?_
  refine J.aload_n (pc := 14) G dX4_add_14 rfl ?_
  refine J.getf (pc := 15) (ci := 4) G inX4 rfl 8 q703 dX4_add_15 (hM.at 0 rfl) (by decide) rfl ?_
  refine J.iload_n (pc := 18) G dX4_add_18 rfl ?_
  refine J.iast (pc := 19) G dX4_add_19 (hM.at 6 rfl) (Z 8) rfl (by omega) (by decide) (fun M hput hag => ?_)
  have hM := modP hM hput hag
  have hFr := hFr.put hag (by omega) (by omega)
  clear hput hag
  refine J.aload_n (pc := 20) G dX4_add_20 rfl ?_
  refine J.getf (pc := 21) (ci := 4) G inX4 rfl 11 q706 dX4_add_21 (hM.at 0 rfl) (by decide) rfl ?_
  refine J.aload_n (pc := 24) G dX4_add_24 rfl ?_
  refine J.getf (pc := 25) (ci := 4) G inX4 rfl 8 q703 dX4_add_25 (hM.at 0 rfl) (by decide) rfl ?_
  refine J.iload_n (pc := 28) G dX4_add_28 rfl ?_
  refine J.iastN (pc := 29) G dX4_add_29 (hM.at 7 rfl) (by omega) (by decide) (fun M hput hag => ?_)
  have hM := modA7 hM hput hag
  have hFr := hFr.put hag (by omega) (by omega)
  clear hput hag
  refine J.aload_n (pc := 30) G dX4_add_30 rfl ?_
  refine J.dup (pc := 31) G dX4_add_31 rfl ?_
  refine J.getf (pc := 32) (ci := 4) G inX4 rfl 8 q703 dX4_add_32 (hM.at 0 rfl) (by decide) rfl ?_
  refine J.topv (b := iI (Z 8 : Int)) rfl ?_
  refine J.iconstN (pc := 35) G dX4_add_35 1 rfl ?_
  refine J.iaddN (pc := 36) G dX4_add_36 ?_
  refine J.putf (pc := 37) (ci := 4) G inX4 rfl tyX4 tyX4_ok nmX4 8 q703 dX4_add_37 (hM.at 0 rfl) (by decide) (Nat.le_of_ble_eq_true rfl) (Or.inl rfl) (tyX4_ok 8 (by decide)) (by first | rfl | decide +kernel) (by first | rfl | decide +kernel) (fun M hput hag => ?_)
  have hM := modS8 hM hput hag
  have hFr := hFr.put hag (by omega) (by omega)
  clear hput hag
  refine J.aload_n (pc := 40) G dX4_add_40 rfl ?_
  refine J.getf (pc := 41) (ci := 4) G inX4 rfl 8 q703 dX4_add_41 (hM.at 0 rfl) (by decide) rfl ?_
  refine J.topv (b := iI ((Z 8 + 1 : Nat) : Int)) rfl ?_
  refine J.iconstN (pc := 44) G dX4_add_44 1 rfl ?_
  refine J.isubN (pc := 45) G dX4_add_45 (by omega) ?_
  exact J.iret (pc := 46) G hO dX4_add_46 (by decide) (by decide) ⟨rfl, rfl, hM, hM1 ▸ hFr⟩
def lbI (w : List Nat) (s k : Nat) : Nat := it (fun i s => s ||| 2 ^ gd w i) s k
/-- the labels of a log -/
def lbL (tr : List (List Nat)) (k : Nat) : Nat := it (fun t s => lbI (tr.getD t []) s (tr.getD t []).length) 0 k
set_option maxRecDepth 100000 in
set_option maxHeartbeats 4000000 in
theorem m_labelsIn (n : Nat) (M : AH) {b : Nat} {tr : List (List Nat)} (hg : LgR M b tr) (hl8 : LabL tr) (h1 : tr.length < 1000) (h2 : ∀ t, t < tr.length → (tr.getD t []).length < 1000) : Fn yX4_labelsIn cX4_labelsIn 10 (some .int) 0 [.ref b] n M 0 0 (fun r n' M' => r = some (.int (iI ((lbL tr tr.length : Nat) : Int))) ∧ n' = n ∧ M' = M) := by
  refine Fn.of (by decide) [some _, none, none, none, none, none, none, none, none, none] rfl rfl (Nat.le_of_ble_eq_true rfl) ?_
  intro g G hin hO
  obtain ⟨f, hb, hr⟩ := hg
  refine J.iconstN (pc := 0) G dX4_labelsIn_0 0 rfl ?_
  refine J.istore_n (L' := [_, _, _, _, _, _, _, _, _, _]) (pc := 1) G dX4_labelsIn_1 rfl (Nat.le_of_ble_eq_true rfl) rfl ?_
  refine J.aload_n (pc := 2) G dX4_labelsIn_2 rfl ?_
  refine J.astore_n (L' := [_, _, _, _, _, _, _, _, _, _]) (pc := 3) G dX4_labelsIn_3 rfl (Nat.le_of_ble_eq_true rfl) rfl ?_
  refine J.aload_n (pc := 4) G dX4_labelsIn_4 rfl ?_
  refine J.alenR (pc := 5) G dX4_labelsIn_5 hb (by decide) ?_
  refine J.istore_n (L' := [_, _, _, _, _, _, _, _, _, _]) (pc := 6) G dX4_labelsIn_6 rfl (Nat.le_of_ble_eq_true rfl) rfl ?_
  refine J.iconstN (pc := 7) G dX4_labelsIn_7 0 rfl ?_
  refine J.istore (L' := [_, _, _, _, _, _, _, _, _, _]) (pc := 8) G dX4_labelsIn_8 rfl (Nat.le_of_ble_eq_true rfl) rfl ?_
  have K1 : ∀ t : Nat, t ≤ tr.length → ∀ l5 l6 l7 l8 l9, J g 0 0 n M [some (.ref b), some (.int (iI (lbL tr t : Int))), some (.ref b), some (.int (iI (tr.length : Int))), some (.int (iI (t : Int))), l5, l6, l7, l8, l9] 10 [] := by
    refine loopJ (fun t => tr.length - t) _ _ ?_
    intro t ht ih l5 l6 l7 l8 l9
    have hstep : lbL tr (t + 1) = lbI (tr.getD t []) (lbL tr t) (tr.getD t []).length := rfl
    refine J.iload (pc := 10) G dX4_labelsIn_10 rfl ?_
    refine J.iload_n (pc := 12) G dX4_labelsIn_12 rfl ?_
    refine J.icmp_geN (pc := 13) (tgt := 67) G dX4_labelsIn_13 (by decide) (by omega) (by omega) (fun h => ?_) (fun h => ?_)
    · refine J.iload_n (pc := 67) G dX4_labelsIn_67 rfl ?_
      exact J.iret (pc := 68) G hO dX4_labelsIn_68 (by decide) (by decide) ⟨by rw [show t = tr.length by omega], rfl, rfl⟩
    · obtain ⟨r, e, hf, hM, he⟩ := hr t h
      have hlt := h2 t h
      have hl9 := hl8 t h
      generalize tr.getD t [] = w at hstep hM he hlt hl9
      generalize lbL tr t = s at hstep ⊢
      refine J.aload_n (pc := 16) G dX4_labelsIn_16 rfl ?_
      refine J.iload (pc := 17) G dX4_labelsIn_17 rfl ?_
      refine J.aald (pc := 19) G dX4_labelsIn_19 hb (Or.inl rfl) t rfl h (by omega) hf ?_
      refine J.astore (L' := [_, _, _, _, _, _, _, _, _, _]) (pc := 20) G dX4_labelsIn_20 rfl (Nat.le_of_ble_eq_true rfl) rfl ?_
      refine J.aload (pc := 22) G dX4_labelsIn_22 rfl ?_
      refine J.astore (L' := [_, _, _, _, _, _, _, _, _, _]) (pc := 24) G dX4_labelsIn_24 rfl (Nat.le_of_ble_eq_true rfl) rfl ?_
      refine J.aload (pc := 26) G dX4_labelsIn_26 rfl ?_
      refine J.alenI (pc := 28) G dX4_labelsIn_28 hM ?_
      refine J.istore (L' := [_, _, _, _, _, _, _, _, _, _]) (pc := 29) G dX4_labelsIn_29 rfl (Nat.le_of_ble_eq_true rfl) rfl ?_
      refine J.iconstN (pc := 31) G dX4_labelsIn_31 0 rfl ?_
      refine J.istore (L' := [_, _, _, _, _, _, _, _, _, _]) (pc := 32) G dX4_labelsIn_32 rfl (Nat.le_of_ble_eq_true rfl) rfl ?_
      have K2 : ∀ j : Nat, j ≤ w.length → ∀ l9, J g 0 0 n M [some (.ref b), some (.int (iI (lbI w s j : Int))), some (.ref b), some (.int (iI (tr.length : Int))), some (.int (iI (t : Int))), some (.ref r), some (.ref r), some (.int (iI (w.length : Int))), some (.int (iI (j : Int))), l9] 34 [] := by
        refine loopJ (fun j => w.length - j) _ _ ?_
        intro j hj ih2 l9
        have hs2 : lbI w s (j + 1) = lbI w s j ||| 2 ^ gd w j := rfl
        refine J.iload (pc := 34) G dX4_labelsIn_34 rfl ?_
        refine J.iload (pc := 36) G dX4_labelsIn_36 rfl ?_
        refine J.icmp_geN (pc := 38) (tgt := 61) G dX4_labelsIn_38 (by decide) (by omega) (by omega) (fun h3 => ?_) (fun h3 => ?_)
        · rw [show j = w.length by omega, ← hstep]
          refine J.iincN (L' := [_, _, _, _, _, _, _, _, _, _]) (pc := 61) G dX4_labelsIn_61 1 rfl rfl rfl rfl ?_
          refine J.goto (pc := 64) (tgt := 10) G dX4_labelsIn_64 (by decide) ?_
          exact ih (t + 1) (by omega) (by omega) _ _ _ _ _
        · have hej := he j h3
          have hgj := hl9 j h3
          refine J.aload (pc := 41) G dX4_labelsIn_41 rfl ?_
          refine J.iload (pc := 43) G dX4_labelsIn_43 rfl ?_
          refine J.ialdN (pc := 45) G dX4_labelsIn_45 hM h3 (by omega) ?_
          rw [hej]
          refine J.istore (L' := [_, _, _, _, _, _, _, _, _, _]) (pc := 46) G dX4_labelsIn_46 rfl (Nat.le_of_ble_eq_true rfl) rfl ?_
          refine J.iload_n (pc := 48) G dX4_labelsIn_48 rfl ?_
          refine J.iconstN (pc := 49) G dX4_labelsIn_49 1 rfl ?_
          refine J.iload (pc := 50) G dX4_labelsIn_50 rfl ?_
          refine J.ishl1 (pc := 52) G dX4_labelsIn_52 (by omega) ?_
          refine J.iorN (pc := 53) G dX4_labelsIn_53 ?_
          refine J.istore_n (L' := [_, _, _, _, _, _, _, _, _, _]) (pc := 54) G dX4_labelsIn_54 rfl (Nat.le_of_ble_eq_true rfl) rfl ?_
          refine J.iincN (L' := [_, _, _, _, _, _, _, _, _, _]) (pc := 55) G dX4_labelsIn_55 1 rfl rfl rfl rfl ?_
          refine J.goto (pc := 58) (tgt := 34) G dX4_labelsIn_58 (by decide) ?_
          rw [← hs2]
          exact ih2 (j + 1) (by omega) (by omega) _
      exact K2 0 (Nat.zero_le _) _
  exact K1 0 (Nat.zero_le _) _ _ _ _ _
end MOD14
