section INIT1
theorem Cl.snoc {M M' : AH} {b : Nat} {cs : List Ce} {x : Ce} (h : Cl M b cs) (hx : M' (b + cs.length) = some x) (hag : ∀ q, q ≠ b + cs.length → M' q = M q) : Cl M' b (cs ++ [x]) := by
  intro i y hi
  by_cases q : i < cs.length
  · rw [List.getElem?_append_left q] at hi
    rw [hag _ (by omega)]
    exact h i y hi
  · rw [List.getElem?_append_right (by omega)] at hi
    have h0 : i - cs.length = 0 := by
      rcases Nat.eq_zero_or_pos (i - cs.length) with e | e
      · exact e
      · rw [List.getElem?_eq_none (by simp; omega)] at hi; cases hi
    rw [h0] at hi
    have : x = y := Option.some.inj hi
    subst this
    rw [show i = cs.length by omega]
    exact hx
theorem Cl.off {M M' : AH} {b a : Nat} {cs : List Ce} (h : Cl M b cs) (hag : ∀ q, q ≠ a → M' q = M q) (hd : a < b) : Cl M' b cs := h.keep (fun q h1 _ => hag q (by omega))
theorem Cl.nil {M : AH} {b : Nat} : Cl M b [] := fun i x h => by simp at h
theorem Cl.cons {M : AH} {a : Nat} {cs : List Ce} {x : Ce} (h0 : M a = some x) (h : Cl M (a + 1) cs) : Cl M a (x :: cs) := by
  intro i y hi
  cases i with
  | zero => have : x = y := Option.some.inj hi; subst this; exact h0
  | succ i => rw [show a + (i + 1) = a + 1 + i by omega]; exact h i y hi
theorem J.objInit {g : GT} {ow : String} {cc : ByteArray} {nL d mc ms k z n pc : Nat} {M : AH} {L : List (Option Value)} {st : List Value} (G : Cx g ow cc nL d mc ms) {idx b : Nat} (hwl : Cond.methodLink ow idx Lib.objectInit ∈ wG) (hd : decode cc pc = .ok (.invokespecial idx, 3)) (hdp : 1 ≤ d) (hst : (st.map fun v => v.category).sum ≤ 8) (hnL : L.length = nL) (kk : J g k z n M L (pc + 3) st) : J g k z n M L pc (.ref b :: st) := by
  intro H locs ls hR hS hl
  refine W.objInit G.exec G.bytes G.own (G.words _ hwl) (G.words _ q21) (G.words _ q22) rfl ((hl.1.trans hnL).trans G.maxl.symm) rfl hd (Nat.le_trans hdp G.frames) (Nat.le_trans ?_ G.locals) (kk H locs ls hR hS hl)
  show 2 * 0 + (st.map fun v => v.category).sum + 12 ≤ 40 * d
  omega
set_option maxRecDepth 100000 in
set_option maxHeartbeats 4000000 in
theorem c_initLog (M0 : AH) {a : Nat} (hfs : M0 a = some (cO 0 [.null, .null, .int 0, .int 0, .int 0, .int 0, .int 0, .int 0, .null, .null, .null, .null, .int 0])) : Fn yX0_init cX0_init 1 none 1 [.ref a] (a + 1) M0 6 272 (fun r n' M' => r = none ∧ n' = a + 7 ∧ Cl M' a (logC a (fun _ _ => 0) (fun _ => 0)) ∧ Fr a (a + 7) M0 M') := by
  refine Fn.of (by decide) [some _] rfl rfl (Nat.le_of_ble_eq_true rfl) ?_
  intro g G hin hO
  have hM := hfs
  have hC : Cl M0 (a + 1) [] := Cl.nil
  have hFr : Fr a (a + 7) M0 M0 := Fr.rf
  refine J.aload_n (pc := 0) G dX0_init_0 rfl ?_
  refine J.objInit (pc := 1) G q86 dX0_init_1 (by omega) (Nat.le_of_ble_eq_true rfl) rfl ?_
  refine J.aload_n (pc := 4) G dX0_init_4 rfl ?_
  refine J.bipushN (pc := 5) G dX0_init_5 120 (by decide +kernel) ?_
  refine J.newI (pc := 7) G q62 dX0_init_7 (by decide) (by decide) (by decide) (fun M hput hag => ?_)
  have hC := hC.snoc hput hag
  have hM := (hag _ (by omega)).trans hM
  have hFr := hFr.put hag (by omega) (by omega)
  clear hput hag
  refine J.putf (pc := 9) (ci := 0) G inX0 rfl tyX0 tyX0_ok nmX0 0 q87 dX0_init_9 hM (by decide) (Nat.le_of_ble_eq_true rfl) (Or.inr ⟨hin, rfl⟩) (tyX0_ok 0 (by decide)) (by first | rfl | decide +kernel) (by first | rfl | decide +kernel) (fun M hput hag => ?_)
  have hM := hput
  have hC := hC.off hag (by omega)
  have hFr := hFr.put hag (by omega) (by omega)
  clear hput hag
  refine J.aload_n (pc := 12) G dX0_init_12 rfl ?_
  refine J.bipushN (pc := 13) G dX0_init_13 120 (by decide +kernel) ?_
  refine J.newI (pc := 15) G q62 dX0_init_15 (by decide) (by decide) (by decide) (fun M hput hag => ?_)
  have hC := hC.snoc hput hag
  have hM := (hag _ (by omega)).trans hM
  have hFr := hFr.put hag (by omega) (by omega)
  clear hput hag
  refine J.putf (pc := 17) (ci := 0) G inX0 rfl tyX0 tyX0_ok nmX0 1 q88 dX0_init_17 hM (by decide) (Nat.le_of_ble_eq_true rfl) (Or.inr ⟨hin, rfl⟩) (tyX0_ok 1 (by decide)) (by first | rfl | decide +kernel) (by first | rfl | decide +kernel) (fun M hput hag => ?_)
  have hM := hput
  have hC := hC.off hag (by omega)
  have hFr := hFr.put hag (by omega) (by omega)
  clear hput hag
  refine J.aload_n (pc := 20) G dX0_init_20 rfl ?_
  refine J.iconstN (pc := 21) G dX0_init_21 0 rfl ?_
  refine J.putf (pc := 22) (ci := 0) G inX0 rfl tyX0 tyX0_ok nmX0 2 q89 dX0_init_22 hM (by decide) (Nat.le_of_ble_eq_true rfl) (Or.inl rfl) (tyX0_ok 2 (by decide)) (by first | rfl | decide +kernel) (by first | rfl | decide +kernel) (fun M hput hag => ?_)
  have hM := hput
  have hC := hC.off hag (by omega)
  have hFr := hFr.put hag (by omega) (by omega)
  clear hput hag
  refine J.aload_n (pc := 25) G dX0_init_25 rfl ?_
  refine J.iconstN (pc := 26) G dX0_init_26 0 rfl ?_
  refine J.putf (pc := 27) (ci := 0) G inX0 rfl tyX0 tyX0_ok nmX0 3 q90 dX0_init_27 hM (by decide) (Nat.le_of_ble_eq_true rfl) (Or.inl rfl) (tyX0_ok 3 (by decide)) (by first | rfl | decide +kernel) (by first | rfl | decide +kernel) (fun M hput hag => ?_)
  have hM := hput
  have hC := hC.off hag (by omega)
  have hFr := hFr.put hag (by omega) (by omega)
  clear hput hag
  refine J.aload_n (pc := 30) G dX0_init_30 rfl ?_
  refine J.iconstN (pc := 31) G dX0_init_31 0 rfl ?_
  refine J.putf (pc := 32) (ci := 0) G inX0 rfl tyX0 tyX0_ok nmX0 4 q91 dX0_init_32 hM (by decide) (Nat.le_of_ble_eq_true rfl) (Or.inl rfl) (tyX0_ok 4 (by decide)) (by first | rfl | decide +kernel) (by first | rfl | decide +kernel) (fun M hput hag => ?_)
  have hM := hput
  have hC := hC.off hag (by omega)
  have hFr := hFr.put hag (by omega) (by omega)
  clear hput hag
  refine J.aload_n (pc := 35) G dX0_init_35 rfl ?_
  refine J.iconstN (pc := 36) G dX0_init_36 0 rfl ?_
  refine J.putf (pc := 37) (ci := 0) G inX0 rfl tyX0 tyX0_ok nmX0 5 q93 dX0_init_37 hM (by decide) (Nat.le_of_ble_eq_true rfl) (Or.inl rfl) (tyX0_ok 5 (by decide)) (by first | rfl | decide +kernel) (by first | rfl | decide +kernel) (fun M hput hag => ?_)
  have hM := hput
  have hC := hC.off hag (by omega)
  have hFr := hFr.put hag (by omega) (by omega)
  clear hput hag
  refine J.aload_n (pc := 40) G dX0_init_40 rfl ?_
  refine J.iconstN (pc := 41) G dX0_init_41 0 rfl ?_
  refine J.putf (pc := 42) (ci := 0) G inX0 rfl tyX0 tyX0_ok nmX0 6 q95 dX0_init_42 hM (by decide) (Nat.le_of_ble_eq_true rfl) (Or.inl rfl) (tyX0_ok 6 (by decide)) (by first | rfl | decide +kernel) (by first | rfl | decide +kernel) (fun M hput hag => ?_)
  have hM := hput
  have hC := hC.off hag (by omega)
  have hFr := hFr.put hag (by omega) (by omega)
  clear hput hag
  refine J.aload_n (pc := 45) G dX0_init_45 rfl ?_
  refine J.iconstN (pc := 46) G dX0_init_46 0 rfl ?_
  refine J.putf (pc := 47) (ci := 0) G inX0 rfl tyX0 tyX0_ok nmX0 7 q97 dX0_init_47 hM (by decide) (Nat.le_of_ble_eq_true rfl) (Or.inl rfl) (tyX0_ok 7 (by decide)) (by first | rfl | decide +kernel) (by first | rfl | decide +kernel) (fun M hput hag => ?_)
  have hM := hput
  have hC := hC.off hag (by omega)
  have hFr := hFr.put hag (by omega) (by omega)
  clear hput hag
  refine J.aload_n (pc := 50) G dX0_init_50 rfl ?_
  refine J.bipushN (pc := 51) G dX0_init_51 8 (by decide +kernel) ?_
  refine J.newI (pc := 53) G q62 dX0_init_53 (by decide) (by decide) (by decide) (fun M hput hag => ?_)
  have hC := hC.snoc hput hag
  have hM := (hag _ (by omega)).trans hM
  have hFr := hFr.put hag (by omega) (by omega)
  clear hput hag
  refine J.putf (pc := 55) (ci := 0) G inX0 rfl tyX0 tyX0_ok nmX0 8 q99 dX0_init_55 hM (by decide) (Nat.le_of_ble_eq_true rfl) (Or.inr ⟨hin, rfl⟩) (tyX0_ok 8 (by decide)) (by first | rfl | decide +kernel) (by first | rfl | decide +kernel) (fun M hput hag => ?_)
  have hM := hput
  have hC := hC.off hag (by omega)
  have hFr := hFr.put hag (by omega) (by omega)
  clear hput hag
  refine J.aload_n (pc := 58) G dX0_init_58 rfl ?_
  refine J.bipushN (pc := 59) G dX0_init_59 8 (by decide +kernel) ?_
  refine J.newI (pc := 61) G q62 dX0_init_61 (by decide) (by decide) (by decide) (fun M hput hag => ?_)
  have hC := hC.snoc hput hag
  have hM := (hag _ (by omega)).trans hM
  have hFr := hFr.put hag (by omega) (by omega)
  clear hput hag
  refine J.putf (pc := 63) (ci := 0) G inX0 rfl tyX0 tyX0_ok nmX0 9 q101 dX0_init_63 hM (by decide) (Nat.le_of_ble_eq_true rfl) (Or.inr ⟨hin, rfl⟩) (tyX0_ok 9 (by decide)) (by first | rfl | decide +kernel) (by first | rfl | decide +kernel) (fun M hput hag => ?_)
  have hM := hput
  have hC := hC.off hag (by omega)
  have hFr := hFr.put hag (by omega) (by omega)
  clear hput hag
  refine J.aload_n (pc := 66) G dX0_init_66 rfl ?_
  refine J.bipushN (pc := 67) G dX0_init_67 8 (by decide +kernel) ?_
  refine J.newI (pc := 69) G q62 dX0_init_69 (by decide) (by decide) (by decide) (fun M hput hag => ?_)
  have hC := hC.snoc hput hag
  have hM := (hag _ (by omega)).trans hM
  have hFr := hFr.put hag (by omega) (by omega)
  clear hput hag
  refine J.putf (pc := 71) (ci := 0) G inX0 rfl tyX0 tyX0_ok nmX0 10 q103 dX0_init_71 hM (by decide) (Nat.le_of_ble_eq_true rfl) (Or.inr ⟨hin, rfl⟩) (tyX0_ok 10 (by decide)) (by first | rfl | decide +kernel) (by first | rfl | decide +kernel) (fun M hput hag => ?_)
  have hM := hput
  have hC := hC.off hag (by omega)
  have hFr := hFr.put hag (by omega) (by omega)
  clear hput hag
  refine J.aload_n (pc := 74) G dX0_init_74 rfl ?_
  refine J.bipushN (pc := 75) G dX0_init_75 8 (by decide +kernel) ?_
  refine J.newI (pc := 77) G q62 dX0_init_77 (by decide) (by decide) (by decide) (fun M hput hag => ?_)
  have hC := hC.snoc hput hag
  have hM := (hag _ (by omega)).trans hM
  have hFr := hFr.put hag (by omega) (by omega)
  clear hput hag
  refine J.putf (pc := 79) (ci := 0) G inX0 rfl tyX0 tyX0_ok nmX0 11 q104 dX0_init_79 hM (by decide) (Nat.le_of_ble_eq_true rfl) (Or.inr ⟨hin, rfl⟩) (tyX0_ok 11 (by decide)) (by first | rfl | decide +kernel) (by first | rfl | decide +kernel) (fun M hput hag => ?_)
  have hM := hput
  have hC := hC.off hag (by omega)
  have hFr := hFr.put hag (by omega) (by omega)
  clear hput hag
  refine J.aload_n (pc := 82) G dX0_init_82 rfl ?_
  refine J.iconstN (pc := 83) G dX0_init_83 0 rfl ?_
  refine J.putf (pc := 84) (ci := 0) G inX0 rfl tyX0 tyX0_ok nmX0 12 q106 dX0_init_84 hM (by decide) (Nat.le_of_ble_eq_true rfl) (Or.inl rfl) (tyX0_ok 12 (by decide)) (by first | rfl | decide +kernel) (by first | rfl | decide +kernel) (fun M hput hag => ?_)
  have hM := hput
  have hC := hC.off hag (by omega)
  have hFr := hFr.put hag (by omega) (by omega)
  clear hput hag
  exact J.vret (pc := 87) G hO dX0_init_87 (by decide) (by decide) ⟨rfl, rfl, Cl.cons hM hC, hFr⟩
end INIT1
