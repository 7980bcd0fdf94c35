section INIT2
set_option maxRecDepth 100000 in
set_option maxHeartbeats 4000000 in
theorem c_initTree (M0 : AH) {a : Nat} (hfs : M0 a = some (cO 2 [.null, .null, .null, .null, .null, .null, .int 0])) : Fn yX2_init cX2_init 1 none 1 [.ref a] (a + 1) M0 6 832 (fun r n' M' => r = none ∧ n' = a + 7 ∧ Cl M' a (treeC a (fun _ _ => 0) (fun _ => 0) (fun _ => 0)) ∧ Fr a (a + 7) M0 M') := by
  refine Fn.of (by decide) [some _] rfl rfl (Nat.le_of_ble_eq_true rfl) ?_
  intro g G hin hO
  have hM := hfs
  have hC : Cl M0 (a + 1) [] := Cl.nil
  have hFr : Fr a (a + 7) M0 M0 := Fr.rf
  refine J.aload_n (pc := 0) G dX2_init_0 rfl ?_
  refine J.objInit (pc := 1) G q30 dX2_init_1 (by omega) (Nat.le_of_ble_eq_true rfl) rfl ?_
  refine J.aload_n (pc := 4) G dX2_init_4 rfl ?_
  refine J.bipushN (pc := 5) G dX2_init_5 64 (by decide +kernel) ?_
  refine J.newI (pc := 7) G q62 dX2_init_7 (by decide) (by decide) (by decide) (fun M hput hag => ?_)
  have hC := hC.snoc hput hag
  have hM := (hag _ (by omega)).trans hM
  have hFr := hFr.put hag (by omega) (by omega)
  clear hput hag
  refine J.putf (pc := 9) (ci := 2) G inX2 rfl tyX2 tyX2_ok nmX2 0 q31 dX2_init_9 hM (by decide) (Nat.le_of_ble_eq_true rfl) (Or.inr ⟨hin, rfl⟩) (tyX2_ok 0 (by decide)) (by first | rfl | decide +kernel) (by first | rfl | decide +kernel) (fun M hput hag => ?_)
  have hM := hput
  have hC := hC.off hag (by omega)
  have hFr := hFr.put hag (by omega) (by omega)
  clear hput hag
  refine J.aload_n (pc := 12) G dX2_init_12 rfl ?_
  refine J.bipushN (pc := 13) G dX2_init_13 64 (by decide +kernel) ?_
  refine J.newI (pc := 15) G q62 dX2_init_15 (by decide) (by decide) (by decide) (fun M hput hag => ?_)
  have hC := hC.snoc hput hag
  have hM := (hag _ (by omega)).trans hM
  have hFr := hFr.put hag (by omega) (by omega)
  clear hput hag
  refine J.putf (pc := 17) (ci := 2) G inX2 rfl tyX2 tyX2_ok nmX2 1 q34 dX2_init_17 hM (by decide) (Nat.le_of_ble_eq_true rfl) (Or.inr ⟨hin, rfl⟩) (tyX2_ok 1 (by decide)) (by first | rfl | decide +kernel) (by first | rfl | decide +kernel) (fun M hput hag => ?_)
  have hM := hput
  have hC := hC.off hag (by omega)
  have hFr := hFr.put hag (by omega) (by omega)
  clear hput hag
  refine J.aload_n (pc := 20) G dX2_init_20 rfl ?_
  refine J.bipushN (pc := 21) G dX2_init_21 64 (by decide +kernel) ?_
  refine J.newI (pc := 23) G q62 dX2_init_23 (by decide) (by decide) (by decide) (fun M hput hag => ?_)
  have hC := hC.snoc hput hag
  have hM := (hag _ (by omega)).trans hM
  have hFr := hFr.put hag (by omega) (by omega)
  clear hput hag
  refine J.putf (pc := 25) (ci := 2) G inX2 rfl tyX2 tyX2_ok nmX2 2 q37 dX2_init_25 hM (by decide) (Nat.le_of_ble_eq_true rfl) (Or.inr ⟨hin, rfl⟩) (tyX2_ok 2 (by decide)) (by first | rfl | decide +kernel) (by first | rfl | decide +kernel) (fun M hput hag => ?_)
  have hM := hput
  have hC := hC.off hag (by omega)
  have hFr := hFr.put hag (by omega) (by omega)
  clear hput hag
  refine J.aload_n (pc := 28) G dX2_init_28 rfl ?_
  refine J.bipushN (pc := 29) G dX2_init_29 64 (by decide +kernel) ?_
  refine J.newI (pc := 31) G q62 dX2_init_31 (by decide) (by decide) (by decide) (fun M hput hag => ?_)
  have hC := hC.snoc hput hag
  have hM := (hag _ (by omega)).trans hM
  have hFr := hFr.put hag (by omega) (by omega)
  clear hput hag
  refine J.putf (pc := 33) (ci := 2) G inX2 rfl tyX2 tyX2_ok nmX2 3 q39 dX2_init_33 hM (by decide) (Nat.le_of_ble_eq_true rfl) (Or.inr ⟨hin, rfl⟩) (tyX2_ok 3 (by decide)) (by first | rfl | decide +kernel) (by first | rfl | decide +kernel) (fun M hput hag => ?_)
  have hM := hput
  have hC := hC.off hag (by omega)
  have hFr := hFr.put hag (by omega) (by omega)
  clear hput hag
  refine J.aload_n (pc := 36) G dX2_init_36 rfl ?_
  refine J.sipushN (pc := 37) G dX2_init_37 512 (by decide +kernel) ?_
  refine J.newI (pc := 40) G q62 dX2_init_40 (by decide) (by decide) (by decide) (fun M hput hag => ?_)
  have hC := hC.snoc hput hag
  have hM := (hag _ (by omega)).trans hM
  have hFr := hFr.put hag (by omega) (by omega)
  clear hput hag
  refine J.putf (pc := 42) (ci := 2) G inX2 rfl tyX2 tyX2_ok nmX2 4 q42 dX2_init_42 hM (by decide) (Nat.le_of_ble_eq_true rfl) (Or.inr ⟨hin, rfl⟩) (tyX2_ok 4 (by decide)) (by first | rfl | decide +kernel) (by first | rfl | decide +kernel) (fun M hput hag => ?_)
  have hM := hput
  have hC := hC.off hag (by omega)
  have hFr := hFr.put hag (by omega) (by omega)
  clear hput hag
  refine J.aload_n (pc := 45) G dX2_init_45 rfl ?_
  refine J.bipushN (pc := 46) G dX2_init_46 64 (by decide +kernel) ?_
  refine J.newI (pc := 48) G q62 dX2_init_48 (by decide) (by decide) (by decide) (fun M hput hag => ?_)
  have hC := hC.snoc hput hag
  have hM := (hag _ (by omega)).trans hM
  have hFr := hFr.put hag (by omega) (by omega)
  clear hput hag
  refine J.putf (pc := 50) (ci := 2) G inX2 rfl tyX2 tyX2_ok nmX2 5 q43 dX2_init_50 hM (by decide) (Nat.le_of_ble_eq_true rfl) (Or.inr ⟨hin, rfl⟩) (tyX2_ok 5 (by decide)) (by first | rfl | decide +kernel) (by first | rfl | decide +kernel) (fun M hput hag => ?_)
  have hM := hput
  have hC := hC.off hag (by omega)
  have hFr := hFr.put hag (by omega) (by omega)
  clear hput hag
  refine J.aload_n (pc := 53) G dX2_init_53 rfl ?_
  refine J.iconstN (pc := 54) G dX2_init_54 0 rfl ?_
  refine J.putf (pc := 55) (ci := 2) G inX2 rfl tyX2 tyX2_ok nmX2 6 q44 dX2_init_55 hM (by decide) (Nat.le_of_ble_eq_true rfl) (Or.inl rfl) (tyX2_ok 6 (by decide)) (by first | rfl | decide +kernel) (by first | rfl | decide +kernel) (fun M hput hag => ?_)
  have hM := hput
  have hC := hC.off hag (by omega)
  have hFr := hFr.put hag (by omega) (by omega)
  clear hput hag
  exact J.vret (pc := 58) G hO dX2_init_58 (by decide) (by decide) ⟨rfl, rfl, Cl.cons hM hC, hFr⟩
set_option maxRecDepth 100000 in
set_option maxHeartbeats 4000000 in
theorem c_initMatcher (M0 : AH) {a : Nat} (hfs : M0 a = some (cO 1 [.null, .null, .int 0, .null])) : Fn yX1_init cX1_init 1 none 2 [.ref a] (a + 1) M0 9 (844 + 839) (fun r n' M' => r = none ∧ n' = a + 10 ∧ Cq M' a (a + 1) (fun _ _ => 0) (fun _ => 0) ∧ Cl M' (a + 1) (treeC (a + 1) (fun _ _ => 0) (fun _ => 0) (fun _ => 0)) ∧ Fr a (a + 10) M0 M') := by
  refine Fn.of (by decide) [some _] rfl rfl (Nat.le_of_ble_eq_true rfl) ?_
  intro g G hin hO
  have hM := hfs
  have hFr : Fr a (a + 10) M0 M0 := Fr.rf
  have hC : Cl M0 (a + 1) [] := Cl.nil
  refine J.aload_n (pc := 0) G dX1_init_0 rfl ?_
  refine J.objInit (pc := 1) G q68 dX1_init_1 (by omega) (Nat.le_of_ble_eq_true rfl) rfl ?_
  refine J.aload_n (pc := 4) G dX1_init_4 rfl ?_
  refine J.new (pc := 5) (ci := 2) (fs := [.null, .null, .null, .null, .null, .null, .int 0]) G inX2 rfl tyX2 tyX2_ok q991 q26 q2 dX1_init_5 (by decide) (by decide) (by decide) (fun M hput hag => ?_)
  clear hC
  have hT := hput
  have hM := (hag _ (by omega)).trans hM
  have hFr := hFr.put hag (by omega) (by omega)
  clear hput hag
  refine J.dup (pc := 8) G dX1_init_8 rfl ?_
  refine J.callIN (pc := 9) (na := 0) G (c_initTree M hT) (mem_nw 2) q28 q29 q2 rfl (by decide +kernel) dX1_init_9 rfl (Nat.le_of_ble_eq_true rfl) rfl ⟨by omega, by decide, by omega, by omega⟩ ?_
  rintro r9 n9 M7 ⟨hr9, hn9, hT, hFr7⟩
  subst hr9
  rw [hn9]
  clear hn9 n9
  dsimp only [Option.toList, List.cons_append, List.nil_append]
  have hM := (hFr7 a (by omega)).trans hM
  have hFr := hFr.trans (hFr7.wide (by omega) (by omega))
  clear hFr7
  refine J.putf (pc := 12) (ci := 1) G inX1 rfl tyX1 tyX1_ok nmX1 0 q69 dX1_init_12 hM (by decide) (Nat.le_of_ble_eq_true rfl) (Or.inr ⟨hin, rfl⟩) (tyX1_ok 0 (by decide)) (by first | rfl | decide +kernel) (by first | rfl | decide +kernel) (fun M hput hag => ?_)
  have hM := hput
  have hT0 := hT.keep (fun q h1 _ => hag q (by omega))
  have hFr0 := hFr.put hag (by omega) (by omega)
  clear hput hag hFr hT
  have hFr : Fq a M M := Fq.rf
  have hC : Cl M (a + 8) [] := Cl.nil
  refine J.aload_n (pc := 15) G dX1_init_15 rfl ?_
  refine J.bipushN (pc := 16) G dX1_init_16 12 (by decide +kernel) ?_
  refine J.newI (pc := 18) G q62 dX1_init_18 (by decide) (by decide) (by decide) (fun M hput hag => ?_)
  have hC := hC.snoc hput hag
  have hM := (hag _ (by omega)).trans hM
  have hFr := hFr.put hag (by omega) (by omega)
  clear hput hag
  refine J.putf (pc := 20) (ci := 1) G inX1 rfl tyX1 tyX1_ok nmX1 1 q70 dX1_init_20 hM (by decide) (Nat.le_of_ble_eq_true rfl) (Or.inr ⟨hin, rfl⟩) (tyX1_ok 1 (by decide)) (by first | rfl | decide +kernel) (by first | rfl | decide +kernel) (fun M hput hag => ?_)
  have hM := hput
  have hC := hC.off hag (by omega)
  have hFr := hFr.put hag (by omega) (by omega)
  clear hput hag
  refine J.aload_n (pc := 23) G dX1_init_23 rfl ?_
  refine J.iconstN (pc := 24) G dX1_init_24 0 rfl ?_
  refine J.putf (pc := 25) (ci := 1) G inX1 rfl tyX1 tyX1_ok nmX1 2 q71 dX1_init_25 hM (by decide) (Nat.le_of_ble_eq_true rfl) (Or.inl rfl) (tyX1_ok 2 (by decide)) (by first | rfl | decide +kernel) (by first | rfl | decide +kernel) (fun M hput hag => ?_)
  have hM := hput
  have hC := hC.off hag (by omega)
  have hFr := hFr.put hag (by omega) (by omega)
  clear hput hag
  refine J.aload_n (pc := 28) G dX1_init_28 rfl ?_
  refine J.sipushN (pc := 29) G dX1_init_29 832 (by decide +kernel) ?_
  refine J.newI (pc := 32) G q62 dX1_init_32 (by decide) (by decide) (by decide) (fun M hput hag => ?_)
  have hC := hC.snoc hput hag
  have hM := (hag _ (by omega)).trans hM
  have hFr := hFr.put hag (by omega) (by omega)
  clear hput hag
  refine J.putf (pc := 34) (ci := 1) G inX1 rfl tyX1 tyX1_ok nmX1 3 q72 dX1_init_34 hM (by decide) (Nat.le_of_ble_eq_true rfl) (Or.inr ⟨hin, rfl⟩) (tyX1_ok 3 (by decide)) (by first | rfl | decide +kernel) (by first | rfl | decide +kernel) (fun M hput hag => ?_)
  have hM := hput
  have hC := hC.off hag (by omega)
  have hFr := hFr.put hag (by omega) (by omega)
  clear hput hag
  exact J.vret (pc := 37) G hO dX1_init_37 (by decide) (by decide) ⟨rfl, rfl, ⟨hM, hC.at 0 rfl, hC.at 1 rfl⟩, hT0.fq hFr (by simp <;> omega), hFr0.trans (hFr.to (by omega) (by omega))⟩
theorem arrV_cong {cI : ClassId} {N : Nat} {f f' : Nat → Value} (h : ∀ j, j < N → f j = f' j) : arrV cI N f = arrV cI N f' := by
  unfold arrV
  congr 2
  funext j
  exact h j.val j.isLt
theorem J.swap {g : GT} {k z n pc : Nat} {M : AH} {L : List (Option Value)} {st : List Value} {a : Nat} {x x' : Ce} (hM : M a = some x) (he : ∀ (E : En) (H : Heap), va_at E.1 vwCl (a, toE E x) H → va_at E.1 vwCl (a, toE E x') H) (kk : ∀ M' : AH, M' a = some x' → (∀ q, q ≠ a → M' q = M q) → J g k z n M' L pc st) : J g k z n M L pc st := by
  intro H locs ls hR hS hl
  refine kk (hset M a x') hset_s (fun q hq => hset_n hq) H locs ls ⟨hR.1, hR.2.1, fun b y hb => ?_⟩ hS hl
  by_cases q : b = a
  · subst q
    rw [hset_s] at hb
    have : x' = y := Option.some.inj hb
    subst this
    obtain ⟨h1, h2, h3⟩ := hR.2.2 b _ hM
    exact ⟨h1, h2, he _ _ h3⟩
  · rw [hset_n q] at hb
    exact hR.2.2 b y hb
theorem J.swapR {g : GT} {k z n pc : Nat} {M : AH} {L : List (Option Value)} {st : List Value} {a N : Nat} {f f' : Nat → Option Nat} (hM : M a = some (cR 4 N f)) (he : ∀ j, j < N → f j = f' j) (kk : ∀ M' : AH, M' a = some (cR 4 N f') → (∀ q, q ≠ a → M' q = M q) → J g k z n M' L pc st) : J g k z n M L pc st := by
  refine J.swap hM (fun E H h => ?_) kk
  have h : H[a]? = some (vp_cell (E.2 4) (N, .inr (.inr (.inr (.inr f))))) := h
  show H[a]? = some (vp_cell (E.2 4) (N, .inr (.inr (.inr (.inr f')))))
  rw [h, vp_cell_q, vp_cell_q]
  rw [arrV_cong (fun j hj => by rw [he j hj])]
theorem J.cast {g : GT} {k z n k' z' n' pc : Nat} {M : AH} {L : List (Option Value)} {st : List Value} (kk : J g k' z' n' M L pc st) (hk : k = k') (hz : z = z') (hn : n = n') : J g k z n M L pc st := by
  subst hk; subst hz; subst hn; exact kk
def lvF (a i : Nat) : Nat → Option Nat := fun j => if j < i then some (a + 16 + 7 * j) else none
theorem lvF_s {a i : Nat} : va_up (lvF a i) i (some (a + 16 + 7 * i)) = lvF a (i + 1) := by
  funext j
  unfold va_up lvF
  by_cases h : j = i
  · subst h; simp
  · by_cases h2 : j < i
    · have h3 : j < i + 1 := by omega
      simp [h, h2, h3]
    · have h3 : ¬ j < i + 1 := by omega
      simp [h, h2, h3]
set_option maxRecDepth 100000 in
set_option maxHeartbeats 4000000 in
theorem c_initMiner (M0 : AH) {a : Nat} (hfs : M0 a = some (cO 3 [.null, .int 0, .null, .null, .null, .int 0, .null, .null, .null, .int 0])) : Fn yX3_init cX3_init 2 none 3 [.ref a] (a + 1) M0 127 (168 + 839 + 848 + 4560) (fun r n' M' => r = none ∧ n' = a + 128 ∧ Cl M' a (minC a (fun _ _ => 0) (fun _ => 0)) ∧ Cl M' (a + 7) (treeC (a + 7) (fun _ _ => 0) (fun _ => 0) (fun _ => 0)) ∧ Cq M' (a + 6) (a + 7) (fun _ _ => 0) (fun _ => 0) ∧ (∀ i, i < 16 → Cl M' (a + 16 + 7 * i) (logC (a + 16 + 7 * i) (fun _ _ => 0) (fun _ => 0))) ∧ Fr a (a + 128) M0 M') := by
  refine Fn.of (by decide) [some _, none] rfl rfl (Nat.le_of_ble_eq_true rfl) ?_
  intro g G hin hO
  have hM := hfs
  have hC : Cl M0 (a + 1) [] := Cl.nil
  have hFr : Fr a (a + 128) M0 M0 := Fr.rf
  refine J.aload_n (pc := 0) G dX3_init_0 rfl ?_
  refine J.objInit (pc := 1) G q20 dX3_init_1 (by omega) (Nat.le_of_ble_eq_true rfl) rfl ?_
  refine J.aload_n (pc := 4) G dX3_init_4 rfl ?_
  refine J.bipushN (pc := 5) G dX3_init_5 12 (by decide +kernel) ?_
  refine J.newI (pc := 7) G q62 dX3_init_7 (by decide) (by decide) (by decide) (fun M hput hag => ?_)
  have hC := hC.snoc hput hag
  have hM := (hag _ (by omega)).trans hM
  have hFr := hFr.put hag (by omega) (by omega)
  clear hput hag
  refine J.putf (pc := 9) (ci := 3) G inX3 rfl tyX3 tyX3_ok nmX3 0 q135 dX3_init_9 hM (by decide) (Nat.le_of_ble_eq_true rfl) (Or.inr ⟨hin, rfl⟩) (tyX3_ok 0 (by decide)) (by first | rfl | decide +kernel) (by first | rfl | decide +kernel) (fun M hput hag => ?_)
  have hM := hput
  have hC := hC.off hag (by omega)
  have hFr := hFr.put hag (by omega) (by omega)
  clear hput hag
  refine J.aload_n (pc := 12) G dX3_init_12 rfl ?_
  refine J.iconstN (pc := 13) G dX3_init_13 0 rfl ?_
  refine J.putf (pc := 14) (ci := 3) G inX3 rfl tyX3 tyX3_ok nmX3 1 q136 dX3_init_14 hM (by decide) (Nat.le_of_ble_eq_true rfl) (Or.inl rfl) (tyX3_ok 1 (by decide)) (by first | rfl | decide +kernel) (by first | rfl | decide +kernel) (fun M hput hag => ?_)
  have hM := hput
  have hC := hC.off hag (by omega)
  have hFr := hFr.put hag (by omega) (by omega)
  clear hput hag
  refine J.aload_n (pc := 17) G dX3_init_17 rfl ?_
  refine J.bipushN (pc := 18) G dX3_init_18 120 (by decide +kernel) ?_
  refine J.newI (pc := 20) G q62 dX3_init_20 (by decide) (by decide) (by decide) (fun M hput hag => ?_)
  have hC := hC.snoc hput hag
  have hM := (hag _ (by omega)).trans hM
  have hFr := hFr.put hag (by omega) (by omega)
  clear hput hag
  refine J.putf (pc := 22) (ci := 3) G inX3 rfl tyX3 tyX3_ok nmX3 2 q137 dX3_init_22 hM (by decide) (Nat.le_of_ble_eq_true rfl) (Or.inr ⟨hin, rfl⟩) (tyX3_ok 2 (by decide)) (by first | rfl | decide +kernel) (by first | rfl | decide +kernel) (fun M hput hag => ?_)
  have hM := hput
  have hC := hC.off hag (by omega)
  have hFr := hFr.put hag (by omega) (by omega)
  clear hput hag
  refine J.aload_n (pc := 25) G dX3_init_25 rfl ?_
  refine J.bipushN (pc := 26) G dX3_init_26 10 (by decide +kernel) ?_
  refine J.newI (pc := 28) G q62 dX3_init_28 (by decide) (by decide) (by decide) (fun M hput hag => ?_)
  have hC := hC.snoc hput hag
  have hM := (hag _ (by omega)).trans hM
  have hFr := hFr.put hag (by omega) (by omega)
  clear hput hag
  refine J.putf (pc := 30) (ci := 3) G inX3 rfl tyX3 tyX3_ok nmX3 3 q138 dX3_init_30 hM (by decide) (Nat.le_of_ble_eq_true rfl) (Or.inr ⟨hin, rfl⟩) (tyX3_ok 3 (by decide)) (by first | rfl | decide +kernel) (by first | rfl | decide +kernel) (fun M hput hag => ?_)
  have hM := hput
  have hC := hC.off hag (by omega)
  have hFr := hFr.put hag (by omega) (by omega)
  clear hput hag
  refine J.aload_n (pc := 33) G dX3_init_33 rfl ?_
  refine J.bipushN (pc := 34) G dX3_init_34 10 (by decide +kernel) ?_
  refine J.newI (pc := 36) G q62 dX3_init_36 (by decide) (by decide) (by decide) (fun M hput hag => ?_)
  have hC := hC.snoc hput hag
  have hM := (hag _ (by omega)).trans hM
  have hFr := hFr.put hag (by omega) (by omega)
  clear hput hag
  refine J.putf (pc := 38) (ci := 3) G inX3 rfl tyX3 tyX3_ok nmX3 4 q139 dX3_init_38 hM (by decide) (Nat.le_of_ble_eq_true rfl) (Or.inr ⟨hin, rfl⟩) (tyX3_ok 4 (by decide)) (by first | rfl | decide +kernel) (by first | rfl | decide +kernel) (fun M hput hag => ?_)
  have hM := hput
  have hC := hC.off hag (by omega)
  have hFr := hFr.put hag (by omega) (by omega)
  clear hput hag
  refine J.aload_n (pc := 41) G dX3_init_41 rfl ?_
  refine J.iconstN (pc := 42) G dX3_init_42 0 rfl ?_
  refine J.putf (pc := 43) (ci := 3) G inX3 rfl tyX3 tyX3_ok nmX3 5 q140 dX3_init_43 hM (by decide) (Nat.le_of_ble_eq_true rfl) (Or.inl rfl) (tyX3_ok 5 (by decide)) (by first | rfl | decide +kernel) (by first | rfl | decide +kernel) (fun M hput hag => ?_)
  have hM := hput
  have hC := hC.off hag (by omega)
  have hFr := hFr.put hag (by omega) (by omega)
  clear hput hag
  refine J.aload_n (pc := 46) G dX3_init_46 rfl ?_
  refine J.bipushN (pc := 47) G dX3_init_47 16 (by decide +kernel) ?_
  refine J.newO (pc := 49) G q23 dX3_init_49 (by decide) (by decide) (by decide) (fun M hput hag => ?_)
  have hC := hC.snoc hput hag
  have hM := (hag _ (by omega)).trans hM
  have hFr := hFr.put hag (by omega) (by omega)
  clear hput hag
  refine J.putf (pc := 52) (ci := 3) G inX3 rfl tyX3 tyX3_ok nmX3 6 q141 dX3_init_52 hM (by decide) (Nat.le_of_ble_eq_true rfl) (Or.inr ⟨hin, rfl⟩) (tyX3_ok 6 (by decide)) (by first | rfl | decide +kernel) (by first | rfl | decide +kernel) (fun M hput hag => ?_)
  have hM := hput
  have hC := hC.off hag (by omega)
  have hFr := hFr.put hag (by omega) (by omega)
  clear hput hag
  refine J.aload_n (pc := 55) G dX3_init_55 rfl ?_
  refine J.new (pc := 56) (ci := 1) (fs := [.null, .null, .int 0, .null]) G inX1 rfl tyX1 tyX1_ok q63 q64 q3 dX3_init_56 (by decide) (by decide) (by decide) (fun M hput hag => ?_)
  have hQ := hput
  have hC := hC.keep (fun q h1 h2 => hag q (by simp at h2; omega))
  have hM := (hag _ (by omega)).trans hM
  have hFr := hFr.put hag (by omega) (by omega)
  clear hput hag
  refine J.dup (pc := 59) G dX3_init_59 rfl ?_
  refine J.callIN (pc := 60) (na := 0) G (c_initMatcher M hQ) (mem_nw 0) q989 q990 q3 rfl (by decide +kernel) dX3_init_60 rfl (Nat.le_of_ble_eq_true rfl) rfl ⟨by omega, by decide, by omega, by omega⟩ ?_
  clear hQ
  rintro r9 n9 M7 ⟨hr9, hn9, hQ, hT, hFr7⟩
  subst hr9
  rw [hn9]
  clear hn9 n9
  dsimp only [Option.toList, List.cons_append, List.nil_append]
  have hM := (hFr7 a (by omega)).trans hM
  have hC := hC.fr hFr7 (by simp)
  have hFr := hFr.trans (hFr7.wide (by omega) (by omega))
  clear hFr7
  refine J.putf (pc := 63) (ci := 3) G inX3 rfl tyX3 tyX3_ok nmX3 7 q143 dX3_init_63 hM (by decide) (Nat.le_of_ble_eq_true rfl) (Or.inr ⟨hin, rfl⟩) (tyX3_ok 7 (by decide)) (by first | rfl | decide +kernel) (by first | rfl | decide +kernel) (fun M hput hag => ?_)
  have hM := hput
  have hC := hC.off hag (by omega)
  have hT := hT.keep (fun q h1 _ => hag q (by omega))
  have hQ := hQ.keep (fun q h1 _ => hag q (by omega))
  have hFr := hFr.put hag (by omega) (by omega)
  clear hput hag
  refine J.aload_n (pc := 66) G dX3_init_66 rfl ?_
  refine J.aload_n (pc := 67) G dX3_init_67 rfl ?_
  refine J.getf (pc := 68) (ci := 3) G inX3 rfl 7 q143 dX3_init_68 hM (by decide) rfl ?_
  refine J.getf (pc := 71) (ci := 1) G inX1 rfl 0 q993 dX3_init_71 hQ.a0 (by decide) rfl ?_
  refine J.putf (pc := 74) (ci := 3) G inX3 rfl tyX3 tyX3_ok nmX3 8 q142 dX3_init_74 hM (by decide) (Nat.le_of_ble_eq_true rfl) (Or.inr ⟨hin, rfl⟩) (tyX3_ok 8 (by decide)) (by first | rfl | decide +kernel) (by first | rfl | decide +kernel) (fun M hput hag => ?_)
  have hM := hput
  have hC := hC.off hag (by omega)
  have hT := hT.keep (fun q h1 _ => hag q (by omega))
  have hQ := hQ.keep (fun q h1 _ => hag q (by omega))
  have hFr := hFr.put hag (by omega) (by omega)
  clear hput hag
  refine J.aload_n (pc := 77) G dX3_init_77 rfl ?_
  refine J.iconstN (pc := 78) G dX3_init_78 0 rfl ?_
  refine J.putf (pc := 79) (ci := 3) G inX3 rfl tyX3 tyX3_ok nmX3 9 q144 dX3_init_79 hM (by decide) (Nat.le_of_ble_eq_true rfl) (Or.inl rfl) (tyX3_ok 9 (by decide)) (by first | rfl | decide +kernel) (by first | rfl | decide +kernel) (fun M hput hag => ?_)
  have hM := hput
  have hC := hC.off hag (by omega)
  have hT := hT.keep (fun q h1 _ => hag q (by omega))
  have hQ := hQ.keep (fun q h1 _ => hag q (by omega))
  have hFr := hFr.put hag (by omega) (by omega)
  clear hput hag
  refine J.iconstN (pc := 82) G dX3_init_82 0 rfl ?_
  refine J.istore_n (L' := [_, _]) (pc := 83) G dX3_init_83 rfl (Nat.le_of_ble_eq_true rfl) rfl ?_
  have hX : Cl M a [cO 3 [.ref (a + 1), .int (iI ((0 : Nat) : Int)), .ref (a + 2), .ref (a + 3), .ref (a + 4), .int (iI ((0 : Nat) : Int)), .ref (a + 5), .ref (a + 6), .ref (a + 7), .int (iI ((0 : Nat) : Int))], cN 12 (fun _ => 0), cN 120 (fun _ => 0), cN 10 (fun _ => 0), cN 10 (fun _ => 0), cR 4 16 (fun _ => none)] := Cl.cons hM hC
  clear hM hC
  have K1 : ∀ q : Nat × AH, (q.1 ≤ 16 ∧ Cl q.2 a [cO 3 [.ref (a + 1), .int (iI ((0 : Nat) : Int)), .ref (a + 2), .ref (a + 3), .ref (a + 4), .int (iI ((0 : Nat) : Int)), .ref (a + 5), .ref (a + 6), .ref (a + 7), .int (iI ((0 : Nat) : Int))], cN 12 (fun _ => 0), cN 120 (fun _ => 0), cN 10 (fun _ => 0), cN 10 (fun _ => 0), cR 4 16 (lvF a q.1)] ∧ Cl q.2 (a + 7) (treeC (a + 7) (fun _ _ => 0) (fun _ => 0) (fun _ => 0)) ∧ Cq q.2 (a + 6) (a + 7) (fun _ _ => 0) (fun _ => 0) ∧ (∀ i, i < q.1 → Cl q.2 (a + 16 + 7 * i) (logC (a + 16 + 7 * i) (fun _ _ => 0) (fun _ => 0))) ∧ Fr a (a + 128) M0 q.2) → J g (15 + 7 * q.1) (168 + 839 + 848 + 285 * q.1) (a + 16 + 7 * q.1) q.2 [some (.ref a), some (.int (iI (q.1 : Int)))] 84 [] := by
    refine loopJ (fun q => 16 - q.1) _ _ ?_
    clear hX hT hQ hFr
    rintro ⟨j, M⟩ ⟨hj, hX, hT, hQ, hLs, hFr⟩ ih
    dsimp only at hj hX hT hQ hLs hFr ih ⊢
    refine J.iload_n (pc := 84) G dX3_init_84 rfl ?_
    refine J.bipushN (pc := 85) G dX3_init_85 16 (by decide +kernel) ?_
    refine J.icmp_geN (pc := 87) (tgt := 109) G dX3_init_87 (by decide) (by omega) (by omega) (fun h => ?_) (fun h => ?_)
    · have hj6 : j = 16 := by omega
      rw [hj6] at hX hLs ⊢
      refine J.swapR (f' := fun i => some (a + 16 + 7 * i)) (hX.at 5 rfl) (fun i hi => if_pos hi) (fun M hput hag => ?_)
      have hX := hX.put 5 hput hag rfl
      have hT := hT.keep (fun q h1 _ => hag q (by omega))
      have hQ := hQ.keep (fun q h1 _ => hag q (by omega))
      have hLs : ∀ i, i < 16 → Cl M (a + 16 + 7 * i) (logC (a + 16 + 7 * i) (fun _ _ => 0) (fun _ => 0)) := fun i hi => (hLs i hi).keep (fun q h1 _ => hag q (by omega))
      have hFr := hFr.put hag (by omega) (by omega)
      exact J.vret (pc := 109) G hO dX3_init_109 (by omega) (by omega) ⟨rfl, by omega, hX, hT, hQ, hLs, hFr⟩
    · refine J.aload_n (pc := 90) G dX3_init_90 rfl ?_
      refine J.getf (pc := 91) (ci := 3) G inX3 rfl 6 q141 dX3_init_91 (hX.at 0 rfl) (by decide) rfl ?_
      refine J.iload_n (pc := 94) G dX3_init_94 rfl ?_
      refine J.new (pc := 95) (ci := 0) (fs := [.null, .null, .int 0, .int 0, .int 0, .int 0, .int 0, .int 0, .null, .null, .null, .null, .int 0]) G inX0 rfl tyX0 tyX0_ok q23 q82 q4 dX3_init_95 (by decide) (by omega) (by omega) (fun M hput hag => ?_)
      have hX := hX.keep (fun q h1 h2 => hag q (by simp at h2; omega))
      have hT := hT.keep (fun q h1 h2 => hag q (by simp at h2; omega))
      have hQ := hQ.keep (fun q h1 h2 => hag q (by omega))
      have hLs : ∀ i, i < j → Cl M (a + 16 + 7 * i) (logC (a + 16 + 7 * i) (fun _ _ => 0) (fun _ => 0)) := fun i hi => (hLs i hi).keep (fun q h1 h2 => hag q (by simp at h2; omega))
      have hFr := hFr.put hag (by omega) (by omega)
      have hl := hput
      clear hput hag
      refine J.dup (pc := 98) G dX3_init_98 rfl ?_
      refine J.callIN (pc := 99) (na := 0) G (c_initLog M hl) (mem_nw 1) q84 q85 q4 rfl (by decide +kernel) dX3_init_99 rfl (Nat.le_of_ble_eq_true rfl) rfl ⟨by omega, by decide, by omega, by omega⟩ ?_
      rintro r9 n9 M7 ⟨hr9, hn9, hL, hFr7⟩
      subst hr9
      rw [hn9]
      clear hn9 n9
      dsimp only [Option.toList, List.cons_append, List.nil_append]
      have hX := hX.fr hFr7 (by simp; omega)
      have hT := hT.fr hFr7 (by simp; omega)
      have hQ := hQ.fr hFr7 (by omega)
      have hLs : ∀ i, i < j → Cl M7 (a + 16 + 7 * i) (logC (a + 16 + 7 * i) (fun _ _ => 0) (fun _ => 0)) := fun i hi => (hLs i hi).fr hFr7 (by simp; omega)
      have hFr := hFr.trans (hFr7.wide (by omega) (by omega))
      clear hFr7
      refine J.aastO (pc := 102) G dX3_init_102 (hX.at 5 rfl) (hL.at 0 rfl) j rfl (by omega) (by decide) (fun M hput hag => ?_)
      rw [lvF_s] at hput
      have hX := hX.put 5 hput hag rfl
      have hT := hT.keep (fun q h1 _ => hag q (by omega))
      have hQ := hQ.keep (fun q h1 _ => hag q (by omega))
      have hLs : ∀ i, i < j + 1 → Cl M (a + 16 + 7 * i) (logC (a + 16 + 7 * i) (fun _ _ => 0) (fun _ => 0)) := fun i hi => by
        by_cases q : i < j
        · exact (hLs i q).keep (fun q h1 _ => hag q (by omega))
        · rw [show i = j by omega]
          exact hL.keep (fun q h1 _ => hag q (by omega))
      have hFr := hFr.put hag (by omega) (by omega)
      clear hput hag
      refine J.iincN (L' := [_, _]) (pc := 103) G dX3_init_103 1 rfl rfl rfl rfl ?_
      refine J.goto (pc := 106) (tgt := 84) G dX3_init_106 (by decide) ?_
      refine J.cast (ih (j + 1, M) ⟨by dsimp only; omega, hX, hT, hQ, hLs, hFr⟩ (by dsimp only; omega)) ?_ ?_ ?_
      · dsimp only; omega
      · dsimp only; omega
      · dsimp only; omega
  refine J.cast (K1 (0, M) ⟨Nat.zero_le _, ?_, hT, hQ, fun i hi => absurd hi (Nat.not_lt_zero i), hFr⟩) rfl rfl rfl
  rw [show lvF a 0 = fun _ => none from by funext j; simp [lvF]]
  exact hX
end INIT2
