section LOG11
/-- what is measured: used, beginning, ending, hasEmpty, next -/
abbrev MS : Type := Nat × Nat × Nat × Nat × (Nat → Nat)
def uT (u : Nat) (t : List Nat) (k : Nat) : Nat := it (fun i v => v ||| 2 ^ gd t i) u k
def nxT (f : Nat → Nat) (t : List Nat) (k : Nat) : Nat → Nat := it (fun i f => upN f (gd t i) (f (gd t i) ||| 2 ^ gd t (i + 1))) f k
def mT (s : MS) (t : List Nat) : MS := if t.length = 0 then (s.1, s.2.1, s.2.2.1, 1, s.2.2.2.2) else (uT s.1 t t.length, s.2.1 ||| 2 ^ gd t 0, s.2.2.1 ||| 2 ^ gd t (t.length - 1), s.2.2.2.1, nxT s.2.2.2.2 t (t.length - 1))
def Lab8 (t : List Nat) : Prop := ∀ i, i < t.length → gd t i < 8
def MS8 (s : MS) : Prop := s.1 < 256 ∧ s.2.1 < 256 ∧ s.2.2.1 < 256 ∧ s.2.2.2.1 ≤ 1 ∧ ∀ j, j < 8 → s.2.2.2.2 j < 256
theorem nxT_lt {f : Nat → Nat} {t : List Nat} (hl : Lab8 t) (hf : ∀ j, j < 8 → f j < 256) {k : Nat} (hk : k + 1 ≤ t.length) : ∀ j, j < 8 → nxT f t k j < 256 :=
  it_inv (fun _ (r : Nat → Nat) => ∀ j, j < 8 → r j < 256) k hf (fun i r hi hr j hj => by
    by_cases e : j = gd t i
    · subst e; rw [upN_s]; exact or_lt8 (hr _ hj) (pow_lt8 (hl (i + 1) (by omega)))
    · rw [upN_n e]; exact hr j hj)
theorem uT_lt {u : Nat} {t : List Nat} (hl : Lab8 t) (hu : u < 256) {k : Nat} (hk : k ≤ t.length) : uT u t k < 256 :=
  it_inv (fun _ v => v < 256) k hu (fun i x hi hx => or_lt8 hx (pow_lt8 (hl i (by omega))))
theorem mT_8 {s : MS} {t : List Nat} (hl : Lab8 t) (h : MS8 s) : MS8 (mT s t) := by
  obtain ⟨h1, h2, h3, h4, h5⟩ := h
  unfold mT
  split
  · exact ⟨h1, h2, h3, Nat.le_refl 1, h5⟩
  · exact ⟨uT_lt hl h1 (Nat.le_refl _), or_lt8 h2 (pow_lt8 (hl 0 (by omega))), or_lt8 h3 (pow_lt8 (hl _ (by omega))), h4, nxT_lt hl h5 (by omega)⟩
/-- the scalars of a Log that hold what is measured -/
def MsAt (S : Nat → Nat) (s : MS) : Prop := S 4 = s.1 ∧ S 5 = s.2.1 ∧ S 6 = s.2.2.1 ∧ S 7 = s.2.2.2.1
def SKeep (S S' : Nat → Nat) : Prop := S' 2 = S 2 ∧ S' 3 = S 3
set_option maxRecDepth 100000 in
set_option maxHeartbeats 4000000 in
theorem c_measureTrace (n : Nat) (M0 : AH) {a b : Nat} {A : Nat → Nat → Nat} {S : Nat → Nat} {t : List Nat} {s : MS} (hL : Cl M0 a (logC a A S)) (hms : MsAt S s) (hnx : A 3 = s.2.2.2.2) (ht : ∀ i, i < t.length → A 1 (b + i) = gd t i) (hl8 : Lab8 t) (hb120 : b + t.length ≤ 120) : Fn yX0_measureTrace cX0_measureTrace 4 none 0 [.ref a, .int (iI (b : Int)), .int (iI ((b + t.length : Nat) : Int))] n M0 0 0 (fun r n' M' => r = none ∧ n' = n ∧ (∃ S', Cl M' a (logC a (upAN A 3 (mT s t).2.2.2.2) S') ∧ MsAt S' (mT s t) ∧ SKeep S S') ∧ Fr a (a + 7) M0 M') := by
  refine Fn.of (by decide) [some _, some _, some _, none] rfl rfl (Nat.le_of_ble_eq_true rfl) ?_
  intro g G hin hO
  have hFr : Fr a (a + 7) M0 M0 := Fr.rf
  generalize hM1 : M0 = M1 at hL hFr
  obtain ⟨h4, h5, h6, h7⟩ := hms
  refine J.iload_n (pc := 0) G dX0_measureTrace_0 rfl ?_
  refine J.iload_n (pc := 1) G dX0_measureTrace_1 rfl ?_
  refine J.icmp_ltN (pc := 2) (tgt := 11) G dX0_measureTrace_2 (by decide) (by omega) (by omega) (fun h => ?_) (fun h => ?_)
  · have e0 : mT s t = (uT s.1 t t.length, s.2.1 ||| 2 ^ gd t 0, s.2.2.1 ||| 2 ^ gd t (t.length - 1), s.2.2.2.1, nxT s.2.2.2.2 t (t.length - 1)) := by unfold mT; rw [if_neg (by omega)]
    have t0 : A 1 b = gd t 0 := ht 0 (by omega)
    have tl : A 1 (b + t.length - 1) = gd t (t.length - 1) := by rw [← ht (t.length - 1) (by omega)]; congr 1; omega
    have l0 : gd t 0 < 8 := hl8 0 (by omega)
    have ll : gd t (t.length - 1) < 8 := hl8 _ (by omega)
    refine J.aload_n (pc := 11) G dX0_measureTrace_11 rfl ?_
    refine J.dup (pc := 12) G dX0_measureTrace_12 rfl ?_
    refine J.getf (pc := 13) (ci := 0) G inX0 rfl 5 q93 dX0_measureTrace_13 (hL.at 0 rfl) (by decide) rfl ?_
    refine J.iconstN (pc := 16) G dX0_measureTrace_16 1 rfl ?_
    refine J.aload_n (pc := 17) G dX0_measureTrace_17 rfl ?_
    refine J.getf (pc := 18) (ci := 0) G inX0 rfl 0 q87 dX0_measureTrace_18 (hL.at 0 rfl) (by decide) rfl ?_
    refine J.iload_n (pc := 21) G dX0_measureTrace_21 rfl ?_
    refine J.ialdN (pc := 22) G dX0_measureTrace_22 (hL.at 1 rfl) (by omega) (by decide) ?_
    refine J.topv (b := iI (A 1 b : Int)) rfl ?_
    rw [t0]
    refine J.ishl1 (pc := 23) G dX0_measureTrace_23 (by omega) ?_
    refine J.iorN (pc := 24) G dX0_measureTrace_24 ?_
    refine J.putf (pc := 25) (ci := 0) G inX0 rfl tyX0 tyX0_ok nmX0 5 q93 dX0_measureTrace_25 (hL.at 0 rfl) (by decide) (Nat.le_of_ble_eq_true rfl) (Or.inl rfl) (tyX0_ok 5 (by decide)) (by first | rfl | decide +kernel) (by first | rfl | decide +kernel) (fun M hput hag => ?_)
    have hL := logS5 hL hput hag
    have hFr := hFr.put hag (by omega) (by omega)
    clear hput hag
    have hL : Cl M a (logC a A (upN S 5 (S 5 ||| 2 ^ gd t 0))) := hL
    refine J.aload_n (pc := 28) G dX0_measureTrace_28 rfl ?_
    refine J.dup (pc := 29) G dX0_measureTrace_29 rfl ?_
    refine J.getf (pc := 30) (ci := 0) G inX0 rfl 6 q95 dX0_measureTrace_30 (hL.at 0 rfl) (by decide) rfl ?_
    refine J.iconstN (pc := 33) G dX0_measureTrace_33 1 rfl ?_
    refine J.aload_n (pc := 34) G dX0_measureTrace_34 rfl ?_
    refine J.getf (pc := 35) (ci := 0) G inX0 rfl 0 q87 dX0_measureTrace_35 (hL.at 0 rfl) (by decide) rfl ?_
    refine J.iload_n (pc := 38) G dX0_measureTrace_38 rfl ?_
    refine J.iconstN (pc := 39) G dX0_measureTrace_39 1 rfl ?_
    refine J.isubN (pc := 40) G dX0_measureTrace_40 (by omega) ?_
    refine J.ialdN (pc := 41) G dX0_measureTrace_41 (hL.at 1 rfl) (by omega) (by decide) ?_
    refine J.topv (b := iI (A 1 (b + t.length - 1) : Int)) rfl ?_
    rw [tl]
    refine J.ishl1 (pc := 42) G dX0_measureTrace_42 (by omega) ?_
    refine J.iorN (pc := 43) G dX0_measureTrace_43 ?_
    refine J.putf (pc := 44) (ci := 0) G inX0 rfl tyX0 tyX0_ok nmX0 6 q95 dX0_measureTrace_44 (hL.at 0 rfl) (by decide) (Nat.le_of_ble_eq_true rfl) (Or.inl rfl) (tyX0_ok 6 (by decide)) (by first | rfl | decide +kernel) (by first | rfl | decide +kernel) (fun M hput hag => ?_)
    have hL := logS6 hL hput hag
    have hFr := hFr.put hag (by omega) (by omega)
    clear hput hag
    have hL : Cl M a (logC a A (upN (upN S 5 (S 5 ||| 2 ^ gd t 0)) 6 (S 6 ||| 2 ^ gd t (t.length - 1)))) := hL
    generalize hS1 : upN (upN S 5 (S 5 ||| 2 ^ gd t 0)) 6 (S 6 ||| 2 ^ gd t (t.length - 1)) = S1 at hL
    have k5 : S1 5 = (mT s t).2.1 := by rw [e0, ← hS1, ← h5]; rfl
    have k6 : S1 6 = (mT s t).2.2.1 := by rw [e0, ← hS1, ← h6]; rfl
    have k7 : S1 7 = (mT s t).2.2.2.1 := by rw [e0, ← hS1, ← h7]; rfl
    have k4 : S1 4 = s.1 := by rw [← hS1, ← h4]; rfl
    have k2 : S1 2 = S 2 := by rw [← hS1]; rfl
    have k3 : S1 3 = S 3 := by rw [← hS1]; rfl
    refine J.aload_n (pc := 47) G dX0_measureTrace_47 rfl ?_
    refine J.dup (pc := 48) G dX0_measureTrace_48 rfl ?_
    refine J.getf (pc := 49) (ci := 0) G inX0 rfl 4 q91 dX0_measureTrace_49 (hL.at 0 rfl) (by decide) rfl ?_
    refine J.iconstN (pc := 52) G dX0_measureTrace_52 1 rfl ?_
    refine J.aload_n (pc := 53) G dX0_measureTrace_53 rfl ?_
    refine J.getf (pc := 54) (ci := 0) G inX0 rfl 0 q87 dX0_measureTrace_54 (hL.at 0 rfl) (by decide) rfl ?_
    refine J.iload_n (pc := 57) G dX0_measureTrace_57 rfl ?_
    refine J.ialdN (pc := 58) G dX0_measureTrace_58 (hL.at 1 rfl) (by omega) (by decide) ?_
    refine J.topv (b := iI (A 1 b : Int)) rfl ?_
    rw [t0]
    refine J.ishl1 (pc := 59) G dX0_measureTrace_59 (by omega) ?_
    refine J.iorN (pc := 60) G dX0_measureTrace_60 ?_
    refine J.putf (pc := 61) (ci := 0) G inX0 rfl tyX0 tyX0_ok nmX0 4 q91 dX0_measureTrace_61 (hL.at 0 rfl) (by decide) (Nat.le_of_ble_eq_true rfl) (Or.inl rfl) (tyX0_ok 4 (by decide)) (by first | rfl | decide +kernel) (by first | rfl | decide +kernel) (fun M hput hag => ?_)
    have hL := logS4 hL hput hag
    have hFr := hFr.put hag (by omega) (by omega)
    clear hput hag
    have hL : Cl M a (logC a A (upN S1 4 (uT s.1 t 1))) := by
      have e : uT s.1 t 1 = S1 4 ||| 2 ^ gd t 0 := by rw [k4]; rfl
      rw [e]; exact hL
    refine J.iload_n (pc := 64) G dX0_measureTrace_64 rfl ?_
    refine J.iconstN (pc := 65) G dX0_measureTrace_65 1 rfl ?_
    refine J.iaddN (pc := 66) G dX0_measureTrace_66 ?_
    refine J.istore_n (L' := [_, _, _, _]) (pc := 67) G dX0_measureTrace_67 rfl (Nat.le_of_ble_eq_true rfl) rfl ?_
    have K1 : ∀ q : Nat × AH, (q.1 + 1 ≤ t.length ∧ Cl q.2 a (logC a (upAN A 3 (nxT s.2.2.2.2 t q.1)) (upN S1 4 (uT s.1 t (q.1 + 1)))) ∧ Fr a (a + 7) M1 q.2) → J g 0 0 n q.2 [some (.ref a), some (.int (iI (b : Int))), some (.int (iI ((b + t.length : Nat) : Int))), some (.int (iI ((b + 1 + q.1 : Nat) : Int)))] 68 [] := by
      refine loopJ (fun q => t.length - q.1) _ _ ?_
      rintro ⟨i, M⟩ ⟨hi, hL, hFr⟩ ih
      dsimp only at hi hL hFr ih ⊢
      have hu1 : uT s.1 t (i + 1 + 1) = uT s.1 t (i + 1) ||| 2 ^ gd t (i + 1) := rfl
      have hn1 : nxT s.2.2.2.2 t (i + 1) = upN (nxT s.2.2.2.2 t i) (gd t i) (nxT s.2.2.2.2 t i (gd t i) ||| 2 ^ gd t (i + 1)) := rfl
      have hend : i + 1 = t.length → uT s.1 t (i + 1) = (mT s t).1 ∧ nxT s.2.2.2.2 t i = (mT s t).2.2.2.2 := fun e => by rw [e0, e, show i = t.length - 1 by omega]; exact ⟨rfl, rfl⟩
      generalize hu : uT s.1 t (i + 1) = u at hL hu1 hend
      generalize hn : nxT s.2.2.2.2 t i = f at hL hn1 hend
      refine J.iload_n (pc := 68) G dX0_measureTrace_68 rfl ?_
      refine J.iload_n (pc := 69) G dX0_measureTrace_69 rfl ?_
      refine J.icmp_geN (pc := 70) (tgt := 120) G dX0_measureTrace_70 (by decide) (by omega) (by omega) (fun h9 => ?_) (fun h9 => ?_)
      · obtain ⟨e1, e2⟩ := hend (by omega)
        refine J.vret (pc := 120) G hO dX0_measureTrace_120 (Nat.le_refl _) (Nat.le_refl _) ⟨rfl, rfl, ⟨upN S1 4 u, ?_, ⟨?_, ?_, ?_, ?_⟩, ?_, ?_⟩, hM1 ▸ hFr⟩
        · rw [← e2]; exact hL
        · rw [← e1]; rfl
        · rw [← k5]; rfl
        · rw [← k6]; rfl
        · rw [← k7]; rfl
        · rw [← k2]; rfl
        · rw [← k3]; rfl
      · have x1 : A 1 (b + 1 + i) = gd t (i + 1) := by rw [← ht (i + 1) (by omega)]; congr 1; omega
        have x0 : A 1 (b + 1 + i - 1) = gd t i := by rw [← ht i (by omega)]; congr 1; omega
        have g1 : gd t (i + 1) < 8 := hl8 _ (by omega)
        have g0 : gd t i < 8 := hl8 _ (by omega)
        refine J.aload_n (pc := 73) G dX0_measureTrace_73 rfl ?_
        refine J.dup (pc := 74) G dX0_measureTrace_74 rfl ?_
        refine J.getf (pc := 75) (ci := 0) G inX0 rfl 4 q91 dX0_measureTrace_75 (hL.at 0 rfl) (by decide) rfl ?_
        refine J.iconstN (pc := 78) G dX0_measureTrace_78 1 rfl ?_
        refine J.aload_n (pc := 79) G dX0_measureTrace_79 rfl ?_
        refine J.getf (pc := 80) (ci := 0) G inX0 rfl 0 q87 dX0_measureTrace_80 (hL.at 0 rfl) (by decide) rfl ?_
        refine J.iload_n (pc := 83) G dX0_measureTrace_83 rfl ?_
        refine J.ialdN (pc := 84) G dX0_measureTrace_84 (hL.at 1 rfl) (by omega) (by decide) ?_
        refine J.topv (b := iI (A 1 (b + 1 + i) : Int)) rfl ?_
        rw [x1]
        refine J.ishl1 (pc := 85) G dX0_measureTrace_85 (by omega) ?_
        refine J.iorN (pc := 86) G dX0_measureTrace_86 ?_
        refine J.putf (pc := 87) (ci := 0) G inX0 rfl tyX0 tyX0_ok nmX0 4 q91 dX0_measureTrace_87 (hL.at 0 rfl) (by decide) (Nat.le_of_ble_eq_true rfl) (Or.inl rfl) (tyX0_ok 4 (by decide)) (by first | rfl | decide +kernel) (by first | rfl | decide +kernel) (fun M hput hag => ?_)
        have hL := logS4 hL hput hag
        have hFr := hFr.put hag (by omega) (by omega)
        clear hput hag
        have hL : Cl M a (logC a (upAN A 3 f) (upN S1 4 (uT s.1 t (i + 1 + 1)))) := by rw [hu1]; rw [upN2] at hL; exact hL
        refine J.aload_n (pc := 90) G dX0_measureTrace_90 rfl ?_
        refine J.getf (pc := 91) (ci := 0) G inX0 rfl 8 q99 dX0_measureTrace_91 (hL.at 0 rfl) (by decide) rfl ?_
        refine J.aload_n (pc := 94) G dX0_measureTrace_94 rfl ?_
        refine J.getf (pc := 95) (ci := 0) G inX0 rfl 0 q87 dX0_measureTrace_95 (hL.at 0 rfl) (by decide) rfl ?_
        refine J.iload_n (pc := 98) G dX0_measureTrace_98 rfl ?_
        refine J.iconstN (pc := 99) G dX0_measureTrace_99 1 rfl ?_
        refine J.isubN (pc := 100) G dX0_measureTrace_100 (by omega) ?_
        refine J.ialdN (pc := 101) G dX0_measureTrace_101 (hL.at 1 rfl) (by omega) (by decide) ?_
        refine J.topv (b := iI (A 1 (b + 1 + i - 1) : Int)) rfl ?_
        rw [x0]
        refine J.dup2 (pc := 102) G dX0_measureTrace_102 rfl rfl ?_
        refine J.ialdN (pc := 103) G dX0_measureTrace_103 (hL.at 3 rfl) (by omega) (by decide) ?_
        refine J.iconstN (pc := 104) G dX0_measureTrace_104 1 rfl ?_
        refine J.aload_n (pc := 105) G dX0_measureTrace_105 rfl ?_
        refine J.getf (pc := 106) (ci := 0) G inX0 rfl 0 q87 dX0_measureTrace_106 (hL.at 0 rfl) (by decide) rfl ?_
        refine J.iload_n (pc := 109) G dX0_measureTrace_109 rfl ?_
        refine J.ialdN (pc := 110) G dX0_measureTrace_110 (hL.at 1 rfl) (by omega) (by decide) ?_
        refine J.topv (b := iI (A 1 (b + 1 + i) : Int)) rfl ?_
        rw [x1]
        refine J.ishl1 (pc := 111) G dX0_measureTrace_111 (by omega) ?_
        refine J.iorN (pc := 112) G dX0_measureTrace_112 ?_
        refine J.iastN (pc := 113) G dX0_measureTrace_113 (hL.at 3 rfl) (by omega) (by decide) (fun M hput hag => ?_)
        have hL := logA3 hL hput hag
        have hFr := hFr.put hag (by omega) (by omega)
        clear hput hag
        refine J.iincN (L' := [_, _, _, _]) (pc := 114) G dX0_measureTrace_114 1 rfl rfl rfl rfl ?_
        refine J.goto (tgt := 68) (pc := 117) G dX0_measureTrace_117 (by decide) ?_
        rw [upAN2] at hL
        have := ih (i + 1, M) ⟨by dsimp only; omega, by dsimp only; rw [hn1]; exact hL, hFr⟩ (by dsimp only; omega)
        exact this
    exact K1 (0, M) ⟨by dsimp only; omega, by rw [show nxT s.2.2.2.2 t 0 = s.2.2.2.2 from rfl, ← hnx, upAN_same]; exact hL, hFr⟩
  · have e0 : mT s t = (s.1, s.2.1, s.2.2.1, 1, s.2.2.2.2) := by unfold mT; rw [if_pos (by omega)]
    refine J.aload_n (pc := 5) G dX0_measureTrace_5 rfl ?_
    refine J.iconstN (pc := 6) G dX0_measureTrace_6 1 rfl ?_
    refine J.putf (pc := 7) (ci := 0) G inX0 rfl tyX0 tyX0_ok nmX0 7 q97 dX0_measureTrace_7 (hL.at 0 rfl) (by decide) (Nat.le_of_ble_eq_true rfl) (Or.inl rfl) (tyX0_ok 7 (by decide)) (by first | rfl | decide +kernel) (by first | rfl | decide +kernel) (fun M hput hag => ?_)
    have hL := logS7 hL hput hag
    have hFr := hFr.put hag (by omega) (by omega)
    clear hput hag
    refine J.vret (pc := 10) G hO dX0_measureTrace_10 (Nat.le_refl _) (Nat.le_refl _) ⟨rfl, rfl, ⟨upN S 7 1, ?_, ?_, rfl, rfl⟩, hM1 ▸ hFr⟩
    · rw [e0, ← hnx, upAN_same]; exact hL
    · rw [e0]; exact ⟨h4, h5, h6, rfl⟩
end LOG11
