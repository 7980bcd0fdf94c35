section LOG12
/-- where a trace of a log begins -/
def ofs (tr : List (List Nat)) (t : Nat) : Nat := it (fun i v => v + (tr.getD i []).length) 0 t
theorem ofs_s {tr : List (List Nat)} {t : Nat} : ofs tr (t + 1) = ofs tr t + (tr.getD t []).length := rfl
theorem ofs_mono {tr : List (List Nat)} {t : Nat} : ∀ k, ofs tr t ≤ ofs tr (t + k)
  | 0 => Nat.le_refl _
  | k + 1 => by
    have := ofs_mono (tr := tr) (t := t) k
    rw [show t + (k + 1) = t + k + 1 by omega, ofs_s]
    omega
theorem ofs_le {tr : List (List Nat)} {t u : Nat} (h : t ≤ u) : ofs tr t ≤ ofs tr u := by
  obtain ⟨k, rfl⟩ := Nat.exists_eq_add_of_le h
  exact ofs_mono k
theorem getD_app {tr : List (List Nat)} {w : List Nat} {i : Nat} : (tr ++ [w]).getD i [] = if i = tr.length then w else tr.getD i [] := by
  simp only [List.getD_eq_getElem?_getD]
  by_cases e : i = tr.length
  · subst e; simp
  · rw [if_neg e]
    by_cases h : i < tr.length
    · rw [List.getElem?_append_left h]
    · rw [List.getElem?_eq_none (by simp; omega), List.getElem?_eq_none (by omega)]
theorem ofs_app {tr : List (List Nat)} {w : List Nat} : ∀ {t : Nat}, t ≤ tr.length → ofs (tr ++ [w]) t = ofs tr t
  | 0, _ => rfl
  | t + 1, h => by rw [ofs_s, ofs_s, ofs_app (by omega), getD_app, if_neg (by omega)]
theorem ofs_app1 {tr : List (List Nat)} {w : List Nat} : ofs (tr ++ [w]) (tr.length + 1) = ofs tr tr.length + w.length := by
  rw [ofs_s, ofs_app (Nat.le_refl _), getD_app, if_pos rfl]
def tot (tr : List (List Nat)) : Nat := ofs tr tr.length
/-- the closed traces tr, and one that is not closed yet -/
def LogOp (A : Nat → Nat → Nat) (S : Nat → Nat) (tr : List (List Nat)) (w : List Nat) : Prop :=
  S 3 = tr.length ∧ S 2 = tot tr + w.length ∧ (∀ t, t < tr.length → A 2 t = ofs tr (t + 1)) ∧ (∀ t, t < tr.length → ∀ i, i < (tr.getD t []).length → A 1 (ofs tr t + i) = gd (tr.getD t []) i) ∧ ∀ i, i < w.length → A 1 (tot tr + i) = gd w i
abbrev LogIs (A : Nat → Nat → Nat) (S : Nat → Nat) (tr : List (List Nat)) : Prop := LogOp A S tr []
def LabL (tr : List (List Nat)) : Prop := ∀ t, t < tr.length → Lab8 (tr.getD t [])
def mL0 (f0 : Nat → Nat) (tr : List (List Nat)) (k : Nat) : MS := it (fun i s => mT s (tr.getD i [])) (0, 0, 0, 0, f0) k
def mL (tr : List (List Nat)) : MS := mL0 (fun _ => 0) tr tr.length
theorem mL0_8 {f0 : Nat → Nat} {tr : List (List Nat)} (h0 : ∀ j, j < 8 → f0 j = 0) (hl : LabL tr) {k : Nat} (hk : k ≤ tr.length) : MS8 (mL0 f0 tr k) :=
  it_inv (fun _ s => MS8 s) k ⟨(by decide : 0 < 256), (by decide : 0 < 256), (by decide : 0 < 256), (by decide : 0 ≤ 1), fun j hj => by show f0 j < 256; rw [h0 j hj]; decide⟩ (fun i x hi hx => mT_8 (hl i (by omega)) hx)
theorem mL_8 {tr : List (List Nat)} (hl : LabL tr) : MS8 (mL tr) := mL0_8 (fun _ _ => rfl) hl (Nat.le_refl _)
theorem nxT_cong {f f' : Nat → Nat} {t : List Nat} (hl : Lab8 t) (h : ∀ j, j < 8 → f j = f' j) {k : Nat} (hk : k + 1 ≤ t.length) : ∀ j, j < 8 → nxT f t k j = nxT f' t k j := by
  unfold nxT
  refine it_rel (fun (r r' : Nat → Nat) => ∀ j, j < 8 → r j = r' j) k h (fun i r r' hi hr j hj => ?_)
  by_cases e : j = gd t i
  · subst e; rw [upN_s, upN_s, hr _ hj]
  · rw [upN_n e, upN_n e]; exact hr j hj
theorem mL0_rel {f0 f1 : Nat → Nat} {tr : List (List Nat)} (h : ∀ j, j < 8 → f0 j = f1 j) (hl : LabL tr) {k : Nat} (hk : k ≤ tr.length) : (mL0 f0 tr k).1 = (mL0 f1 tr k).1 ∧ (mL0 f0 tr k).2.1 = (mL0 f1 tr k).2.1 ∧ (mL0 f0 tr k).2.2.1 = (mL0 f1 tr k).2.2.1 ∧ (mL0 f0 tr k).2.2.2.1 = (mL0 f1 tr k).2.2.2.1 ∧ ∀ j, j < 8 → (mL0 f0 tr k).2.2.2.2 j = (mL0 f1 tr k).2.2.2.2 j := by
  unfold mL0
  refine it_rel (fun (s s' : MS) => s.1 = s'.1 ∧ s.2.1 = s'.2.1 ∧ s.2.2.1 = s'.2.2.1 ∧ s.2.2.2.1 = s'.2.2.2.1 ∧ ∀ j, j < 8 → s.2.2.2.2 j = s'.2.2.2.2 j) k ⟨rfl, rfl, rfl, rfl, h⟩ (fun i s s' hi hs => ?_)
  obtain ⟨h1, h2, h3, h4, h5⟩ := hs
  unfold mT
  split
  · exact ⟨h1, h2, h3, rfl, h5⟩
  · exact ⟨by dsimp only; rw [h1], by dsimp only; rw [h2], by dsimp only; rw [h3], h4, nxT_cong (hl i (by omega)) h5 (by omega)⟩
set_option maxRecDepth 100000 in
set_option maxHeartbeats 4000000 in
theorem c_measure (n : Nat) (M0 : AH) {a : Nat} {A : Nat → Nat → Nat} {S : Nat → Nat} {tr : List (List Nat)} (hL : Cl M0 a (logC a A S)) (hlg : LogIs A S tr) (hl8 : LabL tr) (ht120 : tr.length ≤ 120) (he120 : tot tr ≤ 120) : Fn yX0_measure cX0_measure 3 none 1 [.ref a] n M0 0 0 (fun r n' M' => r = none ∧ n' = n ∧ (∃ A' S', Cl M' a (logC a A' S') ∧ LogIs A' S' tr ∧ MsAt S' (mL tr) ∧ ∀ j, j < 8 → A' 3 j = (mL tr).2.2.2.2 j) ∧ Fr a (a + 7) M0 M') := by
  refine Fn.of (by decide) [some _, none, none] rfl rfl (Nat.le_of_ble_eq_true rfl) ?_
  intro g G hin hO
  have hFr : Fr a (a + 7) M0 M0 := Fr.rf
  generalize hM1 : M0 = M1 at hL hFr
  obtain ⟨g3, g2, g5, g1, -⟩ := hlg
  refine J.aload_n (pc := 0) G dX0_measure_0 rfl ?_
  refine J.iconstN (pc := 1) G dX0_measure_1 0 rfl ?_
  refine J.putf (pc := 2) (ci := 0) G inX0 rfl tyX0 tyX0_ok nmX0 4 q91 dX0_measure_2 (hL.at 0 rfl) (by decide) (Nat.le_of_ble_eq_true rfl) (Or.inl rfl) (tyX0_ok 4 (by decide)) (by first | rfl | decide +kernel) (by first | rfl | decide +kernel) (fun M hput hag => ?_)
  have hL := logS4 hL hput hag
  have hFr := hFr.put hag (by omega) (by omega)
  clear hput hag
  refine J.aload_n (pc := 5) G dX0_measure_5 rfl ?_
  refine J.iconstN (pc := 6) G dX0_measure_6 0 rfl ?_
  refine J.putf (pc := 7) (ci := 0) G inX0 rfl tyX0 tyX0_ok nmX0 5 q93 dX0_measure_7 (hL.at 0 rfl) (by decide) (Nat.le_of_ble_eq_true rfl) (Or.inl rfl) (tyX0_ok 5 (by decide)) (by first | rfl | decide +kernel) (by first | rfl | decide +kernel) (fun M hput hag => ?_)
  have hL := logS5 hL hput hag
  have hFr := hFr.put hag (by omega) (by omega)
  clear hput hag
  refine J.aload_n (pc := 10) G dX0_measure_10 rfl ?_
  refine J.iconstN (pc := 11) G dX0_measure_11 0 rfl ?_
  refine J.putf (pc := 12) (ci := 0) G inX0 rfl tyX0 tyX0_ok nmX0 6 q95 dX0_measure_12 (hL.at 0 rfl) (by decide) (Nat.le_of_ble_eq_true rfl) (Or.inl rfl) (tyX0_ok 6 (by decide)) (by first | rfl | decide +kernel) (by first | rfl | decide +kernel) (fun M hput hag => ?_)
  have hL := logS6 hL hput hag
  have hFr := hFr.put hag (by omega) (by omega)
  clear hput hag
  refine J.aload_n (pc := 15) G dX0_measure_15 rfl ?_
  refine J.iconstN (pc := 16) G dX0_measure_16 0 rfl ?_
  refine J.putf (pc := 17) (ci := 0) G inX0 rfl tyX0 tyX0_ok nmX0 7 q97 dX0_measure_17 (hL.at 0 rfl) (by decide) (Nat.le_of_ble_eq_true rfl) (Or.inl rfl) (tyX0_ok 7 (by decide)) (by first | rfl | decide +kernel) (by first | rfl | decide +kernel) (fun M hput hag => ?_)
  have hL := logS7 hL hput hag
  have hFr := hFr.put hag (by omega) (by omega)
  clear hput hag
  refine J.iconstN (pc := 20) G dX0_measure_20 0 rfl ?_
  refine J.istore_n (L' := [_, _, _]) (pc := 21) G dX0_measure_21 rfl (Nat.le_of_ble_eq_true rfl) rfl ?_
  have hL : Cl M a (logC a A (upN (upN (upN (upN S 4 0) 5 0) 6 0) 7 0)) := hL
  generalize hS1 : upN (upN (upN (upN S 4 0) 5 0) 6 0) 7 0 = S1 at hL
  have k4 : S1 4 = 0 := by rw [← hS1]; rfl
  have k5 : S1 5 = 0 := by rw [← hS1]; rfl
  have k6 : S1 6 = 0 := by rw [← hS1]; rfl
  have k7 : S1 7 = 0 := by rw [← hS1]; rfl
  have k2 : S1 2 = S 2 := by rw [← hS1]; rfl
  have k3 : S1 3 = tr.length := by rw [← hS1, ← g3]; rfl
  have K1 : ∀ s : Nat × AH, (s.1 ≤ 8 ∧ Cl s.2 a (logC a (upAN A 3 (fillN (fun _ => 0) (A 3) s.1)) S1) ∧ Fr a (a + 7) M1 s.2) → J g 0 0 n s.2 [some (.ref a), some (.int (iI (s.1 : Int))), none] 22 [] := by
    refine loopJ (fun s => 8 - s.1) _ _ ?_
    rintro ⟨i, M⟩ ⟨hi, hL, hFr⟩ ih
    dsimp only at hi hL hFr ih ⊢
    refine J.iload_n (pc := 22) G dX0_measure_22 rfl ?_
    refine J.bipushN (pc := 23) G dX0_measure_23 8 (by decide +kernel) ?_
    refine J.icmp_geN (pc := 25) (tgt := 41) G dX0_measure_25 (by decide) (by omega) (by omega) (fun h => ?_) (fun h => ?_)
    · have e8 : i = 8 := by omega
      subst e8
      have h0 : ∀ j, j < 8 → fillN (fun _ => 0) (A 3) 8 j = 0 := fun j hj => fillN_in hj
      generalize hf0 : fillN (fun _ => 0) (A 3) 8 = f0 at hL h0
      refine J.iconstN (pc := 41) G dX0_measure_41 0 rfl ?_
      refine J.istore_n (L' := [_, _, _]) (pc := 42) G dX0_measure_42 rfl (Nat.le_of_ble_eq_true rfl) rfl ?_
      refine J.iconstN (pc := 43) G dX0_measure_43 0 rfl ?_
      refine J.istore_n (L' := [_, _, _]) (pc := 44) G dX0_measure_44 rfl (Nat.le_of_ble_eq_true rfl) rfl ?_
      have K2 : ∀ s : Nat × AH, (s.1 ≤ tr.length ∧ (∃ S', Cl s.2 a (logC a (upAN A 3 (mL0 f0 tr s.1).2.2.2.2) S') ∧ MsAt S' (mL0 f0 tr s.1) ∧ SKeep S1 S') ∧ Fr a (a + 7) M1 s.2) → J g 0 0 n s.2 [some (.ref a), some (.int (iI (ofs tr s.1 : Int))), some (.int (iI (s.1 : Int)))] 45 [] := by
        refine loopJ (fun s => tr.length - s.1) _ _ ?_
        rintro ⟨t, M⟩ ⟨ht, ⟨S', hL, hms, hk⟩, hFr⟩ ih
        dsimp only at ht hL hms hk hFr ih ⊢
        have hs3 : S' 3 = tr.length := hk.2.trans k3
        refine J.iload_n (pc := 45) G dX0_measure_45 rfl ?_
        refine J.aload_n (pc := 46) G dX0_measure_46 rfl ?_
        refine J.getf (pc := 47) (ci := 0) G inX0 rfl 3 q90 dX0_measure_47 (hL.at 0 rfl) (by decide) rfl ?_
        refine J.icmp_geN (pc := 50) (tgt := 77) G dX0_measure_50 (by decide) (by omega) (by omega) (fun h9 => ?_) (fun h9 => ?_)
        · have e8 : t = tr.length := by omega
          subst e8
          obtain ⟨r1, r2, r3, r4, r5⟩ := mL0_rel (f1 := fun _ => 0) (tr := tr) h0 hl8 (Nat.le_refl _)
          obtain ⟨m1, m2, m3, m4⟩ := hms
          exact J.vret (pc := 77) G hO dX0_measure_77 (Nat.le_refl _) (Nat.le_refl _) ⟨rfl, rfl, ⟨_, S', hL, ⟨hs3, by rw [hk.1, k2]; exact g2, g5, g1, fun i hi => absurd hi (Nat.not_lt_zero i)⟩, ⟨m1.trans r1, m2.trans r2, m3.trans r3, m4.trans r4⟩, r5⟩, hM1 ▸ hFr⟩
        · have ht2 : t < tr.length := by omega
          have b9 : ofs tr (t + 1) ≤ 120 := Nat.le_trans (ofs_le (by omega)) he120
          have a2 : A 2 t = ofs tr (t + 1) := g5 t ht2
          refine J.aload_n (pc := 53) G dX0_measure_53 rfl ?_
          refine J.iload_n (pc := 54) G dX0_measure_54 rfl ?_
          refine J.aload_n (pc := 55) G dX0_measure_55 rfl ?_
          refine J.getf (pc := 56) (ci := 0) G inX0 rfl 1 q88 dX0_measure_56 (hL.at 0 rfl) (by decide) rfl ?_
          refine J.iload_n (pc := 59) G dX0_measure_59 rfl ?_
          refine J.ialdN (pc := 60) G dX0_measure_60 (hL.at 2 rfl) (by omega) (by decide) ?_
          refine J.topv (b := iI (A 2 t : Int)) rfl ?_
          rw [a2, ofs_s]
          rw [ofs_s] at b9
          refine J.callV (pc := 61) (na := 2) G (c_measureTrace n M (b := ofs tr t) (t := tr.getD t []) (s := mL0 f0 tr t) hL hms upAN_s (g1 t ht2) (hl8 t ht2) b9) q194 q196 qp1 q197 q4 (by decide +kernel) dX0_measure_61 (hL.at 0 rfl) rfl rfl (Nat.le_of_ble_eq_true rfl) rfl ⟨by omega, by decide, by omega, by omega⟩ ?_
          rintro r9 n9 M ⟨hr9, hn9, ⟨⟨S9, hL9, hms9, hk9⟩, hFr9⟩⟩
          subst hr9
          rw [hn9]
          clear hn9 n9
          dsimp only [Option.toList, List.cons_append, List.nil_append]
          rw [upAN2] at hL9
          clear hL
          have hL := hL9
          refine J.aload_n (pc := 64) G dX0_measure_64 rfl ?_
          refine J.getf (pc := 65) (ci := 0) G inX0 rfl 1 q88 dX0_measure_65 (hL.at 0 rfl) (by decide) rfl ?_
          refine J.iload_n (pc := 68) G dX0_measure_68 rfl ?_
          refine J.ialdN (pc := 69) G dX0_measure_69 (hL.at 2 rfl) (by omega) (by decide) ?_
          refine J.topv (b := iI (A 2 t : Int)) rfl ?_
          rw [a2]
          refine J.istore_n (L' := [_, _, _]) (pc := 70) G dX0_measure_70 rfl (Nat.le_of_ble_eq_true rfl) rfl ?_
          refine J.iincN (L' := [_, _, _]) (pc := 71) G dX0_measure_71 1 rfl rfl rfl rfl ?_
          refine J.goto (tgt := 45) (pc := 74) G dX0_measure_74 (by decide) ?_
          exact ih (t + 1, M) ⟨by dsimp only; omega, ⟨S9, hL9, hms9, ⟨hk9.1.trans hk.1, hk9.2.trans hk.2⟩⟩, hFr.trans hFr9⟩ (by dsimp only; omega)
      exact K2 (0, M) ⟨Nat.zero_le _, ⟨S1, hL, ⟨k4, k5, k6, k7⟩, rfl, rfl⟩, hFr⟩
    · have hi8 : i < 8 := h
      refine J.aload_n (pc := 28) G dX0_measure_28 rfl ?_
      refine J.getf (pc := 29) (ci := 0) G inX0 rfl 8 q99 dX0_measure_29 (hL.at 0 rfl) (by decide) rfl ?_
      refine J.iload_n (pc := 32) G dX0_measure_32 rfl ?_
      refine J.iconstN (pc := 33) G dX0_measure_33 0 rfl ?_
      refine J.iastN (pc := 34) G dX0_measure_34 (hL.at 3 rfl) (by omega) (by decide) (fun M hput hag => ?_)
      have hL := logA3 hL hput hag
      have hFr := hFr.put hag (by omega) (by omega)
      clear hput hag
      refine J.iincN (L' := [_, _, _]) (pc := 35) G dX0_measure_35 1 rfl rfl rfl rfl ?_
      refine J.goto (tgt := 22) (pc := 38) G dX0_measure_38 (by decide) ?_
      rw [upAN2] at hL
      refine ih (i + 1, M) ⟨by dsimp only; omega, ?_, hFr⟩ (by dsimp only; omega)
      rw [← fillN_s]
      exact hL
  exact K1 (0, M) ⟨by omega, by rw [fillN_0, upAN_same]; exact hL, hFr⟩
end LOG12
