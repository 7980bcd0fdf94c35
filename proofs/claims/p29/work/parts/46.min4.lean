section MIN4
/-- the labels of a stored trace, as far as place i -/
def rwL (A : Nat → Nat → Nat) (t i : Nat) : List Nat := (List.range i).map (fun j => A 2 (t * 12 + j))
theorem rwL_s {A : Nat → Nat → Nat} {t i : Nat} : rwL A t (i + 1) = rwL A t i ++ [A 2 (t * 12 + i)] := by
  unfold rwL
  rw [List.range_succ, List.map_append]; rfl
theorem rwL_len {A : Nat → Nat → Nat} {t i : Nat} : (rwL A t i).length = i := by unfold rwL; rw [List.length_map, List.length_range]
theorem rwL_gd {A : Nat → Nat → Nat} {t i j : Nat} (h : j < i) : gd (rwL A t i) j = A 2 (t * 12 + j) := by
  unfold rwL gd
  rw [List.getD_eq_getElem?_getD, List.getElem?_map, List.getElem?_range h]; rfl
/-- the log of the stored traces with a time or more -/
def lgN (A : Nat → Nat → Nat) (k : Nat) : List (List Nat) := it (fun t l => if 0 < A 4 t then l ++ [rwL A t (A 3 t)] else l) [] k
def lgOf (A : Nat → Nat → Nat) (S : Nat → Nat) : List (List Nat) := lgN A (S 5)
theorem tot_snoc {tr : List (List Nat)} {w : List Nat} : tot (tr ++ [w]) = tot tr + w.length := by
  unfold tot
  rw [List.length_append, List.length_singleton, ofs_app1]
theorem lgN_ok {A : Nat → Nat → Nat} {S : Nat → Nat} (hok : MnOk A S) {k : Nat} (hk : k ≤ 10) : LabL (lgN A k) ∧ (lgN A k).length ≤ k ∧ tot (lgN A k) ≤ 12 * k :=
  it_inv (fun k l => LabL l ∧ l.length ≤ k ∧ tot l ≤ 12 * k) k ⟨fun t ht => absurd ht (Nat.not_lt_zero t), Nat.le_refl _, Nat.le_refl _⟩ (fun t l ht hl => by
    obtain ⟨-, -, -, -, hev, hle, -⟩ := hok
    have h3 := hle t (by omega)
    by_cases h : 0 < A 4 t
    · rw [if_pos h]
      refine ⟨hl.1.app (fun i hi => ?_), ?_, ?_⟩
      · rw [rwL_len] at hi
        rw [rwL_gd hi]
        exact hev _ (by omega)
      · rw [List.length_append, List.length_singleton]; have := hl.2.1; omega
      · rw [tot_snoc, rwL_len]; have := hl.2.2; omega
    · rw [if_neg h]
      exact ⟨hl.1, by have := hl.2.1; omega, by have := hl.2.2; omega⟩)
theorem lgOf_good {A : Nat → Nat → Nat} {S : Nat → Nat} (hok : MnOk A S) : GoodL (lgOf A S) := by
  have h5 := hok.2.1
  obtain ⟨h1, h2, h3⟩ := lgN_ok hok h5
  exact ⟨h1, by unfold lgOf; omega, by unfold lgOf; omega⟩
set_option maxRecDepth 100000 in
set_option maxHeartbeats 4000000 in
theorem c_readLog (n : Nat) (M0 : AH) {a : Nat} {A : Nat → Nat → Nat} {S : Nat → Nat} (hX : Cl M0 a (minC a A S)) (hok : MnOk A S) (hL0 : ∃ B T, Cl M0 (a + 16) (logC (a + 16) B T)) : Fn yX3_readLog cX3_readLog 4 (some (.object "ProcessMiner$Log")) 2 [.ref a] n M0 0 0 (fun r n' M' => r = some (.ref (a + 16)) ∧ n' = n ∧ (∃ B T, Cl M' (a + 16) (logC (a + 16) B T) ∧ LogM B T (lgOf A S)) ∧ Fr (a + 16) (a + 23) M0 M') := by
  refine Fn.of (by decide) [some _, none, none, none] rfl rfl (Nat.le_of_ble_eq_true rfl) ?_
  intro g G hin hO
  obtain ⟨h1, h5, h9, hbu, hev, hle, hti⟩ := id hok
  obtain ⟨B0, T0, hL⟩ := hL0
  refine J.aload_n (pc := 0) G dX3_readLog_0 rfl ?_
  refine J.getf (pc := 1) (ci := 3) G inX3 rfl 6 q141 dX3_readLog_1 (hX.at 0 rfl) (by decide) rfl ?_
  refine J.iconstN (pc := 4) G dX3_readLog_4 0 rfl ?_
  refine J.aald (pc := 5) G dX3_readLog_5 (hX.at 5 rfl) (Or.inr rfl) 0 rfl (by decide) (by decide) rfl ?_
  rw [show a + 16 + 7 * 0 = a + 16 from rfl]
  refine J.astore_n (L' := [_, _, _, _]) (pc := 6) G dX3_readLog_6 rfl (Nat.le_of_ble_eq_true rfl) rfl ?_
  refine J.aload_n (pc := 7) G dX3_readLog_7 rfl ?_
  refine J.callV (pc := 8) (na := 0) G (c_clear n M0 hL) q178 q179 q180 q181 q4 (by decide +kernel) dX3_readLog_8 (hL.at 0 rfl) rfl rfl (Nat.le_of_ble_eq_true rfl) rfl ⟨by omega, by decide, by omega, by omega⟩ ?_
  rintro r9 n9 M1 ⟨hr9, hn9, ⟨hL1, hFr1⟩⟩
  subst hr9
  rw [hn9]
  clear hn9 n9
  dsimp only [Option.toList, List.cons_append, List.nil_append]
  refine J.iconstN (pc := 11) G dX3_readLog_11 0 rfl ?_
  refine J.istore_n (L' := [_, _, _, _]) (pc := 12) G dX3_readLog_12 rfl (Nat.le_of_ble_eq_true rfl) rfl ?_
  have K1 : ∀ q : Nat × AH, (q.1 ≤ S 5 ∧ (∃ B T, Cl q.2 (a + 16) (logC (a + 16) B T) ∧ LogOp B T (lgN A q.1) []) ∧ Fr (a + 16) (a + 23) M0 q.2) → ∀ l3, J g 0 0 n q.2 [some (.ref a), some (.ref (a + 16)), some (.int (iI (q.1 : Int))), l3] 13 [] := by
    refine loopJ (fun q => S 5 - q.1) _ _ ?_
    clear hL hL1 hFr1
    rintro ⟨t, M⟩ ⟨ht, ⟨B, T, hL, hlg⟩, hFr⟩ ih l3
    dsimp only at ht hL hlg hFr ih ⊢
    have hX := hX.fr hFr (by simp)
    have hlk := lgN_ok hok (k := t) (by omega)
    have hstep : lgN A (t + 1) = if 0 < A 4 t then lgN A t ++ [rwL A t (A 3 t)] else lgN A t := rfl
    refine J.iload_n (pc := 13) G dX3_readLog_13 rfl ?_
    refine J.aload_n (pc := 14) G dX3_readLog_14 rfl ?_
    refine J.getf (pc := 15) (ci := 3) G inX3 rfl 5 q140 dX3_readLog_15 (hX.at 0 rfl) (by decide) rfl ?_
    refine J.icmp_geN (pc := 18) (tgt := 73) G dX3_readLog_18 (by decide) (by omega) (by omega) (fun h => ?_) (fun h => ?_)
    · have hte : t = S 5 := by omega
      subst hte
      refine J.aload_n (pc := 73) G dX3_readLog_73 rfl ?_
      have hgd := lgOf_good hok
      refine J.callV (pc := 74) (na := 0) G (c_measure n M hL hlg hgd.1 hgd.2.1 hgd.2.2) q190 q191 q192 q193 q4 (by decide +kernel) dX3_readLog_74 (hL.at 0 rfl) rfl rfl (Nat.le_of_ble_eq_true rfl) rfl ⟨by omega, by decide, by omega, by omega⟩ ?_
      rintro r9 n9 M7 ⟨hr9, hn9, ⟨hL7, hFr7⟩⟩
      subst hr9
      rw [hn9]
      clear hn9 n9
      dsimp only [Option.toList, List.cons_append, List.nil_append]
      refine J.aload_n (pc := 77) G dX3_readLog_77 rfl ?_
      refine J.aret (pc := 78) G (Or.inl ⟨_, rfl⟩) hO dX3_readLog_78 (Nat.le_refl _) (Nat.le_refl _) ⟨rfl, rfl, ?_, hFr.trans hFr7⟩
      obtain ⟨B7, T7, hC7, hI7, hM7, hN7⟩ := hL7
      exact ⟨B7, T7, hC7, hI7, hM7, hN7⟩
    · have h3 := hle t (by omega)
      have h4 := hti t (by omega)
      have nx : ∀ (M : AH) l3, (∃ B T, Cl M (a + 16) (logC (a + 16) B T) ∧ LogOp B T (lgN A (t + 1)) []) → Fr (a + 16) (a + 23) M0 M → J g 0 0 n M [some (.ref a), some (.ref (a + 16)), some (.int (iI (t : Int))), l3] 67 [] := by
        intro M l3 hL hFr
        refine J.iincN (L' := [_, _, _, _]) (pc := 67) G dX3_readLog_67 1 rfl rfl rfl rfl ?_
        refine J.goto (pc := 70) (tgt := 13) G dX3_readLog_70 (by decide) ?_
        exact ih (t + 1, M) ⟨by dsimp only; omega, hL, hFr⟩ (by dsimp only; omega) l3
      refine J.aload_n (pc := 21) G dX3_readLog_21 rfl ?_
      refine J.getf (pc := 22) (ci := 3) G inX3 rfl 4 q139 dX3_readLog_22 (hX.at 0 rfl) (by decide) rfl ?_
      refine J.iload_n (pc := 25) G dX3_readLog_25 rfl ?_
      refine J.ialdN (pc := 26) G dX3_readLog_26 (hX.at 4 rfl) (by omega) (by decide) ?_
      refine J.if_le (pc := 27) (tgt := 67) G dX3_readLog_27 (by decide) (by omega) (by omega) (fun h0 => ?_) (fun h0 => ?_)
      · exact nx M l3 (by rw [hstep, if_neg (by omega)]; exact ⟨B, T, hL, hlg⟩) hFr
      · rw [if_pos (by omega)] at hstep
        refine J.iconstN (pc := 30) G dX3_readLog_30 0 rfl ?_
        refine J.istore_n (L' := [_, _, _, _]) (pc := 31) G dX3_readLog_31 rfl (Nat.le_of_ble_eq_true rfl) rfl ?_
        have K2 : ∀ q : Nat × AH, (q.1 ≤ A 3 t ∧ (∃ B T, Cl q.2 (a + 16) (logC (a + 16) B T) ∧ LogOp B T (lgN A t) (rwL A t q.1)) ∧ Fr (a + 16) (a + 23) M0 q.2) → J g 0 0 n q.2 [some (.ref a), some (.ref (a + 16)), some (.int (iI (t : Int))), some (.int (iI (q.1 : Int)))] 32 [] := by
          refine loopJ (fun q => A 3 t - q.1) _ _ ?_
          clear hL hlg hX hFr
          rintro ⟨i, M⟩ ⟨hi, ⟨B, T, hL, hlg⟩, hFr⟩ ih2
          dsimp only at hi hL hlg hFr ih2 ⊢
          have hX := hX.fr hFr (by simp)
          have hT2 := hlg.2.1
          rw [rwL_len] at hT2
          have hT3 := hlg.1
          refine J.iload_n (pc := 32) G dX3_readLog_32 rfl ?_
          refine J.aload_n (pc := 33) G dX3_readLog_33 rfl ?_
          refine J.getf (pc := 34) (ci := 3) G inX3 rfl 3 q138 dX3_readLog_34 (hX.at 0 rfl) (by decide) rfl ?_
          refine J.iload_n (pc := 37) G dX3_readLog_37 rfl ?_
          refine J.ialdN (pc := 38) G dX3_readLog_38 (hX.at 3 rfl) (by omega) (by decide) ?_
          refine J.icmp_geN (pc := 39) (tgt := 63) G dX3_readLog_39 (by decide) (by omega) (by omega) (fun h2 => ?_) (fun h2 => ?_)
          · have hie : i = A 3 t := by omega
            subst hie
            refine J.aload_n (pc := 63) G dX3_readLog_63 rfl ?_
            refine J.callV (pc := 64) (na := 0) G (c_closeTrace n M hL (by omega)) q186 q187 q188 q189 q4 (by decide +kernel) dX3_readLog_64 (hL.at 0 rfl) rfl rfl (Nat.le_of_ble_eq_true rfl) rfl ⟨by omega, by decide, by omega, by omega⟩ ?_
            rintro r9 n9 M7 ⟨hr9, hn9, ⟨hL7, hFr7⟩⟩
            subst hr9
            rw [hn9]
            clear hn9 n9
            dsimp only [Option.toList, List.cons_append, List.nil_append]
            exact nx M7 _ (by rw [hstep]; exact ⟨_, _, hL7, hlg.close⟩) (hFr.trans hFr7)
          · refine J.aload_n (pc := 42) G dX3_readLog_42 rfl ?_
            refine J.aload_n (pc := 43) G dX3_readLog_43 rfl ?_
            refine J.getf (pc := 44) (ci := 3) G inX3 rfl 2 q137 dX3_readLog_44 (hX.at 0 rfl) (by decide) rfl ?_
            refine J.iload_n (pc := 47) G dX3_readLog_47 rfl ?_
            refine J.bipushN (pc := 48) G dX3_readLog_48 12 (by decide +kernel) ?_
            refine J.imulN (pc := 50) G dX3_readLog_50 ?_
            refine J.iload_n (pc := 51) G dX3_readLog_51 rfl ?_
            refine J.iaddN (pc := 52) G dX3_readLog_52 ?_
            refine J.ialdN (pc := 53) G dX3_readLog_53 (hX.at 2 rfl) (by omega) (by decide) ?_
            refine J.callV (pc := 54) (na := 1) G (c_append n M (v := A 2 (t * 12 + i)) hL (by omega)) q182 q183 q184 q185 q4 (by decide +kernel) dX3_readLog_54 (hL.at 0 rfl) rfl rfl (Nat.le_of_ble_eq_true rfl) rfl ⟨by omega, by decide, by omega, by omega⟩ ?_
            rintro r9 n9 M7 ⟨hr9, hn9, ⟨hL7, hFr7⟩⟩
            subst hr9
            rw [hn9]
            clear hn9 n9
            dsimp only [Option.toList, List.cons_append, List.nil_append]
            refine J.iincN (L' := [_, _, _, _]) (pc := 57) G dX3_readLog_57 1 rfl rfl rfl rfl ?_
            refine J.goto (pc := 60) (tgt := 32) G dX3_readLog_60 (by decide) ?_
            exact ih2 (i + 1, M7) ⟨by dsimp only; omega, by dsimp only; rw [rwL_s]; exact ⟨_, _, hL7, hlg.app⟩, hFr.trans hFr7⟩ (by dsimp only; omega)
        exact K2 (0, M) ⟨Nat.zero_le _, ⟨B, T, hL, hlg⟩, hFr⟩
  exact K1 (0, M1) ⟨Nat.zero_le _, ⟨_, _, hL1, ⟨rfl, rfl, fun t ht => absurd ht (Nat.not_lt_zero t), fun t ht => absurd ht (Nat.not_lt_zero t), fun t ht => absurd ht (Nat.not_lt_zero t)⟩⟩, hFr1⟩ _
end MIN4
