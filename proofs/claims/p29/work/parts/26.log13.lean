section LOG13
theorem LogOp.app {A : Nat → Nat → Nat} {S : Nat → Nat} {tr : List (List Nat)} {w : List Nat} {v : Nat} (h : LogOp A S tr w) : LogOp (upAN A 1 (upN (A 1) (S 2) v)) (upN S 2 (S 2 + 1)) tr (w ++ [v]) := by
  obtain ⟨h3, h2, h5, h1, hw⟩ := h
  have hoff : ∀ t, t < tr.length → ∀ i, i < (tr.getD t []).length → ofs tr t + i < S 2 := by
    intro t ht i hi
    have := ofs_le (tr := tr) (t := t + 1) (u := tr.length) (by omega)
    rw [ofs_s] at this
    have e : tot tr = ofs tr tr.length := rfl
    omega
  refine ⟨h3, ?_, h5, fun t ht i hi => ?_, fun i hi => ?_⟩
  · show S 2 + 1 = _
    rw [h2, List.length_append, List.length_singleton]; omega
  · show upN (A 1) (S 2) v (ofs tr t + i) = _
    rw [upN_n (by have := hoff t ht i hi; omega)]
    exact h1 t ht i hi
  · show upN (A 1) (S 2) v (tot tr + i) = _
    rw [gd_snoc]
    rw [List.length_append, List.length_singleton] at hi
    by_cases e : i = w.length
    · subst e; rw [if_pos rfl, h2, upN_s]
    · rw [if_neg e, upN_n (by omega)]; exact hw i (by omega)
theorem LogOp.close {A : Nat → Nat → Nat} {S : Nat → Nat} {tr : List (List Nat)} {w : List Nat} (h : LogOp A S tr w) : LogOp (upAN A 2 (upN (A 2) (S 3) (S 2))) (upN S 3 (S 3 + 1)) (tr ++ [w]) [] := by
  obtain ⟨h3, h2, h5, h1, hw⟩ := h
  have htot : tot (tr ++ [w]) = tot tr + w.length := by
    unfold tot
    rw [List.length_append, List.length_singleton]
    exact ofs_app1
  refine ⟨?_, ?_, fun t ht => ?_, fun t ht i hi => ?_, fun i hi => absurd hi (Nat.not_lt_zero i)⟩
  · show S 3 + 1 = _
    rw [h3, List.length_append, List.length_singleton]
  · show S 2 = _
    rw [htot, h2]; rfl
  · show upN (A 2) (S 3) (S 2) t = _
    rw [List.length_append, List.length_singleton] at ht
    by_cases e : t = tr.length
    · subst e; rw [h3, upN_s, ofs_app1, h2]; rfl
    · rw [upN_n (by omega), ofs_app (by omega)]; exact h5 t (by omega)
  · show A 1 (ofs (tr ++ [w]) t + i) = _
    rw [List.length_append, List.length_singleton] at ht
    rw [ofs_app (by omega)]
    rw [getD_app] at hi ⊢
    by_cases e : t = tr.length
    · subst e; rw [if_pos rfl] at hi ⊢; exact hw i hi
    · rw [if_neg e] at hi ⊢; exact h1 t (by omega) i hi
theorem LogOp.opn {A : Nat → Nat → Nat} {S : Nat → Nat} {tr : List (List Nat)} {w : List Nat} (h : LogOp A S tr w) : (if 0 < S 3 then A 2 (S 3 - 1) else 0) = tot tr := by
  obtain ⟨h3, -, h5, -⟩ := h
  by_cases e : 0 < S 3
  · rw [if_pos e, h5 _ (by omega), h3]
    rw [show tr.length - 1 + 1 = tr.length by omega]; rfl
  · rw [if_neg e]
    have : tr.length = 0 := by omega
    unfold tot; rw [this]; rfl
/-- the labels of a part out of a trace -/
def tkS (part : Nat) (sp : Bool) (s : List (List Nat) × List Nat) (x : Nat) : List (List Nat) × List Nat := if part.testBit x then (s.1, s.2 ++ [x]) else if sp && decide (s.2.length ≠ 0) then (s.1 ++ [s.2], []) else s
def tkT (part : Nat) (sp : Bool) (s : List (List Nat) × List Nat) (t : List Nat) (k : Nat) : List (List Nat) × List Nat := it (fun i s => tkS part sp s (gd t i)) s k
theorem tot_app {tr : List (List Nat)} {w : List Nat} : tot (tr ++ [w]) = tot tr + w.length := by
  unfold tot
  rw [List.length_append, List.length_singleton]
  exact ofs_app1
/-- how much has been taken; in pieces, each has a label -/
theorem tkT_tot {part : Nat} {sp : Bool} {s : List (List Nat) × List Nat} {t : List Nat} (k : Nat) : tot (tkT part sp s t k).1 + (tkT part sp s t k).2.length ≤ tot s.1 + s.2.length + k :=
  it_inv (fun i (q : List (List Nat) × List Nat) => tot q.1 + q.2.length ≤ tot s.1 + s.2.length + i) k (Nat.le_refl _) (fun i q _ hq => by
    unfold tkS
    split
    · dsimp only; rw [List.length_append, List.length_singleton]; omega
    · split
      · dsimp only; rw [tot_app]; simp; omega
      · omega)
theorem tkT_pc {part : Nat} {sp : Bool} {s : List (List Nat) × List Nat} {t : List Nat} (h : s.1.length ≤ tot s.1) (k : Nat) : (tkT part sp s t k).1.length ≤ tot (tkT part sp s t k).1 :=
  it_inv (fun i (q : List (List Nat) × List Nat) => q.1.length ≤ tot q.1) k h (fun i q _ hq => by
    unfold tkS
    split
    · exact hq
    · split
      · rename_i hc
        dsimp only
        rw [tot_app, List.length_append, List.length_singleton]
        simp at hc
        have := List.length_pos_iff.mpr hc.2
        omega
      · exact hq)
theorem tkT_keep {part : Nat} {s : List (List Nat) × List Nat} {t : List Nat} (k : Nat) : (tkT part false s t k).1 = s.1 :=
  it_inv (fun i (q : List (List Nat) × List Nat) => q.1 = s.1) k rfl (fun i q _ hq => by
    unfold tkS
    split
    · exact hq
    · simp only [Bool.false_and, Bool.false_eq_true, if_false]; exact hq)
theorem bIN (b : Bool) : bI b = iI ((if b then 1 else 0 : Nat) : Int) := by cases b <;> decide +kernel
set_option maxRecDepth 100000 in
set_option maxHeartbeats 4000000 in
theorem c_takeTrace (n : Nat) (M0 : AH) {a b o part : Nat} {sp : Bool} {A B : Nat → Nat → Nat} {S T : Nat → Nat} {tr : List (List Nat)} {w t : List Nat} (hL : Cl M0 a (logC a A S)) (hF : Cl M0 b (logC b B T)) (hab : a + 7 ≤ b ∨ b + 7 ≤ a) (hlg : LogOp A S tr w) (ht : ∀ i, i < t.length → B 1 (o + i) = gd t i) (hl8 : Lab8 t) (ho : o + t.length ≤ 120) (hpart : part < 256) (hev : tot tr + w.length + t.length ≤ 120) (htr : tr.length ≤ 120) (hsp : sp = true → tr.length ≤ tot tr) : Fn yX0_takeTrace cX0_takeTrace 7 none 1 [.ref a, .ref b, .int (iI (o : Int)), .int (iI ((o + t.length : Nat) : Int)), .int (iI (part : Int)), .int (bI sp)] n M0 0 0 (fun r n' M' => r = none ∧ n' = n ∧ (∃ A' S', Cl M' a (logC a A' S') ∧ LogOp A' S' (tkT part sp (tr, w) t t.length).1 (tkT part sp (tr, w) t t.length).2) ∧ Fr a (a + 7) M0 M') := by
  rw [bIN]
  refine Fn.of (by decide) [some _, some _, some _, some _, some _, some _, none] rfl rfl (Nat.le_of_ble_eq_true rfl) ?_
  intro g G hin hO
  refine J.iload_n (pc := 0) G dX0_takeTrace_0 rfl ?_
  refine J.istore (L' := [_, _, _, _, _, _, _]) (pc := 1) G dX0_takeTrace_1 rfl (Nat.le_of_ble_eq_true rfl) rfl ?_
  have K1 : ∀ s : Nat × AH, (s.1 ≤ t.length ∧ (∃ A' S', Cl s.2 a (logC a A' S') ∧ LogOp A' S' (tkT part sp (tr, w) t s.1).1 (tkT part sp (tr, w) t s.1).2) ∧ Fr a (a + 7) M0 s.2) → J g 0 0 n s.2 [some (.ref a), some (.ref b), some (.int (iI (o : Int))), some (.int (iI ((o + t.length : Nat) : Int))), some (.int (iI (part : Int))), some (.int (iI ((if sp then 1 else 0 : Nat) : Int))), some (.int (iI ((o + s.1 : Nat) : Int)))] 3 [] := by
    refine loopJ (fun s => t.length - s.1) _ _ ?_
    rintro ⟨i, M⟩ ⟨hi, ⟨A', S', hL, hlg⟩, hFr⟩ ih
    dsimp only at hi hL hlg hFr ih ⊢
    have hF : Cl M b (logC b B T) := hF.fr hFr (by simp; omega)
    have hstep : tkT part sp (tr, w) t (i + 1) = tkS part sp (tkT part sp (tr, w) t i) (gd t i) := rfl
    have htot := tkT_tot (part := part) (sp := sp) (s := (tr, w)) (t := t) i
    have hpc : sp = true → (tkT part sp (tr, w) t i).1.length ≤ tot (tkT part sp (tr, w) t i).1 := fun q => tkT_pc (s := (tr, w)) (hsp q) i
    have hkp : sp = false → (tkT part sp (tr, w) t i).1 = tr := fun q => by rw [q]; exact tkT_keep i
    have hend : i = t.length → tkT part sp (tr, w) t i = tkT part sp (tr, w) t t.length := fun e => by rw [e]
    generalize hq : tkT part sp (tr, w) t i = q at hlg hstep htot hpc hkp hend
    obtain ⟨qs, v⟩ := q
    dsimp only at hlg hstep htot hpc hkp hend
    obtain ⟨g3, g2, -⟩ := id hlg
    have hqs : qs.length ≤ 120 := by
      cases hb : sp
      · rw [hkp hb]; exact htr
      · have := hpc hb; omega
    refine J.iload (pc := 3) G dX0_takeTrace_3 rfl ?_
    refine J.iload_n (pc := 5) G dX0_takeTrace_5 rfl ?_
    refine J.icmp_geN (pc := 6) (tgt := 64) G dX0_takeTrace_6 (by decide) (by omega) (by omega) (fun h => ?_) (fun h => ?_)
    · have e9 := hend (by omega)
      exact J.vret (pc := 64) G hO dX0_takeTrace_64 (Nat.le_refl _) (Nat.le_refl _) ⟨rfl, rfl, ⟨A', S', hL, by rw [← e9]; exact hlg⟩, hFr⟩
    · have hi2 : i < t.length := by omega
      have x1 : B 1 (o + i) = gd t i := ht i hi2
      have x8 := hl8 i hi2
      have nxt : ∀ (M : AH) (A' : Nat → Nat → Nat) (S' : Nat → Nat), Cl M a (logC a A' S') → LogOp A' S' (tkT part sp (tr, w) t (i + 1)).1 (tkT part sp (tr, w) t (i + 1)).2 → Fr a (a + 7) M0 M → J g 0 0 n M [some (.ref a), some (.ref b), some (.int (iI (o : Int))), some (.int (iI ((o + t.length : Nat) : Int))), some (.int (iI (part : Int))), some (.int (iI ((if sp then 1 else 0 : Nat) : Int))), some (.int (iI ((o + i : Nat) : Int)))] 58 [] := by
        intro M A' S' hL hlg hFr
        refine J.iincN (L' := [_, _, _, _, _, _, _]) (pc := 58) G dX0_takeTrace_58 1 rfl rfl rfl rfl ?_
        refine J.goto (tgt := 3) (pc := 61) G dX0_takeTrace_61 (by decide) ?_
        exact ih (i + 1, M) ⟨by dsimp only; omega, ⟨A', S', hL, hlg⟩, hFr⟩ (by dsimp only; omega)
      refine J.iload (pc := 9) G dX0_takeTrace_9 rfl ?_
      refine J.aload_n (pc := 11) G dX0_takeTrace_11 rfl ?_
      refine J.getf (pc := 12) (ci := 0) G inX0 rfl 0 q87 dX0_takeTrace_12 (hF.at 0 rfl) (by decide) rfl ?_
      refine J.iload (pc := 15) G dX0_takeTrace_15 rfl ?_
      refine J.ialdN (pc := 17) G dX0_takeTrace_17 (hF.at 1 rfl) (by omega) (by decide) ?_; rw [x1]
      refine J.callSN (pc := 18) (na := 2) G (c_contains n M (m := part) (l := gd t i) (by omega) (by omega)) (mem_nw 3) q248 q249 q1 (by decide +kernel) dX0_takeTrace_18 rfl (Nat.le_of_ble_eq_true rfl) rfl ⟨by omega, by decide, by omega, by omega⟩ ?_
      rintro r9 n9 M9 ⟨hr9, hn9, hM9⟩
      subst hr9
      rw [hn9, hM9]
      clear hn9 hM9 n9 M9
      dsimp only [Option.toList, List.cons_append, List.nil_append]
      refine J.if_eq_b (pc := 21) (tgt := 38) G dX0_takeTrace_21 (by decide) (fun hc => ?_) (fun hc => ?_)
      · have hs2 : tkS part sp (qs, v) (gd t i) = if sp && decide (v.length ≠ 0) then (qs ++ [v], []) else (qs, v) := by unfold tkS; rw [hc]; rfl
        rw [hs2] at hstep
        refine J.iload (pc := 38) G dX0_takeTrace_38 rfl ?_
        refine J.if_eqN (pc := 40) (tgt := 58) G dX0_takeTrace_40 (by decide) (by split <;> omega) (fun h9 => ?_) (fun h9 => ?_)
        · have hb : sp = false := by cases sp <;> simp_all
          refine nxt M A' S' hL ?_ hFr
          rw [hstep, hb]; exact hlg
        · have hb : sp = true := by cases sp <;> simp_all
          refine J.aload_n (pc := 43) G dX0_takeTrace_43 rfl ?_
          refine J.getf (pc := 44) (ci := 0) G inX0 rfl 2 q89 dX0_takeTrace_44 (hL.at 0 rfl) (by decide) rfl ?_
          refine J.aload_n (pc := 47) G dX0_takeTrace_47 rfl ?_
          refine J.callV (pc := 48) (na := 0) G (c_openStart n M hL (by omega)) q312 q314 qp20 q315 q4 (by decide +kernel) dX0_takeTrace_48 (hL.at 0 rfl) rfl rfl (Nat.le_of_ble_eq_true rfl) rfl ⟨by omega, by decide, by omega, by omega⟩ ?_
          rintro r9 n9 M9 ⟨hr9, hn9, hM9⟩
          subst hr9
          rw [hn9, hM9]
          clear hn9 hM9 n9 M9
          dsimp only [Option.toList, List.cons_append, List.nil_append]
          rw [hlg.opn]
          have htq : tot qs ≤ 120 := by omega
          refine J.icmp_leN (pc := 51) (tgt := 58) G dX0_takeTrace_51 (by decide) (by omega) (by omega) (fun h5 => ?_) (fun h5 => ?_)
          · refine nxt M A' S' hL ?_ hFr
            have : v.length = 0 := by omega
            rw [hstep, hb, if_neg (by simp; exact List.eq_nil_of_length_eq_zero this)]; exact hlg
          · have hv : v.length ≠ 0 := by omega
            have hq1 : qs.length < 120 := by have := hpc hb; omega
            refine J.aload_n (pc := 54) G dX0_takeTrace_54 rfl ?_
            refine J.callV (pc := 55) (na := 0) G (c_closeTrace n M hL (by omega)) q316 q187 q188 q189 q4 (by decide +kernel) dX0_takeTrace_55 (hL.at 0 rfl) rfl rfl (Nat.le_of_ble_eq_true rfl) rfl ⟨by omega, by decide, by omega, by omega⟩ ?_
            rintro r9 n9 M ⟨hr9, hn9, ⟨hL, hFr2⟩⟩
            subst hr9
            rw [hn9]
            clear hn9 n9
            dsimp only [Option.toList, List.cons_append, List.nil_append]
            refine nxt M _ _ hL ?_ (hFr.trans hFr2)
            rw [hstep, hb, decide_eq_true hv]; exact hlg.close
      · have hs2 : tkS part sp (qs, v) (gd t i) = (qs, v ++ [gd t i]) := by unfold tkS; rw [hc]; rfl
        rw [hs2] at hstep
        refine J.aload_n (pc := 24) G dX0_takeTrace_24 rfl ?_
        refine J.aload_n (pc := 25) G dX0_takeTrace_25 rfl ?_
        refine J.getf (pc := 26) (ci := 0) G inX0 rfl 0 q87 dX0_takeTrace_26 (hF.at 0 rfl) (by decide) rfl ?_
        refine J.iload (pc := 29) G dX0_takeTrace_29 rfl ?_
        refine J.ialdN (pc := 31) G dX0_takeTrace_31 (hF.at 1 rfl) (by omega) (by decide) ?_; rw [x1]
        refine J.callV (pc := 32) (na := 1) G (c_append n M (v := gd t i) hL (by omega)) q311 q183 q184 q185 q4 (by decide +kernel) dX0_takeTrace_32 (hL.at 0 rfl) rfl rfl (Nat.le_of_ble_eq_true rfl) rfl ⟨by omega, by decide, by omega, by omega⟩ ?_
        rintro r9 n9 M ⟨hr9, hn9, ⟨hL, hFr2⟩⟩
        subst hr9
        rw [hn9]
        clear hn9 n9
        dsimp only [Option.toList, List.cons_append, List.nil_append]
        refine J.goto (tgt := 58) (pc := 35) G dX0_takeTrace_35 (by decide) ?_
        refine nxt M _ _ hL ?_ (hFr.trans hFr2)
        rw [hstep]; exact hlg.app
  exact K1 (0, M0) ⟨Nat.zero_le _, ⟨A, S, hL, hlg⟩, Fr.rf⟩
end LOG13
