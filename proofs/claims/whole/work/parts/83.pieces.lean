section PIECES1
/-- what is closed, when the open piece is closed too -/
def clS (s : List (List Nat) × List Nat) : List (List Nat) := if s.2.length ≠ 0 then s.1 ++ [s.2] else s.1
theorem tkL_cl {part : Nat} {q : List (List Nat)} {t : List Nat} : tkL part true false q t = clS (tkT part true (q, []) t t.length) := by
  unfold tkL clS
  rw [Bool.false_or]
  by_cases h : (tkT part true (q, []) t t.length).2.length ≠ 0
  · rw [if_pos (decide_eq_true h), if_pos h]
  · rw [if_neg (by simpa using h), if_neg h]
theorem clS_off {part : Nat} {s : List (List Nat) × List Nat} {x : Nat} (h : part.testBit x = false) : tkS part true s x = (clS s, []) := by
  unfold tkS clS
  rw [h]
  simp only [Bool.false_eq_true, if_false, Bool.true_and, decide_eq_true_eq]
  split
  · rfl
  · rename_i h2
    have : s.2 = [] := List.length_eq_zero_iff.mp (by omega)
    rw [← this]
theorem clS_on {part : Nat} {s : List (List Nat) × List Nat} {x : Nat} (h : part.testBit x = true) : tkS part true s x = (s.1, s.2 ++ [x]) := by
  unfold tkS
  rw [if_pos h]
theorem clS_nil {l : List (List Nat)} : clS (l, []) = l := rfl
theorem clS_step {part : Nat} {s : List (List Nat) × List Nat} {x : Nat} : tot (clS s) ≤ tot (clS (tkS part true s x)) ∧ (clS s).length ≤ (clS (tkS part true s x)).length ∧ (clS (tkS part true s x)).length ≤ (clS s).length + 1 := by
  cases h : part.testBit x
  · rw [clS_off h, clS_nil]
    omega
  · rw [clS_on h]
    have e : clS (s.1, s.2 ++ [x]) = s.1 ++ [s.2 ++ [x]] := by
      unfold clS
      rw [if_pos (by simp)]
    rw [e, tot_app, List.length_append, List.length_append, List.length_singleton]
    unfold clS
    split
    · rw [tot_app, List.length_append, List.length_singleton]
      simp
    · rename_i h2
      simp
theorem clS_mono {part : Nat} {s : List (List Nat) × List Nat} {t : List Nat} {k : Nat} : ∀ e, tot (clS (tkT part true s t k)) ≤ tot (clS (tkT part true s t (k + e))) ∧ (clS (tkT part true s t k)).length ≤ (clS (tkT part true s t (k + e))).length
  | 0 => ⟨Nat.le_refl _, Nat.le_refl _⟩
  | e + 1 => by
    have h1 := clS_mono (part := part) (s := s) (t := t) (k := k) e
    have h2 := clS_step (part := part) (s := tkT part true s t (k + e)) (x := gd t (k + e))
    rw [show k + (e + 1) = k + e + 1 by omega, tkT_s]
    omega
theorem clS_cnt {part : Nat} {q : List (List Nat)} {t : List Nat} : ∀ k, (clS (tkT part true (q, []) t k)).length ≤ q.length + k
  | 0 => Nat.le_refl _
  | k + 1 => by
    have h1 := clS_cnt (part := part) (q := q) (t := t) k
    have h2 := clS_step (part := part) (s := tkT part true (q, []) t k) (x := gd t k)
    rw [tkT_s]
    omega
/-- a stretch of a trace -/
def slc (w : List Nat) (a k : Nat) : List Nat := it (fun i l => l ++ [gd w (a + i)]) [] k
theorem slc_len {w : List Nat} {a : Nat} : ∀ k, (slc w a k).length = k
  | 0 => rfl
  | k + 1 => by
    have : slc w a (k + 1) = slc w a k ++ [gd w (a + k)] := rfl
    rw [this, List.length_append, slc_len k]
    rfl
theorem slc_gd {w : List Nat} {a : Nat} : ∀ k i, i < k → gd (slc w a k) i = gd w (a + i)
  | 0, _, h => absurd h (Nat.not_lt_zero _)
  | k + 1, i, h => by
    have e : slc w a (k + 1) = slc w a k ++ [gd w (a + k)] := rfl
    rw [e, gd_snoc, slc_len]
    split
    · rename_i h2; rw [h2]
    · exact slc_gd k i (by omega)
theorem tkT_run {part : Nat} {s : List (List Nat) × List Nat} {w : List Nat} {a : Nat} {l : List (List Nat)} (h0 : tkT part true s w a = (l, [])) : ∀ k, (∀ j, j < k → part.testBit (gd w (a + j)) = true) → tkT part true s w (a + k) = (l, slc w a k)
  | 0, _ => h0
  | k + 1, h => by
    rw [show a + (k + 1) = a + k + 1 by omega, tkT_s, tkT_run h0 k (fun j hj => h j (by omega)), clS_on (h k (by omega))]
    rfl
set_option maxRecDepth 100000 in
set_option maxHeartbeats 4000000 in
theorem m_pieces (n : Nat) (M0 : AH) {b set : Nat} {tr : List (List Nat)} (hg : LgR M0 b tr) (hbn : ∀ q x, M0 q = some x → q < n) (hset : set < 256) (hl8 : LabL tr) (h1 : tr.length < 1000) (h2 : ∀ t, t < tr.length → (tr.getD t []).length ≤ 12) : Fn yX4_pieces cX4_pieces 10 (some (.array (.array .int))) 1 [.ref b, .int (iI (set : Int))] n M0 ((takeI set true false tr tr.length).length + 2) (12 * (tr.length + 1) + tot (takeI set true false tr tr.length) + (takeI set true false tr tr.length).length) (fun r n' M' => r = some (.ref (n + 1 + (takeI set true false tr tr.length).length)) ∧ n' = n + 2 + (takeI set true false tr tr.length).length ∧ LgB M' (n + 1 + (takeI set true false tr tr.length).length) (n + 1) (takeI set true false tr tr.length) ∧ ∀ q, q < n → M' q = M0 q) := by
  refine Fn.of (by decide) [some _, some _, none, none, none, none, none, none, none, none] rfl rfl (Nat.le_of_ble_eq_true rfl) ?_
  intro g G hin hO
  obtain ⟨f0, hb0, hr0⟩ := hg
  have hb9 := hbn _ _ hb0
  refine J.bipushN (pc := 0) G dX4_pieces_0 12 (by decide +kernel) ?_
  refine J.aload_n (pc := 2) G dX4_pieces_2 rfl ?_
  refine J.alenR (pc := 3) G dX4_pieces_3 hb0 (by decide) ?_
  refine J.iconstN (pc := 4) G dX4_pieces_4 1 rfl ?_
  refine J.iaddN (pc := 5) G dX4_pieces_5 ?_
  refine J.imulN (pc := 6) G dX4_pieces_6 ?_
  refine J.newR (pc := 7) G q816 dX4_pieces_7 (by omega) (by omega) (by omega) (fun M hput hag => ?_)
  refine J.astore_n (L' := [_, _, _, _, _, _, _, _, _, _]) (pc := 10) G dX4_pieces_10 rfl (Nat.le_of_ble_eq_true rfl) rfl ?_
  refine J.iconstN (pc := 11) G dX4_pieces_11 0 rfl ?_
  refine J.istore_n (L' := [_, _, _, _, _, _, _, _, _, _]) (pc := 12) G dX4_pieces_12 rfl (Nat.le_of_ble_eq_true rfl) rfl ?_
  refine J.aload_n (pc := 13) G dX4_pieces_13 rfl ?_
  refine J.astore (L' := [_, _, _, _, _, _, _, _, _, _]) (pc := 14) G dX4_pieces_14 rfl (Nat.le_of_ble_eq_true rfl) rfl ?_
  refine J.aload (pc := 16) G dX4_pieces_16 rfl ?_
  refine J.alenR (pc := 18) G dX4_pieces_18 ((hag b (by omega)).trans hb0) (by decide) ?_
  refine J.istore (L' := [_, _, _, _, _, _, _, _, _, _]) (pc := 19) G dX4_pieces_19 rfl (Nat.le_of_ble_eq_true rfl) rfl ?_
  refine J.iconstN (pc := 21) G dX4_pieces_21 0 rfl ?_
  refine J.istore (L' := [_, _, _, _, _, _, _, _, _, _]) (pc := 22) G dX4_pieces_22 rfl (Nat.le_of_ble_eq_true rfl) rfl ?_
  refine J.wid (k' := 1) (z' := 12 * (tr.length + 1)) (by omega) (by omega) ?_
  have K1 : ∀ s : Nat × List (List Nat) × AH, (s.1 ≤ tr.length ∧ s.2.1 = takeI set true false tr s.1 ∧ s.2.1.length ≤ 12 * s.1 ∧ LgP s.2.2 n (12 * (tr.length + 1)) s.2.1 (n + 1) (n + 1 + s.2.1.length) ∧ ∀ x, x < n → s.2.2 x = M0 x) → ∀ l7 l8 l9, J g (1 + s.2.1.length) (12 * (tr.length + 1) + tot s.2.1) (n + 1 + s.2.1.length) s.2.2 [some (.ref b), some (.int (iI (set : Int))), some (.ref n), some (.int (iI (s.2.1.length : Int))), some (.ref b), some (.int (iI (tr.length : Int))), some (.int (iI (s.1 : Int))), l7, l8, l9] 24 [] := by
    refine loopJ (fun s => tr.length - s.1) _ _ ?_
    clear hput hag M
    rintro ⟨t, q0, M⟩ ⟨ht, hq, hql, hP, hFr⟩ ih l7 l8 l9
    dsimp only at ht hq hql hP hFr ih ⊢
    have hqm := takeI_le (part := set) (sp := true) (keep := false) (tr := tr) ht
    rw [← hq] at hqm
    obtain ⟨f, hbf, hrf⟩ := id hP
    refine J.iload (pc := 24) G dX4_pieces_24 rfl ?_
    refine J.iload (pc := 26) G dX4_pieces_26 rfl ?_
    refine J.icmp_geN (pc := 28) (tgt := 135) G dX4_pieces_28 (by decide) (by omega) (by omega) (fun h => ?_) (fun h => ?_)
    · have hte : t = tr.length := by omega
      have hqe : takeI set true false tr tr.length = q0 := by rw [hq, hte]
      have hqt : tot (takeI set true false tr tr.length) = tot q0 := by rw [hqe]
      refine J.aload_n (pc := 135) G dX4_pieces_135 rfl ?_
      refine J.iload_n (pc := 136) G dX4_pieces_136 rfl ?_
      refine J.callS (pc := 137) (na := 2) G (m_shortened (n + 1 + q0.length) M (k := q0.length) hbf (by omega) (by omega) (by omega) (fun j hj => by obtain ⟨r, e, g1, g2, g3, g4, -⟩ := hrf j hj; exact ⟨r, _, e, g1, g3, g4⟩)) q818 q819 q820 q5 (by decide +kernel) dX4_pieces_137 rfl (Nat.le_of_ble_eq_true rfl) rfl ⟨by omega, by decide, by omega, by omega⟩ ?_
      rintro r9 n9 M9 ⟨hr9, hn9, hM9, hag9⟩
      dsimp only [Option.toList, List.cons_append, List.nil_append]
      subst hr9
      subst hn9
      dsimp only [Option.toList, List.cons_append, List.nil_append]
      exact J.aret (pc := 140) G (Or.inr ⟨_, rfl⟩) hO dX4_pieces_140 (by omega) (by omega) ⟨by rw [hqe], by rw [hqe]; omega, by rw [hqe]; exact LgR.short hP (by omega) hbf hM9 hag9 (by omega), fun x hx => (hag9 x (by omega)).trans (hFr x hx)⟩
    · obtain ⟨r, e, hf, hM0, he⟩ := hr0 t h
      have hrn := hbn _ _ hM0
      have hlt := h2 t h
      have hl9 := hl8 t h
      have hqm1 := takeI_le (part := set) (sp := true) (keep := false) (tr := tr) (show t + 1 ≤ tr.length by omega)
      have hstep : takeI set true false tr (t + 1) = tkL set true false q0 (tr.getD t []) := by rw [hq]; rfl
      rw [tkL_cl] at hstep
      rw [hstep] at hqm1
      generalize tr.getD t [] = w at hstep hM0 he hlt hl9 hqm1
      clear hbf hrf f
      refine J.aload (pc := 31) G dX4_pieces_31 rfl ?_
      refine J.iload (pc := 33) G dX4_pieces_33 rfl ?_
      refine J.aald (pc := 35) G dX4_pieces_35 ((hFr b hb9).trans hb0) (Or.inl rfl) t rfl h (by omega) hf ?_
      refine J.astore (L' := [_, _, _, _, _, _, _, _, _, _]) (pc := 36) G dX4_pieces_36 rfl (Nat.le_of_ble_eq_true rfl) rfl ?_
      refine J.iconstN (pc := 38) G dX4_pieces_38 0 rfl ?_
      refine J.istore (L' := [_, _, _, _, _, _, _, _, _, _]) (pc := 39) G dX4_pieces_39 rfl (Nat.le_of_ble_eq_true rfl) rfl ?_
      have K2 : ∀ s : Nat × List (List Nat) × AH, (s.1 ≤ w.length ∧ s.2.1 = clS (tkT set true (q0, []) w s.1) ∧ ((tkT set true (q0, []) w s.1).2 = [] ∨ s.1 = w.length ∨ set.testBit (gd w s.1) = false) ∧ LgP s.2.2 n (12 * (tr.length + 1)) s.2.1 (n + 1) (n + 1 + s.2.1.length) ∧ ∀ x, x < n → s.2.2 x = M0 x) → ∀ l9, J g (1 + s.2.1.length) (12 * (tr.length + 1) + tot s.2.1) (n + 1 + s.2.1.length) s.2.2 [some (.ref b), some (.int (iI (set : Int))), some (.ref n), some (.int (iI (s.2.1.length : Int))), some (.ref b), some (.int (iI (tr.length : Int))), some (.int (iI (t : Int))), some (.ref r), some (.int (iI (s.1 : Int))), l9] 41 [] := by
        refine loopJ (fun s => w.length - s.1) _ _ ?_
        clear hP hFr M
        rintro ⟨fr, q, M⟩ ⟨hfr, hqc, hal, hP, hFr⟩ ih2 l9
        dsimp only at hfr hqc hal hP hFr ih2 ⊢
        have hM := (hFr r hrn).trans hM0
        have hcnt := clS_cnt (part := set) (q := q0) (t := w) fr
        rw [← hqc] at hcnt
        refine J.iload (pc := 41) G dX4_pieces_41 rfl ?_
        refine J.aload (pc := 43) G dX4_pieces_43 rfl ?_
        refine J.alenI (pc := 45) G dX4_pieces_45 hM ?_
        refine J.icmp_geN (pc := 46) (tgt := 129) G dX4_pieces_46 (by decide) (by omega) (by omega) (fun h5 => ?_) (fun h5 => ?_)
        · have hfe : fr = w.length := by omega
          rw [hfe, ← hstep] at hqc
          refine J.iincN (L' := [_, _, _, _, _, _, _, _, _, _]) (pc := 129) G dX4_pieces_129 1 rfl rfl rfl rfl ?_
          refine J.goto (pc := 132) (tgt := 24) G dX4_pieces_132 (by decide) ?_
          exact ih (t + 1, q, M) ⟨by dsimp only; omega, hqc, by dsimp only; omega, hP, hFr⟩ (by dsimp only; omega) _ _ _
        · refine J.iload (pc := 49) G dX4_pieces_49 rfl ?_
          refine J.istore (L' := [_, _, _, _, _, _, _, _, _, _]) (pc := 51) G dX4_pieces_51 rfl (Nat.le_of_ble_eq_true rfl) rfl ?_
          have K79 : ∀ d : Nat, fr + d ≤ w.length → (∀ j, j < d → set.testBit (gd w (fr + j)) = true) → (fr + d = w.length ∨ set.testBit (gd w (fr + d)) = false) → J g (1 + q.length) (12 * (tr.length + 1) + tot q) (n + 1 + q.length) M [some (.ref b), some (.int (iI (set : Int))), some (.ref n), some (.int (iI (q.length : Int))), some (.ref b), some (.int (iI (tr.length : Int))), some (.int (iI (t : Int))), some (.ref r), some (.int (iI (fr : Int))), some (.int (iI ((fr + d : Nat) : Int)))] 79 [] := by
            intro d hd hmem hend
            have K115 : ∀ (q' : List (List Nat)) (M' : AH), q' = clS (tkT set true (q0, []) w (max (fr + d) (fr + 1))) → ((tkT set true (q0, []) w (max (fr + d) (fr + 1))).2 = [] ∨ max (fr + d) (fr + 1) = w.length ∨ set.testBit (gd w (max (fr + d) (fr + 1))) = false) → LgP M' n (12 * (tr.length + 1)) q' (n + 1) (n + 1 + q'.length) → (∀ x, x < n → M' x = M0 x) → J g (1 + q'.length) (12 * (tr.length + 1) + tot q') (n + 1 + q'.length) M' [some (.ref b), some (.int (iI (set : Int))), some (.ref n), some (.int (iI (q'.length : Int))), some (.ref b), some (.int (iI (tr.length : Int))), some (.int (iI (t : Int))), some (.ref r), some (.int (iI (fr : Int))), some (.int (iI ((fr + d : Nat) : Int)))] 115 [] := by
              intro q' M' a1 a2 a3 a4
              have hcnt' := clS_cnt (part := set) (q := q0) (t := w) (max (fr + d) (fr + 1))
              have hmo := clS_mono (part := set) (s := (q0, [])) (t := w) (k := max (fr + d) (fr + 1)) (w.length - max (fr + d) (fr + 1))
              rw [show max (fr + d) (fr + 1) + (w.length - max (fr + d) (fr + 1)) = w.length by omega, ← a1] at hmo
              rw [← a1] at hcnt'
              refine J.iload (pc := 115) G dX4_pieces_115 rfl ?_
              refine J.iload (pc := 117) G dX4_pieces_117 rfl ?_
              refine J.iconstN (pc := 119) G dX4_pieces_119 1 rfl ?_
              refine J.iaddN (pc := 120) G dX4_pieces_120 ?_
              refine J.mmax (pc := 121) G q874 dX4_pieces_121 (by decide) (Nat.le_of_ble_eq_true rfl) rfl (by omega) (by omega) (by omega) (by omega) ?_
              refine J.istore (L' := [_, _, _, _, _, _, _, _, _, _]) (pc := 124) G dX4_pieces_124 rfl (Nat.le_of_ble_eq_true rfl) rfl ?_
              refine J.goto (pc := 126) (tgt := 41) G dX4_pieces_126 (by decide) ?_
              exact ih2 (max (fr + d) (fr + 1), q', M') ⟨by dsimp only; omega, a1, a2, a3, a4⟩ (by dsimp only; omega) _
            refine J.iload (pc := 79) G dX4_pieces_79 rfl ?_
            refine J.iload (pc := 81) G dX4_pieces_81 rfl ?_
            refine J.icmp_leN (pc := 83) (tgt := 115) G dX4_pieces_83 (by decide) (by omega) (by omega) (fun h6 => ?_) (fun h6 => ?_)
            · have hd0 : d = 0 := by omega
              subst hd0
              have hoff : set.testBit (gd w fr) = false := by
                rcases hend with q9 | q9
                · omega
                · exact q9
              have e1 : max (fr + 0) (fr + 1) = fr + 1 := by omega
              rw [e1] at K115
              have e2 : tkT set true (q0, []) w (fr + 1) = (clS (tkT set true (q0, []) w fr), []) := by rw [tkT_s, clS_off hoff]
              exact K115 q M (by rw [e2, clS_nil]; exact hqc) (Or.inl (by rw [e2])) hP hFr
            · have hon : set.testBit (gd w fr) = true := hmem 0 (by omega)
              have hnil : (tkT set true (q0, []) w fr).2 = [] := by
                rcases hal with q9 | q9 | q9
                · exact q9
                · omega
                · rw [hon] at q9; cases q9
              have e0 : tkT set true (q0, []) w fr = (q, []) := by
                have : clS (tkT set true (q0, []) w fr) = (tkT set true (q0, []) w fr).1 := by
                  unfold clS
                  rw [hnil]
                  rfl
                exact Prod.ext (by rw [hqc, this]) hnil
              have e2 := tkT_run e0 d hmem
              have e1 : max (fr + d) (fr + 1) = fr + d := by omega
              rw [e1] at K115
              have hsl := slc_len (w := w) (a := fr) d
              have e3 : clS (tkT set true (q0, []) w (fr + d)) = q ++ [slc w fr d] := by
                rw [e2]
                unfold clS
                rw [if_pos (by dsimp only; omega)]
              have hmo := clS_mono (part := set) (s := (q0, [])) (t := w) (k := fr + d) (w.length - (fr + d))
              rw [show fr + d + (w.length - (fr + d)) = w.length by omega, e3, tot_app, List.length_append, List.length_singleton, hsl] at hmo
              have hla : (q ++ [slc w fr d]).length = q.length + 1 := by rw [List.length_append]; rfl
              have hta := tot_app (tr := q) (w := slc w fr d)
              rw [hsl] at hta
              obtain ⟨f, hbf, hrf⟩ := hP
              refine J.aload_n (pc := 86) G dX4_pieces_86 rfl ?_
              refine J.iload_n (pc := 87) G dX4_pieces_87 rfl ?_
              refine J.iload (pc := 88) G dX4_pieces_88 rfl ?_
              refine J.iload (pc := 90) G dX4_pieces_90 rfl ?_
              refine J.isubN (pc := 92) G dX4_pieces_92 (by omega) ?_
              rw [show fr + d - fr = d by omega]
              refine J.newI (pc := 93) G q62 dX4_pieces_93 (by omega) (by omega) (by omega) (fun M2 hput2 hag2 => ?_)
              refine J.aastR (pc := 95) G dX4_pieces_95 ((hag2 n (by omega)).trans hbf) hput2 q.length rfl (by omega) (by omega) (fun M3 hput3 hag3 => ?_)
              refine J.aload (pc := 96) G dX4_pieces_96 rfl ?_
              refine J.iload (pc := 98) G dX4_pieces_98 rfl ?_
              refine J.aload_n (pc := 100) G dX4_pieces_100 rfl ?_
              refine J.iload_n (pc := 101) G dX4_pieces_101 rfl ?_
              refine J.aald (pc := 102) G dX4_pieces_102 hput3 (Or.inl rfl) q.length rfl (by omega) (by omega) (va_up_self _ _ _) ?_
              refine J.iconstN (pc := 103) G dX4_pieces_103 0 rfl ?_
              refine J.iload (pc := 104) G dX4_pieces_104 rfl ?_
              refine J.iload (pc := 106) G dX4_pieces_106 rfl ?_
              refine J.isubN (pc := 108) G dX4_pieces_108 (by omega) ?_
              rw [show fr + d - fr = d by omega]
              refine J.copyI (pc := 109) G (f := e) q849 q851 q850 q13 dX4_pieces_109 (by decide) (Nat.le_of_ble_eq_true rfl) rfl ((hag3 r (by omega)).trans ((hag2 r (by omega)).trans hM)) ((hag3 _ (by omega)).trans hput2) (by omega) (by omega) (by omega) (by omega) (fun M4 hput4 hag4 => ?_)
              refine J.iincN (L' := [_, _, _, _, _, _, _, _, _, _]) (pc := 112) G dX4_pieces_112 1 rfl rfl rfl rfl ?_
              have hPn : LgP M4 n (12 * (tr.length + 1)) (q ++ [slc w fr d]) (n + 1) (n + 1 + q.length + 1) := LgP.push hrf ((hag4 n (by omega)).trans hput3) (by omega) (by rw [hsl]; exact hput4) (fun i hi => by
                rw [hsl] at hi
                rw [slc_gd d i hi]
                unfold va_cpy
                rw [if_pos ⟨Nat.zero_le _, by omega⟩, show fr + (i - 0) = fr + i by omega]
                exact he (fr + i) (by omega)) (fun x g1 g2 => (hag4 x (by omega)).trans ((hag3 x (by omega)).trans (hag2 x (by omega))))
              refine J.nn (n' := n + 1 + (q ++ [slc w fr d]).length) (by omega) ?_
              refine J.wid (k' := 1 + (q ++ [slc w fr d]).length) (z' := 12 * (tr.length + 1) + tot (q ++ [slc w fr d])) (by omega) (by omega) ?_
              rw [← hla]
              refine K115 _ M4 e3.symm (Or.inr hend) ?_ (fun x hx => (hag4 x (by omega)).trans ((hag3 x (by omega)).trans ((hag2 x (by omega)).trans (hFr x hx))))
              rw [hla, show n + 1 + (q.length + 1) = n + 1 + q.length + 1 by omega]
              exact hPn
          have K3 : ∀ d : Nat, (fr + d ≤ w.length ∧ ∀ j, j < d → set.testBit (gd w (fr + j)) = true) → J g (1 + q.length) (12 * (tr.length + 1) + tot q) (n + 1 + q.length) M [some (.ref b), some (.int (iI (set : Int))), some (.ref n), some (.int (iI (q.length : Int))), some (.ref b), some (.int (iI (tr.length : Int))), some (.int (iI (t : Int))), some (.ref r), some (.int (iI (fr : Int))), some (.int (iI ((fr + d : Nat) : Int)))] 53 [] := by
            refine loopJ (fun d => w.length - d) _ _ ?_
            rintro d ⟨hd, hmem⟩ ih3
            have hmo := clS_mono (part := set) (s := (q0, [])) (t := w) (k := fr) (w.length - fr)
            rw [show fr + (w.length - fr) = w.length by omega, ← hqc] at hmo
            refine J.iload (pc := 53) G dX4_pieces_53 rfl ?_
            refine J.aload (pc := 55) G dX4_pieces_55 rfl ?_
            refine J.alenI (pc := 57) G dX4_pieces_57 hM ?_
            refine J.icmp_geN (pc := 58) (tgt := 79) G dX4_pieces_58 (by decide) (by omega) (by omega) (fun h6 => ?_) (fun h6 => ?_)
            · exact K79 d hd hmem (Or.inl (by omega))
            · have g1 := hl9 (fr + d) h6
              have ej := he (fr + d) h6
              refine J.iload_n (pc := 61) G dX4_pieces_61 rfl ?_
              refine J.aload (pc := 62) G dX4_pieces_62 rfl ?_
              refine J.iload (pc := 64) G dX4_pieces_64 rfl ?_
              refine J.ialdN (pc := 66) G dX4_pieces_66 hM h6 (by omega) ?_
              rw [ej]
              refine J.callS (pc := 67) (na := 2) G (m_has (n + 1 + q.length) M (m := set) (l := gd w (fr + d)) (by omega) (by omega)) q805 q806 q807 q5 (by decide +kernel) dX4_pieces_67 rfl (Nat.le_of_ble_eq_true rfl) rfl ⟨by omega, by decide, by omega, by omega⟩ ?_
              rintro r9 n9 M9 ⟨hr9, hn9, hM9⟩
              subst hr9
              rw [hn9, hM9]
              clear hn9 hM9 n9 M9
              dsimp only [Option.toList, List.cons_append, List.nil_append]
              refine J.if_eq_b (pc := 70) (tgt := 79) G dX4_pieces_70 (by decide) (fun hb1 => ?_) (fun hb1 => ?_)
              · exact K79 d hd hmem (Or.inr hb1)
              · refine J.iincN (L' := [_, _, _, _, _, _, _, _, _, _]) (pc := 73) G dX4_pieces_73 1 rfl rfl rfl rfl ?_
                refine J.goto (pc := 76) (tgt := 53) G dX4_pieces_76 (by decide) ?_
                exact ih3 (d + 1) ⟨by omega, fun j hj => by
                  by_cases ej2 : j = d
                  · rw [ej2]; exact hb1
                  · exact hmem j (by omega)⟩ (by omega)
          exact K3 0 ⟨by omega, fun j hj => absurd hj (Nat.not_lt_zero j)⟩
      exact K2 (0, q0, M) ⟨Nat.zero_le _, rfl, Or.inl rfl, hP, hFr⟩ _
  exact K1 (0, [], M) ⟨Nat.zero_le _, rfl, Nat.zero_le _, ⟨_, hput, fun j hj => absurd hj (Nat.not_lt_zero j)⟩, fun x hx => hag x (by omega)⟩ _ _ _
end PIECES1
