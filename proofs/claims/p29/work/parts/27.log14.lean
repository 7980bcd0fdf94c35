section LOG14
def GoodL (tr : List (List Nat)) : Prop := LabL tr ∧ tr.length ≤ 120 ∧ tot tr ≤ 120
def LogM (A : Nat → Nat → Nat) (S : Nat → Nat) (tr : List (List Nat)) : Prop := LogIs A S tr ∧ MsAt S (mL tr) ∧ ∀ j, j < 8 → A 3 j = (mL tr).2.2.2.2 j
def tkL (part : Nat) (sp keep : Bool) (q : List (List Nat)) (t : List Nat) : List (List Nat) := if keep || decide ((tkT part sp (q, []) t t.length).2.length ≠ 0) then (tkT part sp (q, []) t t.length).1 ++ [(tkT part sp (q, []) t t.length).2] else (tkT part sp (q, []) t t.length).1
def takeI (part : Nat) (sp keep : Bool) (tr : List (List Nat)) (k : Nat) : List (List Nat) := it (fun i q => tkL part sp keep q (tr.getD i [])) [] k
/-- the log of a part -/
def takeF (tr : List (List Nat)) (part kind : Nat) : List (List Nat) := takeI part (decide (kind = 5)) (decide (kind = 3 ∨ kind = 4)) tr tr.length
def LabS (s : List (List Nat) × List Nat) : Prop := LabL s.1 ∧ Lab8 s.2
theorem LabL.app {tr : List (List Nat)} {w : List Nat} (h : LabL tr) (hw : Lab8 w) : LabL (tr ++ [w]) := by
  intro t ht
  rw [getD_app]
  split
  · exact hw
  · exact h t (by rw [List.length_append, List.length_singleton] at ht; omega)
theorem tkT_lab {part : Nat} {sp : Bool} {s : List (List Nat) × List Nat} {t : List Nat} (hs : LabS s) (ht : Lab8 t) {k : Nat} (hk : k ≤ t.length) : LabS (tkT part sp s t k) :=
  it_inv (fun _ q => LabS q) k hs (fun i q hi hq => by
    unfold tkS
    split
    · refine ⟨hq.1, fun j hj => ?_⟩
      dsimp only at hj ⊢
      rw [List.length_append, List.length_singleton] at hj
      rw [gd_snoc]
      split
      · exact ht i (by omega)
      · exact hq.2 j (by omega)
    · split
      · exact ⟨hq.1.app hq.2, fun j hj => absurd hj (Nat.not_lt_zero j)⟩
      · exact hq)
theorem tkL_tot {part : Nat} {sp keep : Bool} {q : List (List Nat)} {t : List Nat} : tot (tkL part sp keep q t) ≤ tot q + t.length := by
  have h := tkT_tot (part := part) (sp := sp) (s := (q, [])) (t := t) t.length
  unfold tkL
  split
  · rw [tot_app]; simpa using h
  · have : (([] : List Nat)).length = 0 := rfl
    dsimp only at h
    omega
theorem takeI_tot {part : Nat} {sp keep : Bool} {tr : List (List Nat)} : ∀ k, tot (takeI part sp keep tr k) ≤ ofs tr k
  | 0 => Nat.le_refl 0
  | k + 1 => by
    have h1 := takeI_tot (part := part) (sp := sp) (keep := keep) (tr := tr) k
    have h2 := tkL_tot (part := part) (sp := sp) (keep := keep) (q := takeI part sp keep tr k) (t := tr.getD k [])
    rw [ofs_s]
    have e : takeI part sp keep tr (k + 1) = tkL part sp keep (takeI part sp keep tr k) (tr.getD k []) := rfl
    rw [e]
    omega
theorem takeI_lab {part : Nat} {sp keep : Bool} {tr : List (List Nat)} (h : LabL tr) {k : Nat} (hk : k ≤ tr.length) : LabL (takeI part sp keep tr k) :=
  it_inv (fun _ q => LabL q) k (fun t ht => absurd ht (Nat.not_lt_zero t)) (fun i q hi hq => by
    have h1 := tkT_lab (part := part) (sp := sp) (s := (q, [])) (t := tr.getD i []) ⟨hq, fun j hj => absurd hj (Nat.not_lt_zero j)⟩ (h i (by omega)) (Nat.le_refl _)
    unfold tkL
    split
    · exact h1.1.app h1.2
    · exact h1.1)
/-- how many traces there are -/
theorem takeI_cnt {part : Nat} {sp keep : Bool} {tr : List (List Nat)} (hks : keep = true → sp = false) (k : Nat) : (keep = false → (takeI part sp keep tr k).length ≤ tot (takeI part sp keep tr k)) ∧ (keep = true → (takeI part sp keep tr k).length = k) :=
  it_inv (fun i (q : List (List Nat)) => (keep = false → q.length ≤ tot q) ∧ (keep = true → q.length = i)) k ⟨fun _ => Nat.le_refl 0, fun _ => rfl⟩ (fun i q hi hq => by
    refine ⟨fun hk => ?_, fun hk => ?_⟩
    · have h1 := tkT_pc (part := part) (sp := sp) (s := (q, [])) (t := tr.getD i []) (hq.1 hk) (tr.getD i []).length
      unfold tkL
      split
      · rename_i hc
        rw [hk, Bool.false_or] at hc
        have hc2 := of_decide_eq_true hc
        rw [tot_app, List.length_append, List.length_singleton]
        omega
      · exact h1
    · have h1 := tkT_keep (part := part) (s := (q, [])) (t := tr.getD i []) (tr.getD i []).length
      unfold tkL
      rw [if_pos (by rw [hk]; rfl), hks hk, List.length_append, List.length_singleton, h1, hq.2 hk])
theorem takeF_good {tr : List (List Nat)} {part kind : Nat} (h : GoodL tr) : GoodL (takeF tr part kind) := by
  obtain ⟨h1, h2, h3⟩ := h
  have ht := takeI_tot (part := part) (sp := decide (kind = 5)) (keep := decide (kind = 3 ∨ kind = 4)) (tr := tr) tr.length
  have hc := takeI_cnt (part := part) (sp := decide (kind = 5)) (keep := decide (kind = 3 ∨ kind = 4)) (tr := tr) (fun q => by simp at q ⊢; omega) tr.length
  refine ⟨takeI_lab h1 (Nat.le_refl _), ?_, Nat.le_trans ht h3⟩
  unfold takeF
  cases hb : decide (kind = 3 ∨ kind = 4)
  · rw [hb] at hc ht
    have h4 := hc.1 rfl
    have e : tot tr = ofs tr tr.length := rfl
    omega
  · rw [hb] at hc
    rw [hc.2 rfl]; exact h2
set_option maxRecDepth 100000 in
set_option maxHeartbeats 4000000 in
theorem c_take (n : Nat) (M0 : AH) {a b part kind : Nat} {A B : Nat → Nat → Nat} {S T : Nat → Nat} {tr : List (List Nat)} (hL : Cl M0 a (logC a A S)) (hF : Cl M0 b (logC b B T)) (hab : a + 7 ≤ b ∨ b + 7 ≤ a) (hlg : LogIs B T tr) (hgd : GoodL tr) (hpart : part < 256) (hkind : kind ≤ 6) : Fn yX0_take cX0_take 7 none 2 [.ref a, .ref b, .int (iI (part : Int)), .int (iI (kind : Int))] n M0 0 0 (fun r n' M' => r = none ∧ n' = n ∧ (∃ A' S', Cl M' a (logC a A' S') ∧ LogM A' S' (takeF tr part kind)) ∧ Fr a (a + 7) M0 M') := by
  refine Fn.of (by decide) [some _, some _, some _, some _, none, none, none] rfl rfl (Nat.le_of_ble_eq_true rfl) ?_
  intro g G hin hO
  have hgt := takeF_good (part := part) (kind := kind) hgd
  obtain ⟨hl8, hn120, ht120⟩ := hgd
  obtain ⟨g3, g2, g5, g1, -⟩ := hlg
  have hFx : ∀ M, Fr a (a + 7) M0 M → Cl M b (logC b B T) := fun M h => hF.fr h (by simp; omega)
  have main : J g 0 0 n M0 [some (.ref a), some (.ref b), some (.int (iI (part : Int))), some (.int (iI (kind : Int))), none, none, none] 15 [.int (iI ((if decide (kind = 3 ∨ kind = 4) then 1 else 0 : Nat) : Int))] := by
    have htf : takeF tr part kind = takeI part (decide (kind = 5)) (decide (kind = 3 ∨ kind = 4)) tr tr.length := rfl
    have hks : decide (kind = 3 ∨ kind = 4) = true → decide (kind = 5) = false := fun q => by simp at q ⊢; omega
    have hsp9 : decide (kind = 5) = true ↔ kind = 5 := decide_eq_true_iff
    generalize decide (kind = 3 ∨ kind = 4) = keep at htf hks
    generalize decide (kind = 5) = sp at htf hks hsp9
    refine J.istore (L' := [_, _, _, _, _, _, _]) (pc := 15) G dX0_take_15 rfl (Nat.le_of_ble_eq_true rfl) rfl ?_
    refine J.aload_n (pc := 17) G dX0_take_17 rfl ?_
    refine J.callV (pc := 18) (na := 0) G (c_clear n M0 hL) q306 q179 q180 q181 q4 (by decide +kernel) dX0_take_18 (hL.at 0 rfl) rfl rfl (Nat.le_of_ble_eq_true rfl) rfl ⟨by omega, by decide, by omega, by omega⟩ ?_
    rintro r9 n9 M ⟨hr9, hn9, ⟨hL, hFr⟩⟩
    subst hr9
    rw [hn9]
    clear hn9 n9
    dsimp only [Option.toList, List.cons_append, List.nil_append]
    have hlg0 : LogOp A (upN (upN S 2 0) 3 0) [] [] := ⟨rfl, rfl, fun t ht => absurd ht (Nat.not_lt_zero t), fun t ht => absurd ht (Nat.not_lt_zero t), fun t ht => absurd ht (Nat.not_lt_zero t)⟩
    generalize upN (upN S 2 0) 3 0 = S1 at hL hlg0
    refine J.iconstN (pc := 21) G dX0_take_21 0 rfl ?_
    refine J.istore (L' := [_, _, _, _, _, _, _]) (pc := 22) G dX0_take_22 rfl (Nat.le_of_ble_eq_true rfl) rfl ?_
    refine J.iconstN (pc := 24) G dX0_take_24 0 rfl ?_
    refine J.istore (L' := [_, _, _, _, _, _, _]) (pc := 25) G dX0_take_25 rfl (Nat.le_of_ble_eq_true rfl) rfl ?_
    have K1 : ∀ s : Nat × AH, (s.1 ≤ tr.length ∧ (∃ A' S', Cl s.2 a (logC a A' S') ∧ LogOp A' S' (takeI part sp keep tr s.1) []) ∧ Fr a (a + 7) M0 s.2) → J g 0 0 n s.2 [some (.ref a), some (.ref b), some (.int (iI (part : Int))), some (.int (iI (kind : Int))), some (.int (iI ((if keep then 1 else 0 : Nat) : Int))), some (.int (iI (ofs tr s.1 : Int))), some (.int (iI (s.1 : Int)))] 27 [] := by
      refine loopJ (fun s => tr.length - s.1) _ _ ?_
      rintro ⟨t, M⟩ ⟨ht, ⟨A1, S1, hL, hlg⟩, hFr⟩ ih
      dsimp only at ht hL hlg hFr ih ⊢
      have hF := hFx M hFr
      have hstep : takeI part sp keep tr (t + 1) = tkL part sp keep (takeI part sp keep tr t) (tr.getD t []) := rfl
      have htot := takeI_tot (part := part) (sp := sp) (keep := keep) (tr := tr) t
      have hcnt := takeI_cnt (part := part) (sp := sp) (keep := keep) (tr := tr) hks t
      have hend : t = tr.length → takeI part sp keep tr t = takeF tr part kind := fun e => by rw [htf, e]
      generalize hq : takeI part sp keep tr t = q at hlg hstep htot hcnt hend
      refine J.iload (pc := 27) G dX0_take_27 rfl ?_
      refine J.aload_n (pc := 29) G dX0_take_29 rfl ?_
      refine J.getf (pc := 30) (ci := 0) G inX0 rfl 3 q90 dX0_take_30 (hF.at 0 rfl) (by decide) rfl ?_; rw [g3]
      refine J.icmp_geN (pc := 33) (tgt := 96) G dX0_take_33 (by decide) (by omega) (by omega) (fun h => ?_) (fun h => ?_)
      · rw [hend (by omega)] at hlg
        refine J.aload_n (pc := 96) G dX0_take_96 rfl ?_
        refine J.callV (pc := 97) (na := 0) G (c_measure n M hL hlg hgt.1 hgt.2.1 hgt.2.2) q317 q191 q192 q193 q4 (by decide +kernel) dX0_take_97 (hL.at 0 rfl) rfl rfl (Nat.le_of_ble_eq_true rfl) rfl ⟨by omega, by decide, by omega, by omega⟩ ?_
        rintro r9 n9 M ⟨hr9, hn9, ⟨⟨A9, S9, hL9, hlg9, hms9, hnx9⟩, hFr9⟩⟩
        subst hr9
        rw [hn9]
        clear hn9 n9
        dsimp only [Option.toList, List.cons_append, List.nil_append]
        exact J.vret (pc := 100) G hO dX0_take_100 (Nat.le_refl _) (Nat.le_refl _) ⟨rfl, rfl, ⟨A9, S9, hL9, hlg9, hms9, hnx9⟩, hFr.trans hFr9⟩
      · have ht2 : t < tr.length := by omega
        have b9 : ofs tr (t + 1) ≤ 120 := Nat.le_trans (ofs_le (by omega)) ht120
        have a2 : B 2 t = ofs tr (t + 1) := g5 t ht2
        have hl9 := hl8 t ht2
        have g9 := g1 t ht2
        rw [ofs_s] at b9 a2
        have nxo : ofs tr (t + 1) = ofs tr t + (tr.getD t []).length := rfl
        generalize hw : tr.getD t [] = w at hstep b9 a2 hl9 g9 nxo
        have hq120 : q.length ≤ 120 := by
          cases hb : keep
          · have := hcnt.1 hb; omega
          · have := hcnt.2 hb; omega
        have hspq : sp = true → q.length ≤ tot q := fun q9 => hcnt.1 (by cases hb : keep; rfl; rw [hks hb] at q9; exact absurd q9 (by decide))
        have nxt : ∀ (M : AH) (A' : Nat → Nat → Nat) (S' : Nat → Nat), Cl M a (logC a A' S') → LogOp A' S' (takeI part sp keep tr (t + 1)) [] → Fr a (a + 7) M0 M → J g 0 0 n M [some (.ref a), some (.ref b), some (.int (iI (part : Int))), some (.int (iI (kind : Int))), some (.int (iI ((if keep then 1 else 0 : Nat) : Int))), some (.int (iI (ofs tr t : Int))), some (.int (iI (t : Int)))] 81 [] := by
          intro M A' S' hL hlg hFr
          have hF := hFx M hFr
          refine J.aload_n (pc := 81) G dX0_take_81 rfl ?_
          refine J.getf (pc := 82) (ci := 0) G inX0 rfl 1 q88 dX0_take_82 (hF.at 0 rfl) (by decide) rfl ?_
          refine J.iload (pc := 85) G dX0_take_85 rfl ?_
          refine J.ialdN (pc := 87) G dX0_take_87 (hF.at 2 rfl) (by omega) (by decide) ?_; rw [a2, ← nxo]
          refine J.istore (L' := [_, _, _, _, _, _, _]) (pc := 88) G dX0_take_88 rfl (Nat.le_of_ble_eq_true rfl) rfl ?_
          refine J.iincN (L' := [_, _, _, _, _, _, _]) (pc := 90) G dX0_take_90 1 rfl rfl rfl rfl ?_
          refine J.goto (tgt := 27) (pc := 93) G dX0_take_93 (by decide) ?_
          exact ih (t + 1, M) ⟨by dsimp only; omega, ⟨A', S', hL, hlg⟩, hFr⟩ (by dsimp only; omega)
        have call : J g 0 0 n M [some (.ref a), some (.ref b), some (.int (iI (part : Int))), some (.int (iI (kind : Int))), some (.int (iI ((if keep then 1 else 0 : Nat) : Int))), some (.int (iI (ofs tr t : Int))), some (.int (iI (t : Int)))] 58 [.int (bI sp), .int (iI (part : Int)), .int (iI ((ofs tr t + w.length : Nat) : Int)), .int (iI (ofs tr t : Int)), .ref b, .ref a] := by
          have hev : tot q + ([] : List Nat).length + w.length ≤ 120 := by have : ([] : List Nat).length = 0 := rfl; omega
          refine J.callV (pc := 58) (na := 5) G (c_takeTrace n M (o := ofs tr t) (part := part) (sp := sp) (tr := q) (w := []) (t := w) hL hF hab hlg g9 hl9 b9 hpart hev hq120 hspq) q307 q309 qp19 q310 q4 (by decide +kernel) dX0_take_58 (hL.at 0 rfl) rfl rfl (Nat.le_of_ble_eq_true rfl) rfl ⟨by omega, by decide, by omega, by omega⟩ ?_
          rintro r9 n9 M ⟨hr9, hn9, ⟨⟨A2, S2, hL, hlg⟩, hFr2⟩⟩
          subst hr9
          rw [hn9]
          clear hn9 n9
          dsimp only [Option.toList, List.cons_append, List.nil_append]
          have hFr := hFr.trans hFr2
          have htt := tkT_tot (part := part) (sp := sp) (s := (q, [])) (t := w) w.length
          have htp : sp = true ∨ keep = false → (tkT part sp (q, []) w w.length).1.length ≤ tot (tkT part sp (q, []) w w.length).1 := fun o9 => tkT_pc (s := (q, [])) (by rcases o9 with o9 | o9; exact hspq o9; exact hcnt.1 o9) w.length
          have htk : sp = false → (tkT part sp (q, []) w w.length).1 = q := fun q9 => by rw [q9]; exact tkT_keep (s := (q, [])) w.length
          unfold tkL at hstep
          generalize tkT part sp (q, []) w w.length = r at hstep htt htp htk hlg
          obtain ⟨r1, r2⟩ := r
          dsimp only at hstep htt htp htk hlg
          obtain ⟨g3, g2, -⟩ := id hlg
          have h0 : ([] : List Nat).length = 0 := rfl
          have close : (keep || decide (r2.length ≠ 0)) = true → J g 0 0 n M [some (.ref a), some (.ref b), some (.int (iI (part : Int))), some (.int (iI (kind : Int))), some (.int (iI ((if keep then 1 else 0 : Nat) : Int))), some (.int (iI (ofs tr t : Int))), some (.int (iI (t : Int)))] 77 [] := by
            intro hc
            rw [if_pos hc] at hstep
            have hr1 : r1.length < 120 := by
              cases hb : keep
              · rw [hb] at hc
                have h1 := htp (Or.inr hb)
                simp at hc
                have := List.length_pos_iff.mpr hc
                omega
              · rw [htk (hks hb)]
                have := hcnt.2 hb
                omega
            refine J.aload_n (pc := 77) G dX0_take_77 rfl ?_
            refine J.callV (pc := 78) (na := 0) G (c_closeTrace n M hL (by omega)) q316 q187 q188 q189 q4 (by decide +kernel) dX0_take_78 (hL.at 0 rfl) rfl rfl (Nat.le_of_ble_eq_true rfl) rfl ⟨by omega, by decide, by omega, by omega⟩ ?_
            rintro r9 n9 M ⟨hr9, hn9, ⟨hL, hFr3⟩⟩
            subst hr9
            rw [hn9]
            clear hn9 n9
            dsimp only [Option.toList, List.cons_append, List.nil_append]
            exact nxt M _ _ hL (by rw [hstep]; exact hlg.close) (hFr.trans hFr3)
          refine J.iload (pc := 61) G dX0_take_61 rfl ?_
          refine J.if_neN (pc := 63) (tgt := 77) G dX0_take_63 (by decide) (by split <;> omega) (fun h9 => ?_) (fun h9 => ?_)
          · have hb : keep = true := by cases keep <;> simp_all
            exact close (by rw [hb]; rfl)
          · have hb : keep = false := by cases keep <;> simp_all
            refine J.aload_n (pc := 66) G dX0_take_66 rfl ?_
            refine J.getf (pc := 67) (ci := 0) G inX0 rfl 2 q89 dX0_take_67 (hL.at 0 rfl) (by decide) rfl ?_
            refine J.aload_n (pc := 70) G dX0_take_70 rfl ?_
            refine J.callV (pc := 71) (na := 0) G (c_openStart n M hL (by have := htp (Or.inr hb); omega)) q312 q314 qp20 q315 q4 (by decide +kernel) dX0_take_71 (hL.at 0 rfl) rfl rfl (Nat.le_of_ble_eq_true rfl) rfl ⟨by omega, by decide, by omega, by omega⟩ ?_
            rintro r9 n9 M9 ⟨hr9, hn9, hM9⟩
            subst hr9
            rw [hn9, hM9]
            clear hn9 hM9 n9 M9
            dsimp only [Option.toList, List.cons_append, List.nil_append]
            rw [hlg.opn]
            refine J.icmp_leN (pc := 74) (tgt := 81) G dX0_take_74 (by decide) (by omega) (by omega) (fun h5 => ?_) (fun h5 => ?_)
            · have hr : r2.length = 0 := by omega
              refine nxt M _ _ hL ?_ hFr
              rw [hstep, hb, if_neg (by simp; exact List.eq_nil_of_length_eq_zero hr)]
              rw [List.eq_nil_of_length_eq_zero hr] at hlg
              exact hlg
            · exact close (by rw [hb]; simp; intro q9; rw [q9] at g2; simp at g2; omega)
        refine J.aload_n (pc := 36) G dX0_take_36 rfl ?_
        refine J.aload_n (pc := 37) G dX0_take_37 rfl ?_
        refine J.iload (pc := 38) G dX0_take_38 rfl ?_
        refine J.aload_n (pc := 40) G dX0_take_40 rfl ?_
        refine J.getf (pc := 41) (ci := 0) G inX0 rfl 1 q88 dX0_take_41 (hF.at 0 rfl) (by decide) rfl ?_
        refine J.iload (pc := 44) G dX0_take_44 rfl ?_
        refine J.ialdN (pc := 46) G dX0_take_46 (hF.at 2 rfl) (by omega) (by decide) ?_; rw [a2]
        refine J.iload_n (pc := 47) G dX0_take_47 rfl ?_
        refine J.iload_n (pc := 48) G dX0_take_48 rfl ?_
        refine J.iconstN (pc := 49) G dX0_take_49 5 rfl ?_
        refine J.icmp_neN (pc := 50) (tgt := 57) G dX0_take_50 (by decide) (by omega) (by omega) (fun h5 => ?_) (fun h5 => ?_)
        · have hb : sp = false := by cases hb : sp; rfl; exact absurd (hsp9.mp hb) h5
          refine J.iconstN (pc := 57) G dX0_take_57 0 rfl ?_
          exact J.topv (by rw [hb]; decide +kernel) call
        · have hb : sp = true := hsp9.mpr h5
          refine J.iconstN (pc := 53) G dX0_take_53 1 rfl ?_
          refine J.goto (tgt := 58) (pc := 54) G dX0_take_54 (by decide) ?_
          exact J.topv (by rw [hb]; decide +kernel) call
    exact K1 (0, M) ⟨Nat.zero_le _, ⟨A, S1, hL, hlg0⟩, hFr⟩
  refine J.iload_n (pc := 0) G dX0_take_0 rfl ?_
  refine J.iconstN (pc := 1) G dX0_take_1 3 rfl ?_
  refine J.icmp_eqN (pc := 2) (tgt := 10) G dX0_take_2 (by decide) (by omega) (by omega) (fun h3 => ?_) (fun h3 => ?_)
  · refine J.iconstN (pc := 10) G dX0_take_10 1 rfl ?_
    refine J.goto (tgt := 15) (pc := 11) G dX0_take_11 (by decide) ?_
    rw [decide_eq_true (Or.inl h3)] at main
    exact main
  · refine J.iload_n (pc := 5) G dX0_take_5 rfl ?_
    refine J.iconstN (pc := 6) G dX0_take_6 4 rfl ?_
    refine J.icmp_neN (pc := 7) (tgt := 14) G dX0_take_7 (by decide) (by omega) (by omega) (fun h4 => ?_) (fun h4 => ?_)
    · refine J.iconstN (pc := 14) G dX0_take_14 0 rfl ?_
      rw [decide_eq_false (by omega)] at main
      exact main
    · refine J.iconstN (pc := 10) G dX0_take_10 1 rfl ?_
      refine J.goto (tgt := 15) (pc := 11) G dX0_take_11 (by decide) ?_
      rw [decide_eq_true (Or.inr h4)] at main
      exact main
end LOG14
